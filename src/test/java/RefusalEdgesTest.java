import java.util.ArrayList;
import java.util.List;

/** "Exceptions" of the document's terms: which of several is thrown, and a call that throws changes nothing. */
public final class RefusalEdgesTest {
    private RefusalEdgesTest() {
    }

    /** Member 0 is retired, 1 is behind in a closed section, 2 is in an open one; the fund is full. */
    private static PensionSections some() {
        PensionSections x = new PensionSections();
        Make.pensioner(x, 100);
        x.join(1, 1000, 300);
        x.fallBehind(1, true);
        Make.fill(x, Make.bringer(x));
        x.pass(3);
        x.close(1, true);
        Check.write(x, "1s1a20;");
        return x;
    }

    /** IndexOutOfBoundsException is named before IllegalArgumentException. */
    private static void indexBeforeArgument() {
        PensionSections x = some();
        Check.noIndex("section", x, () -> x.section(3, 9, 60));
        Check.noIndex("section", x, () -> x.section(-1, 100, 201));
        Check.noIndex("join", x, () -> x.join(3, 0, 300));
        Check.noIndex("join", x, () -> x.join(-1, 1000, 960));
        Check.noIndex("pay", x, () -> x.pay(5, 0));
        Check.noIndex("payLate", x, () -> x.payLate(5, 0));
        Check.noIndex("transfer", x, () -> x.transfer(5, 10000000));
        Check.noIndex("set", x, () -> x.set(4, -1));
        Check.noIndex("sectionOf", x, () -> x.sectionOf(3, 6));
        Check.noIndex("late", x, () -> x.late(5, -1, 4));
        Check.noIndex("pensionIn", x, () -> x.pensionIn(5, 241));
    }

    /** IllegalArgumentException is named before IllegalStateException. */
    private static void argumentBeforeState() {
        PensionSections x = some();
        Check.noArgument("join of a closed section", x, () -> x.join(1, 0, 300));
        Check.noArgument("join of a closed section", x, () -> x.join(1, 1000, 191));
        Check.noArgument("pay of a retired one", x, () -> x.pay(0, 10000));
        Check.noArgument("payLate of a retired one", x, () -> x.payLate(0, 0));
        Check.noArgument("payLate into a full fund", x, () -> x.payLate(1, 10000000));
        Check.noArgument("transfer of a retired one", x, () -> x.transfer(0, 0));
        Check.noArgument("transfer into a full fund", x, () -> x.transfer(2, 10000000));
        Check.noArgument("transfer into a closed section", x, () -> x.transfer(1, -1));
        Check.noArgument("joinAll of a closed section", x, x::joinAll);
        Check.same("the bringer", x.member(2, 0), 2);
        x.join(0, 1000, 300);
        for (int i = 0; i < 4; i++) {
            x.join(2, 1000, 300);
        }
        Check.noArgument("join of a ninth", x, () -> x.join(0, 0, 300));
        Check.noArgument("join of a ninth", x, () -> x.join(0, 1000, 960));
    }

    /** IndexOutOfBoundsException is named before IllegalStateException. */
    private static void indexBeforeState() {
        PensionSections x = some();
        Check.noIndex("change of a retired one", x, () -> x.change(0, 3));
        Check.noIndex("change of nobody to a closed section", x, () -> x.change(5, 1));
        Check.noIndex("join of a section that is not there", x, () -> x.join(3, 1000, 300));
        Check.noIndex("payLate of nobody", x, () -> x.payLate(5, 9999999));
        Check.noIndex("transfer of nobody", x, () -> x.transfer(5, 9999999));
        Check.noIndex("retire of nobody", x, () -> x.retire(5));
    }

    /** All three at once: the first in the throws clause. */
    private static void allThree() {
        PensionSections x = some();
        Check.noIndex("join", x, () -> x.join(3, 0, 0));
        Check.noIndex("pay", x, () -> x.pay(-1, -1));
        Check.noIndex("payLate", x, () -> x.payLate(-1, -1));
        Check.noIndex("transfer", x, () -> x.transfer(-1, -1));
        for (int far : Make.FAR) {
            Check.noIndex("join", x, () -> x.join(far, far, far));
            Check.noIndex("transfer", x, () -> x.transfer(far, far));
            Check.noIndex("late", x, () -> x.late(far, far, far));
            Check.noArgument("ifPassed", x, () -> x.ifPassed(far, far));
            Check.noArgument("member", x, () -> x.member(far, far));
        }
    }

    /** Calls each of which is refused for the scheme of some(); none of them needs more than one call. */
    private static List<Check.Call> refusedCalls(PensionSections x) {
        List<Check.Call> calls = new ArrayList<>();
        calls.add(() -> x.section(0, 301, 60));
        calls.add(() -> x.section(3, 100, 60));
        calls.add(() -> x.close(-1, true));
        calls.add(() -> x.join(0, 1000, 960));
        calls.add(() -> x.join(1, 1000, 300));
        calls.add(() -> x.leave(9));
        calls.add(() -> x.pay(0, 1000));
        calls.add(() -> x.pay(1, 10000));
        calls.add(() -> x.change(1, 1));
        calls.add(() -> x.change(2, 1));
        calls.add(() -> x.change(0, 0));
        calls.add(() -> x.fallBehind(9, true));
        calls.add(() -> x.payLate(1, 9999999));
        calls.add(() -> x.payLate(0, 1));
        calls.add(() -> x.transfer(1, 1));
        calls.add(() -> x.transfer(2, 9999999));
        calls.add(() -> x.retire(0));
        calls.add(() -> x.retire(1));
        calls.add(() -> x.set(1, 61));
        calls.add(() -> x.pass(121));
        calls.add(() -> x.append(127));
        calls.add(x::joinAll);
        calls.add(() -> x.sectionOf(0, 6));
        calls.add(() -> x.member(0, 12));
        calls.add(() -> x.late(1, 0, 4));
        calls.add(() -> x.count(8));
        calls.add(() -> x.sum(6));
        calls.add(() -> x.setting(4));
        calls.add(() -> x.ifPassed(241, 0));
        calls.add(() -> x.pensionIn(1, 241));
        calls.add(() -> x.bestSection(9));
        return calls;
    }

    private static boolean isRefused(Check.Call call) {
        try {
            call.answer();
            return false;
        } catch (IndexOutOfBoundsException | IllegalArgumentException | IllegalStateException e) {
            return true;
        }
    }

    /** A call that throws changes nothing: not the scheme, nor the saved states, the buffer, or the next number. */
    private static void nothingIsChanged() {
        int calls = refusedCalls(some()).size();
        for (int i = 0; i < calls; i++) {
            PensionSections x = some();
            PensionSections y = some();
            Check.isTrue("refused: call " + i, isRefused(refusedCalls(x).get(i)));
            Check.same("the scheme behind call " + i, x.digest(), y.digest());
            for (int left = 5; left >= 0; left--) {
                Check.same("undo behind call " + i, x.undo(), y.undo());
                Check.same("what was saved before call " + i, x.digest(), y.digest());
            }
            Check.same("the next number behind call " + i, x.join(0, 1000, 300), y.join(0, 1000, 300));
            Check.same("the buffer behind call " + i, x.clearBuffer(), y.clearBuffer());
        }
    }

    /** What is refused may be called again, when the reason is gone. */
    private static void refusedAndThenNot() {
        PensionSections x = new PensionSections();
        x.close(0, true);
        Check.noState("closed", x, () -> x.join(0, 1000, 659));
        x.close(0, false);
        Check.same("open", x.join(0, 1000, 659), 0);
        Check.noState("too young", x, () -> x.retire(0));
        x.pass(1);
        Check.same("old enough", x.retire(0), 1);
        Check.noState("retired", x, () -> x.transfer(0, 2000));
        x.undo();
        Check.same("active again", x.transfer(0, 2000), 1);
    }

    public static void main(String[] args) {
        indexBeforeArgument();
        argumentBeforeState();
        indexBeforeState();
        allThree();
        nothingIsChanged();
        refusedAndThenNot();
        Check.end();
    }
}
