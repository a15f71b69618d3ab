/** Promise 18: undo. */
public final class UndoTest {
    private UndoTest() {
    }

    /** The hash of all but the saved states and the buffer, as far as the looks tell. */
    private static long looks(PensionSections x) {
        long hash = 7;
        for (int what = 0; what < 7; what++) {
            hash = 31 * hash + x.count(what);
        }
        for (int what = 0; what < 6; what++) {
            hash = 31 * hash + x.sum(what);
        }
        for (int setting = 0; setting < 4; setting++) {
            hash = 31 * hash + x.setting(setting);
        }
        for (int i = 0; i < 9; i++) {
            hash = 31 * hash + x.sectionOf(i / 3, i % 3);
        }
        for (int i = 0; i < 96; i++) {
            hash = 31 * hash + x.member(i / 12, i % 12);
        }
        for (int place = 0; place < x.count(1); place++) {
            int number = x.member(place, 0);
            for (int i = 0; i < 240; i++) {
                hash = 31 * hash + x.late(number, i / 4, i % 4);
            }
        }
        return hash;
    }

    private static PensionSections some() {
        PensionSections x = new PensionSections();
        x.join(0, 1000, 700);
        x.join(1, 2000, 776);
        x.join(2, 3000, 300);
        x.transfer(1, 100000);
        x.fallBehind(0, true);
        x.fallBehind(2, true);
        x.set(1, 3);
        x.pass(6);
        return x;
    }

    private static void undoes(String what, PensionSections x, Check.Call call) {
        long before = looks(x);
        int saved = x.count(7);
        call.answer();
        int savedThen = Math.min(6, saved + 1);
        Check.same(what + " saves", x.count(7), savedThen);
        Check.same("left of " + what, x.undo(), savedThen - 1);
        Check.same("undone " + what, looks(x), before);
    }

    private static void eachMethod() {
        PensionSections x = some();
        undoes("section", x, () -> x.section(0, 10, 20));
        undoes("section as it is", x, () -> x.section(0, 100, 60));
        undoes("close", x, () -> x.close(1, true));
        undoes("close as it is", x, () -> x.close(1, false));
        undoes("join", x, () -> x.join(0, 1, 200));
        undoes("leave", x, () -> x.leave(0));
        undoes("leave of a retired one", x, () -> x.leave(1));
        undoes("pay", x, () -> x.pay(0, 2));
        undoes("pay as it is", x, () -> x.pay(0, 1000));
        undoes("change", x, () -> x.change(0, 1));
        undoes("fallBehind", x, () -> x.fallBehind(0, false));
        undoes("fallBehind as it is", x, () -> x.fallBehind(0, true));
        undoes("payLate", x, () -> x.payLate(0, 205));
        undoes("payLate of nothing", x, () -> x.payLate(0, 1));
        undoes("transfer", x, () -> x.transfer(0, 4000));
        undoes("retire", x, () -> x.retire(0));
        undoes("set", x, () -> x.set(2, 50));
        undoes("set as it is", x, () -> x.set(2, 5));
        undoes("pass", x, () -> x.pass(1));
        undoes("pass of many", x, () -> x.pass(120));
        Check.write(x, "1s0a20+5;2s1a30");
        undoes("joinAll", x, x::joinAll);
    }

    private static void sixAtMost() {
        PensionSections x = new PensionSections();
        Check.noState("none", x, x::undo);
        for (int pay = 1; pay <= 9; pay++) {
            x.join(0, pay, 300);
            x.leave(pay - 1);
        }
        Check.same("6 are saved", x.count(7), 6);
        int[] firsts = {9, -1, 8, -1, 7, -1};
        for (int i = 0; i < 6; i++) {
            Check.same("left", x.undo(), 5 - i);
            Check.same("the pay", x.member(0, 2), firsts[i]);
        }
        Check.noState("none is left", x, x::undo);
        x.set(0, 700);
        Check.same("one is saved", x.count(7), 1);
        Check.same("none is left", x.undo(), 0);
        Check.same("a number that was undone comes again", x.join(0, 1, 300), 6);
    }

    private static void whatIsRefusedSavesNothing() {
        PensionSections x = new PensionSections();
        x.join(0, 1, 300);
        Check.noArgument("join", x, () -> x.join(0, 0, 300));
        Check.noIndex("leave", x, () -> x.leave(5));
        Check.noState("retire", x, () -> x.retire(0));
        Check.same("one is saved", x.count(7), 1);
        Check.same("none is left", x.undo(), 0);
        Check.same("nobody is there", x.count(1), 0);
    }

    private static void theBufferStays() {
        PensionSections x = new PensionSections();
        Check.write(x, "12");
        x.set(0, 700);
        Check.write(x, "34s");
        x.undo();
        Check.same("the buffer", x.clearBuffer(), 3);
    }

    private static void ofALaterStateNothingIsLeft() {
        PensionSections x = some();
        long before = looks(x);
        x.set(1, 60);
        x.pass(50);
        x.leave(1);
        x.join(1, 9, 300);
        x.fallBehind(3, true);
        x.pass(20);
        for (int i = 0; i < 6; i++) {
            x.undo();
        }
        Check.same("six calls undone", looks(x), before);
        x.pass(1);
        Check.same("and it goes on from there", x.late(0, 2, 0), 6);
    }

    public static void main(String[] args) {
        eachMethod();
        sixAtMost();
        whatIsRefusedSavesNothing();
        theBufferStays();
        ofALaterStateNothingIsLeft();
        Check.end();
    }
}
