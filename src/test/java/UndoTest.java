/** Promise 18: undo. */
public final class UndoTest {
    private UndoTest() {
    }

    /** Three members, two of them with late months; 5 states are saved, so that the next call drops none. */
    private static PensionSections some() {
        PensionSections x = new PensionSections();
        Check.write(x, "1000s0a58;2000s1a64+99999;3000s2a25");
        x.joinAll();
        x.fallBehind(0, true);
        x.fallBehind(2, true);
        x.set(1, 3);
        x.pass(12);
        Check.same("saved", x.count(7), 5);
        Check.same("one is retired", x.count(2), 1);
        return x;
    }

    private static void undoes(String what, PensionSections x, Check.Call call) {
        long before = x.digest();
        call.answer();
        Check.same(what + " saves", x.count(7), 6);
        Check.same("left of " + what, x.undo(), 5);
        Check.same("undone " + what, x.digest(), before);
    }

    /** The text does not come back by undo; all else does. */
    private static void undoesJoinAll(PensionSections x) {
        String text = "1s0a20+5;2s1a30";
        Check.write(x, text);
        long before = x.digest();
        Check.same("joinAll", x.joinAll(), 5);
        Check.same("joinAll saves", x.count(7), 6);
        Check.same("left of joinAll", x.undo(), 5);
        Check.write(x, text);
        Check.same("undone joinAll", x.digest(), before);
    }

    private static void eachMethod() {
        PensionSections x = some();
        undoes("section", x, () -> x.section(0, 10, 20));
        undoes("section as it is", x, () -> x.section(0, 100, 60));
        undoes("close", x, () -> x.close(1, true));
        undoes("close as it is", x, () -> x.close(1, false));
        undoes("join", x, () -> x.join(0, 1, 200));
        undoes("leave", x, () -> x.leave(0));
        undoes("leave of a retired one", x, () -> x.leave(1));
        undoes("pay", x, () -> x.pay(0, 2));
        undoes("pay as it is", x, () -> x.pay(0, 1000));
        undoes("change", x, () -> x.change(0, 1));
        undoes("fallBehind", x, () -> x.fallBehind(0, false));
        undoes("fallBehind as it is", x, () -> x.fallBehind(0, true));
        undoes("payLate", x, () -> x.payLate(0, 205));
        undoes("payLate of nothing", x, () -> x.payLate(0, 1));
        undoes("transfer", x, () -> x.transfer(0, 4000));
        undoes("retire", x, () -> x.retire(0));
        undoes("set", x, () -> x.set(2, 50));
        undoes("set as it is", x, () -> x.set(2, 5));
        undoes("pass", x, () -> x.pass(1));
        undoes("pass of many", x, () -> x.pass(120));
        undoesJoinAll(x);
    }

    private static void sixAtMost() {
        PensionSections x = new PensionSections();
        Check.noState("none", x, x::undo);
        for (int pay = 1; pay <= 9; pay++) {
            x.join(0, pay, 300);
            x.leave(pay - 1);
        }
        Check.same("6 are saved", x.count(7), 6);
        int[] firsts = {9, -1, 8, -1, 7, -1};
        for (int i = 0; i < 6; i++) {
            Check.same("left", x.undo(), 5 - i);
            Check.same("the pay", x.member(0, 2), firsts[i]);
        }
        Check.noState("none is left", x, x::undo);
        x.set(0, 700);
        Check.same("one is saved", x.count(7), 1);
        Check.same("none is left", x.undo(), 0);
        Check.same("a number that was undone comes again", x.join(0, 1, 300), 6);
    }

    private static void whatIsRefusedSavesNothing() {
        PensionSections x = new PensionSections();
        x.join(0, 1, 300);
        Check.noArgument("join", x, () -> x.join(0, 0, 300));
        Check.noIndex("leave", x, () -> x.leave(5));
        Check.noState("retire", x, () -> x.retire(0));
        Check.same("one is saved", x.count(7), 1);
        Check.same("none is left", x.undo(), 0);
        Check.same("nobody is there", x.count(1), 0);
    }

    private static void theBufferStays() {
        PensionSections x = new PensionSections();
        Check.write(x, "12");
        x.set(0, 700);
        Check.write(x, "34s");
        x.undo();
        Check.same("the buffer", x.clearBuffer(), 3);
    }

    /** Six calls that change much are undone to the same as six that change nothing. */
    private static void ofALaterStateNothingIsLeft() {
        PensionSections x = some();
        x.set(1, 60);
        x.pass(50);
        x.leave(1);
        x.join(1, 9, 300);
        x.fallBehind(3, true);
        x.pass(20);
        PensionSections y = some();
        for (int i = 0; i < 6; i++) {
            y.set(1, 3);
        }
        for (int left = 5; left >= 0; left--) {
            Check.same("left", x.undo(), left);
            Check.same("left", y.undo(), left);
        }
        Check.same("six calls undone", x.digest(), y.digest());
        x.pass(1);
        y.pass(1);
        Check.same("and it goes on from there", x.digest(), y.digest());
        Check.same("with the late month of then", x.late(0, 2, 0), 12);
    }

    public static void main(String[] args) {
        eachMethod();
        sixAtMost();
        whatIsRefusedSavesNothing();
        theBufferStays();
        ofALaterStateNothingIsLeft();
        Check.end();
    }
}
