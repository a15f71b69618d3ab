/** The limits that the document names for saved states: "Undo" of its terms, and promise 18. */
public final class UndoEdgesTest {
    private UndoEdgesTest() {
    }

    /** At most 6 states are saved. */
    private static void sixAtMost() {
        PensionSections x = new PensionSections();
        Check.same("at first", x.count(7), 0);
        for (int calls = 1; calls <= 20; calls++) {
            x.set(1, calls);
            Check.same("saved behind " + calls, x.count(7), Math.min(6, calls));
        }
    }

    /** IllegalStateException if there is none: at first, and behind the last one. */
    private static void noneIsSaved() {
        PensionSections x = new PensionSections();
        Check.noState("at first", x, x::undo);
        x.set(1, 5);
        Check.same("one", x.undo(), 0);
        Check.noState("behind one", x, x::undo);
        for (int i = 0; i < 7; i++) {
            x.set(1, 20 + i);
        }
        for (int left = 5; left >= 0; left--) {
            Check.same("left", x.undo(), left);
        }
        Check.noState("behind six", x, x::undo);
        Check.same("the first of the seven stays", x.setting(1), 20);
    }

    /** The oldest one is dropped first. */
    private static void theOldestIsDroppedFirst() {
        for (int calls = 1; calls <= 14; calls++) {
            PensionSections x = new PensionSections();
            for (int value = 1; value <= calls; value++) {
                x.set(1, 20 + value);
            }
            int kept = Math.min(6, calls);
            for (int n = 1; n <= kept; n++) {
                x.undo();
                int due = calls == n ? 12 : 20 + calls - n;
                Check.same("undo " + n + " of " + calls, x.setting(1), due);
            }
            Check.noState("no more of " + calls, x, x::undo);
        }
    }

    /** Restores the latest saved state, and drops it: what is saved then comes before it. */
    private static void savedAgainBehindUndo() {
        PensionSections x = new PensionSections();
        for (int value = 1; value <= 8; value++) {
            x.set(1, value);
        }
        x.undo();
        x.undo();
        Check.same("two undone", x.setting(1), 6);
        x.set(1, 40);
        x.set(1, 41);
        Check.same("6 are saved", x.count(7), 6);
        x.set(1, 42);
        Check.same("6 are saved still", x.count(7), 6);
        int[] due = {41, 40, 6, 5, 4, 3};
        for (int value : due) {
            x.undo();
            Check.same("restored", x.setting(1), value);
        }
        Check.noState("no more", x, x::undo);
    }

    private static void savesOne(String what, PensionSections x, Check.Call call) {
        int before = x.count(7);
        call.answer();
        Check.same(what + " saves one", x.count(7), before + 1);
        Check.same(what + " is undone", x.undo(), before);
    }

    /** Each method that is marked "undoable" saves one state, whatever it changes and however much. */
    private static void eachUndoableMethod() {
        PensionSections x = new PensionSections();
        x.join(0, 1000, 700);
        x.fallBehind(0, true);
        x.pass(2);
        Check.write(x, "1s0a20+1;2s1a20;3s2a20+3");
        savesOne("section", x, () -> x.section(0, 300, 20));
        savesOne("close", x, () -> x.close(0, true));
        savesOne("join", x, () -> x.join(0, 1000, 300));
        savesOne("leave", x, () -> x.leave(0));
        savesOne("pay", x, () -> x.pay(0, 500));
        savesOne("change", x, () -> x.change(0, 1));
        savesOne("fallBehind", x, () -> x.fallBehind(0, false));
        savesOne("payLate of two", x, () -> x.payLate(0, 300));
        savesOne("transfer", x, () -> x.transfer(0, 20000));
        savesOne("retire", x, () -> x.retire(0));
        savesOne("set", x, () -> x.set(0, 600));
        savesOne("pass of one", x, () -> x.pass(1));
        savesOne("pass of many", x, () -> x.pass(120));
        savesOne("joinAll of three", x, x::joinAll);
        int[] due = {0, 0, 1000, 702, 0, 0, 0, 0, 0, 1, 2, 201};
        for (int what = 0; what < 12; what++) {
            Check.same("the member is as before", x.member(0, what), due[what]);
        }
    }

    /** Also if it changes nothing. */
    private static void savedAlsoIfNothingIsChanged() {
        PensionSections x = new PensionSections();
        x.join(0, 1000, 300);
        x.section(0, 100, 60);
        x.close(0, false);
        x.fallBehind(0, false);
        x.payLate(0, 1);
        x.set(0, 780);
        Check.same("6", x.count(7), 6);
        for (int i = 0; i < 5; i++) {
            x.undo();
            Check.same("the member stays", x.count(1), 1);
        }
        Check.same("the sixth", x.undo(), 0);
        Check.same("the member is gone", x.count(1), 0);
        x.join(0, 1000, 300);
        x.pay(0, 1000);
        Check.same("2", x.count(7), 2);
        x.undo();
        Check.same("the member stays", x.count(1), 1);
    }

    /** A method that throws saves nothing, and drops nothing. */
    private static void whatThrowsSavesNothing() {
        PensionSections x = new PensionSections();
        for (int value = 1; value <= 7; value++) {
            x.set(1, value);
        }
        Check.noArgument("set", x, () -> x.set(1, 0));
        Check.noIndex("section", x, () -> x.section(3, 100, 60));
        Check.noIndex("close", x, () -> x.close(3, true));
        Check.noArgument("join", x, () -> x.join(0, 0, 300));
        Check.noIndex("leave", x, () -> x.leave(0));
        Check.noArgument("pass", x, () -> x.pass(0));
        Check.noArgument("joinAll", x, x::joinAll);
        Check.same("6", x.count(7), 6);
        for (int due = 6; due >= 1; due--) {
            x.undo();
            Check.same("restored", x.setting(1), due);
        }
        Check.noState("no more", x, x::undo);
    }

    /** Looks, texts and undo itself are not undoable. */
    private static void notUndoable() {
        PensionSections x = new PensionSections();
        x.join(0, 1000, 300);
        x.append('1');
        x.firstError();
        x.clearBuffer();
        x.sectionOf(0, 0);
        x.member(0, 0);
        x.late(0, 0, 0);
        x.sum(0);
        x.setting(0);
        x.ifPassed(240, 0);
        x.pensionIn(0, 240);
        x.bestSection(0);
        x.fundLasts();
        x.inTime();
        x.digest();
        Check.same("1", x.count(7), 1);
        x.undo();
        Check.same("none", x.count(7), 0);
    }

    /** All but the buffer and the saved states: undo of joinAll does not bring the text back. */
    private static void theBufferIsNotRestored() {
        PensionSections x = new PensionSections();
        Check.write(x, "1s0a20");
        x.set(0, 700);
        x.append(';');
        x.undo();
        Check.same("as it is", x.clearBuffer(), 7);
        Check.write(x, "1s0a20");
        x.joinAll();
        x.undo();
        Check.same("empty behind joinAll", x.clearBuffer(), 0);
        Check.same("nobody is there", x.count(1), 0);
    }

    /** All, also what is counted so far: each property that pass, payLate, transfer, retire and leave change. */
    private static void whatIsCountedSoFar() {
        PensionSections x = new PensionSections();
        x.join(0, 1000, 779);
        x.join(1, 2000, 700);
        x.join(2, 3000, 300);
        x.set(1, 2);
        x.fallBehind(1, true);
        x.transfer(0, 200000);
        x.pass(4);
        long[][] states = new long[6][];
        states[0] = all(x);
        x.pass(3);
        states[1] = all(x);
        x.payLate(1, 250);
        states[2] = all(x);
        x.transfer(2, 60000);
        states[3] = all(x);
        x.retire(1);
        states[4] = all(x);
        x.leave(2);
        states[5] = all(x);
        x.close(2, true);
        for (int i = 5; i >= 0; i--) {
            Check.same("left", x.undo(), i);
            long[] got = all(x);
            for (int k = 0; k < got.length; k++) {
                Check.same("value " + k + " of state " + i, got[k], states[i][k]);
            }
        }
    }

    /** What 34 looks tell of counts, sums, sections and three members: few, since an object has 512 calls. */
    private static long[] all(PensionSections x) {
        long[] values = new long[34];
        int place = 0;
        for (int what = 0; what < 7; what++) {
            values[place++] = x.count(what);
        }
        for (int what = 0; what < 6; what++) {
            values[place++] = x.sum(what);
        }
        int[] ofSections = {2, 4, 5};
        int[] ofMembers = {3, 7, 8, 10};
        for (int i = 0; i < 3; i++) {
            for (int what : ofSections) {
                values[place++] = x.sectionOf(i, what);
            }
            for (int what : ofMembers) {
                values[place++] = x.member(i, what);
            }
        }
        return values;
    }

    /** Numbers are restored too: one that was undone comes again. */
    private static void numbersAreRestored() {
        PensionSections x = new PensionSections();
        x.join(0, 1000, 300);
        x.join(0, 1000, 300);
        x.leave(1);
        Check.same("the third", x.join(0, 1000, 300), 2);
        x.undo();
        x.undo();
        Check.same("the second is there", x.member(1, 0), 1);
        Check.same("the third again", x.join(1, 1000, 300), 2);
        x.undo();
        x.undo();
        Check.same("the second again", x.join(1, 1000, 300), 1);
    }

    /** Late months are restored: those that were paid, that lapsed, and that were given up. */
    private static void lateMonthsAreRestored() {
        PensionSections x = Make.behind(60, 100);
        x.payLate(0, 9999999);
        x.pass(120);
        x.leave(0);
        x.undo();
        x.undo();
        Check.same("none behind payLate", x.member(0, 10), 0);
        x.undo();
        Check.same("60 before it", x.member(0, 10), 60);
        Check.same("the first", x.late(0, 0, 0), 0);
        Check.same("the last", x.late(0, 59, 0), 59);
        Check.same("what they cost", x.member(0, 11), 60 * 100 + 900);
        x.pass(1);
        Check.same("and it goes on from there", x.late(0, 59, 0), 60);
    }

    public static void main(String[] args) {
        sixAtMost();
        noneIsSaved();
        theOldestIsDroppedFirst();
        savedAgainBehindUndo();
        eachUndoableMethod();
        savedAlsoIfNothingIsChanged();
        whatThrowsSavesNothing();
        notUndoable();
        theBufferIsNotRestored();
        whatIsCountedSoFar();
        numbersAreRestored();
        lateMonthsAreRestored();
        Check.end();
    }
}
