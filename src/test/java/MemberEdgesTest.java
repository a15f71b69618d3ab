/** The limits that the document names for members: "Members" of its terms, and promises 4 to 8 and 20. */
public final class MemberEdgesTest {
    private static final int NONE = PensionSections.NONE;

    private MemberEdgesTest() {
    }

    private static PensionSections withMembers(int members) {
        PensionSections x = new PensionSections();
        for (int i = 0; i < members; i++) {
            x.join(i % 3, 1000 + i, 300 + i);
        }
        return x;
    }

    /** There are at most 8 members. */
    private static void eightAtMost() {
        PensionSections x = withMembers(7);
        Check.same("the eighth", x.join(0, 1000, 300), 7);
        Check.same("members", x.count(1), 8);
        Check.noState("the ninth", x, () -> x.join(0, 1000, 300));
        x.leave(0);
        Check.same("one for the one who left", x.join(0, 1000, 300), 8);
        Check.noState("the ninth again", x, () -> x.join(0, 1000, 300));
        x.undo();
        x.undo();
        Check.same("8 again", x.count(1), 8);
        Check.noState("the ninth behind undo", x, () -> x.join(0, 1000, 300));
    }

    /** Also retired ones are members. */
    private static void retiredOnesTakeTheirPlace() {
        PensionSections x = new PensionSections();
        for (int i = 0; i < 8; i++) {
            x.join(0, 1000, 780);
        }
        x.pass(1);
        Check.same("all are retired", x.count(2), 8);
        Check.noState("the ninth", x, () -> x.join(0, 1000, 300));
        x.leave(3);
        Check.same("one for the one who left", x.join(0, 1000, 300), 8);
    }

    /** The members are numbered from 0 in the order in which they came, also those that are gone. */
    private static void numbersOfThoseThatAreGone() {
        PensionSections x = withMembers(3);
        x.leave(2);
        Check.same("the greatest number is gone", x.join(0, 1000, 300), 3);
        x.leave(0);
        x.leave(1);
        x.leave(3);
        Check.same("nobody is there", x.count(1), 0);
        Check.same("all are gone", x.join(0, 1000, 300), 4);
        x.close(1, true);
        Check.noState("a refused one", x, () -> x.join(1, 1000, 300));
        Check.same("who was refused has no number", x.join(0, 1000, 300), 5);
        Check.same("first by number", x.member(0, 0), 4);
        Check.same("second by number", x.member(1, 0), 5);
        Check.noIndex("the number of one who is gone", x, () -> x.leave(3));
        Check.noIndex("a place is no number", x, () -> x.leave(0));
        Check.noIndex("a number that nobody has yet", x, () -> x.leave(6));
    }

    /** Of 8 who were behind, retired and left nothing is left for 8 who come then. */
    private static void newOnesInheritNothing() {
        PensionSections x = new PensionSections();
        x.set(3, 1);
        for (int i = 0; i < 8; i++) {
            x.join(2, 1000, 777);
            x.transfer(i, 50000);
            x.fallBehind(i, true);
        }
        x.pass(2);
        Check.same("all have late months", x.count(4), 16);
        x.pass(1);
        Check.same("all are retired", x.count(2), 8);
        for (int i = 0; i < 8; i++) {
            x.leave(i);
        }
        for (int i = 0; i < 8; i++) {
            x.join(1, 100 + i, 300 + i);
        }
        for (int i = 0; i < 8; i++) {
            int[] due = {8 + i, 1, 100 + i, 300 + i, 0, 0, 0, 0, 0, 0, 0, 0};
            for (int what = 0; what < 12; what++) {
                Check.same("what " + what + " of new " + i, x.member(i, what), due[what]);
            }
        }
    }

    /** A pay, 1 to 9999 a month. */
    private static void payFrom1To9999() {
        PensionSections x = new PensionSections();
        x.join(0, 1, 300);
        x.join(0, 9999, 300);
        Check.same("the least", x.member(0, 2), 1);
        Check.same("the greatest", x.member(1, 2), 9999);
        Check.same("to the greatest", x.pay(0, 9999), 1);
        Check.same("to the least", x.pay(0, 1), 9999);
        int[] wrong = {0, 10000, -1};
        for (int pay : wrong) {
            payIsRefused(x, pay);
        }
        for (int pay : Make.FAR) {
            payIsRefused(x, pay);
        }
    }

    private static void payIsRefused(PensionSections x, int pay) {
        Check.noArgument("join with " + pay, x, () -> x.join(0, pay, 300));
        Check.noArgument("pay " + pay, x, () -> x.pay(0, pay));
    }

    /** age: 192 to 959 of promise 4. */
    private static void ageFrom192To959() {
        PensionSections x = new PensionSections();
        x.join(0, 1000, 192);
        x.join(0, 1000, 959);
        Check.same("the least", x.member(0, 3), 192);
        Check.same("the greatest", x.member(1, 3), 959);
        int[] wrong = {191, 960, 961, 0, -192};
        for (int age : wrong) {
            Check.noArgument("age " + age, x, () -> x.join(0, 1000, age));
        }
        for (int age : Make.FAR) {
            Check.noArgument("age " + age, x, () -> x.join(0, 1000, age));
        }
    }

    /** Service at first 0, active at first, at first not behind; no late months. */
    private static void atFirst() {
        PensionSections x = new PensionSections();
        x.join(1, 9999, 959);
        int[] due = {0, 1, 9999, 959, 0, 0, 0, 0, 0, 0, 0, 0};
        for (int what = 0; what < 12; what++) {
            Check.same("what " + what, x.member(0, what), due[what]);
        }
        Check.same("no late month", x.late(0, 0, 0), NONE);
        Check.same("active, so the pay may change", x.pay(0, 1), 9999);
        Check.same("not behind", x.fallBehind(0, false), 0);
    }

    /** place: the place by numbers, from 0; NONE if there are not so many members. */
    private static void places() {
        PensionSections x = new PensionSections();
        Check.same("nobody at 0", x.member(0, 0), NONE);
        for (int members = 1; members <= 8; members++) {
            x.join(0, members, 300);
            Check.same("the last of " + members, x.member(members - 1, 2), members);
            Check.same("one more than " + members, x.member(members, 2), NONE);
        }
        Check.same("far more", x.member(Integer.MAX_VALUE, 11), NONE);
        Check.noArgument("place -1", x, () -> x.member(-1, 0));
        Check.noArgument("the least place", x, () -> x.member(Integer.MIN_VALUE, 0));
    }

    /** IllegalArgumentException if what is not 0 to 11. */
    private static void memberWhat() {
        PensionSections x = withMembers(1);
        Check.same("what 0", x.member(0, 0), 0);
        Check.same("what 11", x.member(0, 11), 0);
        Check.noArgument("what -1", x, () -> x.member(0, -1));
        Check.noArgument("what 12", x, () -> x.member(0, 12));
        Check.noArgument("what 12 where nobody is", x, () -> x.member(1, 12));
        Check.noArgument("what -1 where nobody is", x, () -> x.member(1, -1));
        for (int what : Make.FAR) {
            Check.noArgument("what " + what, x, () -> x.member(0, what));
        }
    }

    /** The places move up when one leaves: the first, one in the middle, the last of 8. */
    private static void placesBehindLeaving() {
        int[] leavers = {0, 4, 7};
        for (int leaver : leavers) {
            PensionSections x = withMembers(8);
            x.leave(leaver);
            int place = 0;
            for (int number = 0; number < 8; number++) {
                if (number != leaver) {
                    Check.same("number at " + place, x.member(place, 0), number);
                    Check.same("pay at " + place, x.member(place, 2), 1000 + number);
                    Check.same("section at " + place, x.member(place, 1), number % 3);
                    place++;
                }
            }
            Check.same("the eighth place is free", x.member(7, 0), NONE);
        }
    }

    /** Calls of a member who is not there throw IndexOutOfBoundsException. */
    private static void noSuchMember() {
        PensionSections x = withMembers(2);
        x.leave(1);
        int[] numbers = {-1, 1, 2, 8};
        for (int number : numbers) {
            isNotThere(x, number);
        }
        for (int number : Make.FAR) {
            isNotThere(x, number);
        }
        isNotThere(new PensionSections(), 0);
    }

    private static void isNotThere(PensionSections x, int number) {
        Check.noIndex("leave of " + number, x, () -> x.leave(number));
        Check.noIndex("pay of " + number, x, () -> x.pay(number, 1000));
        Check.noIndex("change of " + number, x, () -> x.change(number, 1));
        Check.noIndex("fallBehind of " + number, x, () -> x.fallBehind(number, true));
        Check.noIndex("payLate of " + number, x, () -> x.payLate(number, 100));
        Check.noIndex("transfer of " + number, x, () -> x.transfer(number, 100));
        Check.noIndex("retire of " + number, x, () -> x.retire(number));
        Check.noIndex("late of " + number, x, () -> x.late(number, 0, 0));
        Check.noIndex("pensionIn of " + number, x, () -> x.pensionIn(number, 12));
        Check.noIndex("bestSection of " + number, x, () -> x.bestSection(number));
    }

    /** As far as the fund has it: exactly so much, one coin less, and nothing at all. */
    private static void leaveAsFarAsTheFundHasIt() {
        int[][] rows = {{300, 300, 0}, {301, 300, 1}, {299, 299, 0}, {1, 1, 0}};
        for (int[] row : rows) {
            PensionSections x = withRefundOf300(row[0]);
            Check.same("out of " + row[0], x.leave(0), row[1]);
            Check.same("left of " + row[0], x.count(3), row[2]);
            Check.same("the sum of " + row[0], x.sum(5), row[1]);
        }
    }

    /** Contributions of 10 months at 30 are due back to member 0, and so much is in the fund. */
    private static PensionSections withRefundOf300(int coins) {
        PensionSections x = new PensionSections();
        x.join(0, 3, 300);
        x.pass(10);
        x.pay(0, 300);
        Make.bring(x, Make.bringer(x), coins);
        Check.same("the fund", x.count(3), coins);
        return x;
    }

    private static void leaveWithAnEmptyFund() {
        PensionSections x = new PensionSections();
        x.join(0, 3, 300);
        x.pass(10);
        x.pay(0, 9999);
        Check.same("nothing is there", x.leave(0), 0);
        Check.same("the sum", x.sum(5), 0);
        Check.same("gone all the same", x.count(1), 0);
        Check.same("undoable", x.count(7), 4);
    }

    /** For each section by itself, divided by 1000: 0.99 and 1.98 and 2.97, of which 5.94 would be together. */
    private static void leaveEachSectionByItself() {
        PensionSections x = new PensionSections();
        for (int section = 0; section < 3; section++) {
            x.section(section, 10, 60);
        }
        x.join(0, 99, 300);
        x.pass(1);
        x.change(0, 1);
        x.pass(2);
        x.change(0, 2);
        x.pass(3);
        Make.bring(x, Make.bringer(x), 1000);
        Check.same("0 and 1 and 2", x.leave(0), 3);
    }

    /** The pay, the rate and the service at leaving count. */
    private static void leaveByPayAndRateOfNow() {
        PensionSections x = new PensionSections();
        x.join(0, 1000, 300);
        x.pass(1);
        x.section(0, 300, 60);
        x.pay(0, 100);
        Check.same("100 at 300", x.leave(0), 30);
        x.join(0, 1000, 300);
        x.transfer(1, 20000);
        Check.same("10 months that were brought along count too", x.leave(1), 10 * 300);
    }

    /** The rate is that of the section of the service, not of the own one. */
    private static void leaveByTheRateOfEachSection() {
        PensionSections x = new PensionSections();
        x.section(0, 300, 60);
        x.section(1, 10, 60);
        x.join(0, 1000, 300);
        x.pass(2);
        x.change(0, 1);
        x.pass(3);
        Check.same("2 at 300 and 3 at 10", x.leave(0), 630);
    }

    /** Late months of one who leaves are gone, and did not lapse; one who is new has none of them. */
    private static void leaveWithLateMonths() {
        PensionSections x = Make.behind(5, 100);
        Check.same("nothing is due back", x.leave(0), 0);
        Check.same("none is late", x.count(4), 0);
        Check.same("none lapsed", x.count(5), 0);
        x.join(0, 1000, 300);
        Check.same("a new one is not behind", x.member(0, 9), 0);
        Check.same("and has no late months", x.member(0, 10), 0);
        x.pass(60);
        Check.same("none lapsed later", x.count(5), 0);
        Check.same("the new one serves", x.member(0, 4), 60);
    }

    /** The most that can be due back: 9999 times 300 times 9999 for each section, without an overflow. */
    private static void leaveWithTheMost() {
        PensionSections x = new PensionSections();
        x.set(3, 1);
        x.join(0, 1, 300);
        for (int section = 0; section < 3; section++) {
            x.section(section, 300, 60);
            if (section > 0) {
                x.change(0, section);
            }
            x.transfer(0, 9999);
        }
        x.pay(0, 9999);
        Make.bring(x, Make.bringer(x), 90000000);
        Check.same("3 times 29994000", x.leave(0), 3 * 29994000);
    }

    /** An active one gets it back: a retired one does not, nor one for late months. */
    private static void leaveOfARetiredOne() {
        PensionSections x = new PensionSections();
        x.join(0, 1000, 780);
        x.join(0, 1000, 300);
        x.pass(1);
        Check.same("retired", x.member(0, 7), 1);
        Check.same("nothing", x.leave(0), 0);
        Check.same("the fund", x.count(3), 200);
        Check.same("the active one", x.leave(1), 100);
        Check.same("nobody is left", x.member(0, 0), NONE);
        Check.same("months go on", x.pass(120), 0);
        Check.same("with what is in the fund", x.count(3), 100);
    }

    /** pay: IllegalStateException if the member is retired. */
    private static void payOfARetiredOne() {
        PensionSections x = new PensionSections();
        x.join(0, 1000, 779);
        Check.same("as it is", x.pay(0, 1000), 1000);
        x.pass(1);
        Check.noState("retired by age", x, () -> x.pay(0, 1000));
        x.undo();
        Check.same("active again", x.pay(0, 900), 1000);
        x.retire(0);
        Check.noState("retired by retire", x, () -> x.pay(0, 900));
    }

    /** change: IllegalStateException if the member is retired, is in this section already, or it is closed. */
    private static void changeIsRefused() {
        PensionSections x = new PensionSections();
        x.join(1, 1000, 780);
        Check.noState("in it already", x, () -> x.change(0, 1));
        x.close(0, true);
        Check.noState("closed", x, () -> x.change(0, 0));
        x.close(1, true);
        Check.noState("in it already, and closed", x, () -> x.change(0, 1));
        Check.same("open", x.change(0, 2), 1);
        x.retire(0);
        x.close(0, false);
        Check.noState("retired", x, () -> x.change(0, 0));
    }

    /** Service and late months stay as they are. */
    private static void changeKeepsWhatWas() {
        PensionSections x = new PensionSections();
        x.join(0, 1000, 300);
        x.pass(2);
        x.fallBehind(0, true);
        x.pass(1);
        x.change(0, 2);
        int[] due = {0, 2, 1000, 303, 2, 0, 0, 0, 2, 1, 1, 100};
        for (int what = 0; what < 12; what++) {
            Check.same("what " + what, x.member(0, what), due[what]);
        }
        Check.same("the section of the late month", x.late(0, 0, 2), 0);
        x.payLate(0, 100);
        Check.same("its service too", x.member(0, 4), 3);
        Check.same("and none here", x.member(0, 6), 0);
    }

    /** fallBehind: 1 if the member was behind, otherwise 0; late months stay. */
    private static void fallBehindTellsWhatWas() {
        PensionSections x = new PensionSections();
        x.join(0, 1000, 300);
        Check.same("not behind to not behind", x.fallBehind(0, false), 0);
        Check.same("not behind to behind", x.fallBehind(0, true), 0);
        Check.same("behind to behind", x.fallBehind(0, true), 1);
        x.pass(1);
        Check.same("behind to not behind", x.fallBehind(0, false), 1);
        Check.same("late months stay", x.member(0, 10), 1);
        Check.same("and cost", x.member(0, 11), 100);
    }

    /** fallBehind names no IllegalStateException: a retired one may fall behind, and stay so, without late months. */
    private static void fallBehindOfARetiredOne() {
        PensionSections x = new PensionSections();
        x.join(0, 1000, 778);
        x.fallBehind(0, true);
        x.pass(2);
        Check.same("retired", x.member(0, 7), 1);
        Check.same("still behind", x.member(0, 9), 1);
        Check.same("catches up", x.fallBehind(0, false), 1);
        Check.same("falls behind", x.fallBehind(0, true), 0);
        x.pass(3);
        Check.same("without late months", x.member(0, 10), 0);
    }

    /** 8: of an active member what the pension would be at retiring now, without a loss, also if that is refused. */
    private static void pensionOfAYoungOne() {
        PensionSections x = new PensionSections();
        x.join(0, 720, 192);
        x.pass(50);
        Check.same("50 months of service", x.member(0, 8), 50);
        Check.noState("far too young", x, () -> x.retire(0));
        Check.same("which would be 0 by pensionIn", x.pensionIn(0, 0), 0);
    }

    public static void main(String[] args) {
        eightAtMost();
        retiredOnesTakeTheirPlace();
        numbersOfThoseThatAreGone();
        newOnesInheritNothing();
        payFrom1To9999();
        ageFrom192To959();
        atFirst();
        places();
        memberWhat();
        placesBehindLeaving();
        noSuchMember();
        leaveAsFarAsTheFundHasIt();
        leaveWithAnEmptyFund();
        leaveEachSectionByItself();
        leaveByPayAndRateOfNow();
        leaveByTheRateOfEachSection();
        leaveWithLateMonths();
        leaveWithTheMost();
        leaveOfARetiredOne();
        payOfARetiredOne();
        changeIsRefused();
        changeKeepsWhatWas();
        fallBehindTellsWhatWas();
        fallBehindOfARetiredOne();
        pensionOfAYoungOne();
        Check.end();
    }
}
