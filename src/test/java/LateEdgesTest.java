/** The limits that the document names for late months: "Late months" of its terms, and promises 9 and 21. */
public final class LateEdgesTest {
    private static final int NONE = PensionSections.NONE;

    private LateEdgesTest() {
    }

    /** What was due times setting 2 times the months since, divided by 1000, is rounded down. */
    private static void interestIsRoundedDown() {
        int[][] rows = {{199, 5, 1, 0}, {200, 5, 1, 1}, {333, 3, 1, 0}, {111, 9, 1, 0}, {37, 27, 1, 0}, {20, 50, 1, 1},
            {19, 50, 1, 0}, {999, 1, 1, 0}, {500, 1, 2, 1}, {499, 1, 2, 0}, {333, 1, 3, 0}, {999, 2, 1, 1},
            {100, 50, 60, 300}, {999, 50, 60, 2997}, {99, 50, 59, 292}, {999, 0, 60, 0}};
        for (int[] row : rows) {
            PensionSections x = Make.behind(1, row[0]);
            x.fallBehind(0, false);
            if (row[2] > 1) {
                x.pass(row[2] - 1);
            }
            x.set(2, row[1]);
            String what = row[0] + " at " + row[1] + " for " + row[2] + " months";
            Check.same("due " + what, x.late(0, 0, 1), row[0]);
            Check.same(what, x.late(0, 0, 3), row[0] + row[3]);
            Check.same("all of " + what, x.member(0, 11), row[0] + row[3]);
            Check.same("1 less than " + what, x.payLate(0, row[0] + row[3] - 1), row[0] + row[3] - 1);
            Check.same("exactly " + what, x.payLate(0, row[0] + row[3]), 0);
            Check.same("none is left of " + what, x.member(0, 10), 0);
        }
    }

    /** Each for itself: interest of 0.5 and 1.0 and 1.5 is 0 and 1 and 1. */
    private static void interestOfEachForItself() {
        PensionSections x = Make.behind(3, 100);
        Check.same("the oldest", x.late(0, 0, 3), 101);
        Check.same("the next", x.late(0, 1, 3), 101);
        Check.same("the last", x.late(0, 2, 3), 100);
        Check.same("together", x.member(0, 11), 302);
    }

    /** The most that a late month costs: 2999 and 2999 times 50 times 60 by 1000; 60 of them. */
    private static void theDearest() {
        PensionSections x = new PensionSections();
        x.section(0, 300, 60);
        x.set(1, 60);
        x.set(2, 50);
        x.join(0, 9999, 300);
        x.fallBehind(0, true);
        x.pass(60);
        Check.same("the oldest", x.late(0, 0, 3), 2999 + 8997);
        Check.same("the last", x.late(0, 59, 3), 2999 + 149);
        int all = 0;
        for (int months = 1; months <= 60; months++) {
            all += 2999 + 2999 * 50 * months / 1000;
        }
        Check.same("all", x.member(0, 11), all);
        Check.same("all are paid at once, the rest is given back", x.payLate(0, 9999999), 9999999 - all);
        Check.same("service", x.member(0, 4), 60);
        Check.same("paid late", x.sum(1), all);
    }

    /** amount: 1 to 9999999 of promise 9. */
    private static void amountFrom1To9999999() {
        PensionSections x = Make.behind(2, 1);
        Check.same("the least", x.payLate(0, 1), 0);
        Check.same("the most", x.payLate(0, 9999999), 9999998);
        Check.same("the most again", x.payLate(0, 9999999), 9999999);
        int[] wrong = {0, -1, 10000000};
        for (int amount : wrong) {
            Check.noArgument("amount " + amount, x, () -> x.payLate(0, amount));
        }
        for (int amount : Make.FAR) {
            Check.noArgument("amount " + amount, x, () -> x.payLate(0, amount));
        }
    }

    /** As long as the amount suffices for the next one whole: a later one that is cheaper is not paid instead. */
    private static void asLongAsItSufficesForTheNext() {
        PensionSections x = new PensionSections();
        x.set(2, 0);
        x.join(0, 1000, 300);
        x.fallBehind(0, true);
        int[] pays = {1000, 5000, 10, 9, 9, 300};
        for (int pay : pays) {
            x.pay(0, pay);
            x.pass(1);
        }
        Check.same("99 do not suffice", x.payLate(0, 99), 99);
        Check.same("100 for the first, 499 not for the second", x.payLate(0, 599), 499);
        Check.same("5 are left", x.member(0, 10), 5);
        Check.same("500 for the second alone: the next costs 1", x.payLate(0, 500), 0);
        Check.same("4 are left", x.member(0, 10), 4);
        Check.same("1, and two for nothing; 29 not for the last", x.payLate(0, 30), 29);
        Check.same("1 is left", x.member(0, 10), 1);
        Check.same("of month 5", x.late(0, 0, 0), 5);
        Check.same("service of 5", x.member(0, 4), 5);
    }

    /** Those for nothing behind the last coin are paid too; with nothing before them, 1 coin is given back whole. */
    private static void monthsForNothing() {
        PensionSections x = new PensionSections();
        x.join(0, 9, 300);
        x.fallBehind(0, true);
        x.pass(3);
        Check.same("the coin is given back", x.payLate(0, 1), 1);
        Check.same("all 3 are paid", x.member(0, 4), 3);
        Check.same("nothing came", x.count(3) + x.sum(1), 0);
        x.pay(0, 1000);
        x.pass(1);
        x.pay(0, 9);
        x.pass(2);
        Check.same("the last coin for the first, then two for nothing", x.payLate(0, 101), 0);
        Check.same("none is left", x.member(0, 10), 0);
        Check.same("service", x.member(0, 4), 6);
        x.pass(1);
        Check.same("a new one", x.late(0, 0, 1), 0);
        Check.same("costs nothing", x.late(0, 0, 3), 0);
    }

    /** Each gives 1 month of service in its section, also in one that is closed now, and not in the own one. */
    private static void serviceInItsSection() {
        PensionSections x = new PensionSections();
        x.join(0, 1000, 300);
        x.fallBehind(0, true);
        x.pass(1);
        x.change(0, 1);
        x.pass(2);
        x.change(0, 2);
        x.close(0, true);
        Check.same("101 and 101 and 100", x.payLate(0, 302), 0);
        Check.same("in 0", x.member(0, 4), 1);
        Check.same("in 1", x.member(0, 5), 2);
        Check.same("in 2", x.member(0, 6), 0);
    }

    /** What was due stays, whatever pay, rate and section are then. */
    private static void whatWasDueStays() {
        PensionSections x = new PensionSections();
        x.set(2, 0);
        x.join(0, 1000, 300);
        x.fallBehind(0, true);
        x.pass(1);
        x.pay(0, 9999);
        x.section(0, 300, 60);
        x.change(0, 2);
        Check.same("due", x.late(0, 0, 1), 100);
        Check.same("the section", x.late(0, 0, 2), 0);
        Check.same("the cost", x.late(0, 0, 3), 100);
        Check.same("that is what is paid", x.payLate(0, 150), 50);
        Check.same("and goes to the fund", x.count(3), 100);
    }

    /** What it costs, with what it costs besides, goes to the fund. */
    private static void whatItCostsGoesToTheFund() {
        PensionSections x = Make.behind(2, 500);
        Check.same("505 and 502", x.member(0, 11), 1007);
        Check.same("what is over of 1000", x.payLate(0, 1000), 495);
        Check.same("the fund", x.count(3), 505);
        Check.same("the sum", x.sum(1), 505);
        Check.same("not in time, nor transferred", x.sum(0) + x.sum(2), 0);
    }

    /** What is left over is given back: all of it, when nothing is late. */
    private static void whatIsLeftOver() {
        PensionSections x = new PensionSections();
        x.join(0, 1000, 300);
        Check.same("nothing is late", x.payLate(0, 9999999), 9999999);
        Check.same("nothing came", x.count(3), 0);
        Check.same("undoable all the same", x.count(7), 2);
        x.fallBehind(0, true);
        x.pass(1);
        Check.same("1 over", x.payLate(0, 101), 1);
        Check.same("1 too few next time", x.payLate(0, 1), 1);
        Check.same("what came", x.count(3), 100);
    }

    /** IllegalStateException if the fund would be above 999999999 with the whole amount, whatever is given back. */
    private static void fundLimitWithTheWholeAmount() {
        PensionSections x = Make.behind(1, 100);
        int bringer = Make.bringer(x);
        Make.bring(x, bringer, Make.FULL_FUND - 1000);
        Check.noState("1001 too much", x, () -> x.payLate(0, 1001));
        Check.noState("9999999 too much", x, () -> x.payLate(0, 9999999));
        Check.same("1000 just goes in", x.payLate(0, 1000), 900);
        Check.noState("901 too much, with nothing late", x, () -> x.payLate(0, 901));
        Check.same("900 just goes in, and comes back", x.payLate(0, 900), 900);
        Make.fill(x, bringer);
        Check.noState("1 too much for a full fund", x, () -> x.payLate(0, 1));
        x.join(0, 9999, 300);
        x.pass(1);
        Check.same("above it by contributions", x.count(3), Make.FULL_FUND + 999 + 100 * x.member(0, 4) - 100);
        Check.noState("1 too much above it", x, () -> x.payLate(0, 1));
        Check.noArgument("0 is out of range first", x, () -> x.payLate(0, 0));
    }

    /** IllegalStateException if the member is retired. */
    private static void retiredOnesPayNothing() {
        PensionSections x = Make.behind(5, 100);
        x.set(0, 600);
        x.join(0, 1000, 599);
        x.fallBehind(1, true);
        x.pass(1);
        Check.noState("retired by age", x, () -> x.payLate(1, 100));
        Check.same("no late month", x.late(1, 0, 0), NONE);
        Check.same("nor anything to pay", x.member(1, 11), 0);
        Check.same("the other has 6, and 9 of interest", x.payLate(0, 9999999), 9999999 - 609);
    }

    /** Service by late months has no limit, 9999 or other. */
    private static void serviceAbove9999() {
        PensionSections x = new PensionSections();
        x.set(3, 1);
        x.join(0, 1, 300);
        x.transfer(0, 9999);
        x.fallBehind(0, true);
        x.pass(2);
        Check.same("for nothing", x.payLate(0, 1), 1);
        Check.same("service", x.member(0, 4), 10001);
    }

    /** late: its place by the months in which they were due, from 0; NONE if there are not so many. */
    private static void latePlaces() {
        PensionSections x = new PensionSections();
        x.join(0, 1000, 300);
        for (int what = 0; what < 4; what++) {
            Check.same("none at first", x.late(0, 0, what), NONE);
        }
        x.fallBehind(0, true);
        x.set(1, 60);
        x.pass(2);
        Check.same("the last", x.late(0, 1, 0), 1);
        Check.same("not so many", x.late(0, 2, 0), NONE);
        x.pass(58);
        Check.same("the last of 60", x.late(0, 59, 0), 59);
        for (int what = 0; what < 4; what++) {
            Check.same("not so many as 61", x.late(0, 60, what), NONE);
            Check.same("nor far more", x.late(0, Integer.MAX_VALUE, what), NONE);
        }
        Check.noArgument("late -1", x, () -> x.late(0, -1, 0));
        Check.noArgument("late of the least int", x, () -> x.late(0, Integer.MIN_VALUE, 0));
    }

    /** IllegalArgumentException if what is not 0 to 3, also where there are not so many. */
    private static void lateWhat() {
        PensionSections x = Make.behind(1, 100);
        Check.same("what 0", x.late(0, 0, 0), 0);
        Check.same("what 3", x.late(0, 0, 3), 100);
        Check.noArgument("what -1", x, () -> x.late(0, 0, -1));
        Check.noArgument("what 4", x, () -> x.late(0, 0, 4));
        Check.noArgument("what 4, not so many", x, () -> x.late(0, 1, 4));
        Check.noArgument("what -1, not so many", x, () -> x.late(0, 1, -1));
        for (int what : Make.FAR) {
            Check.noArgument("what " + what, x, () -> x.late(0, 0, what));
        }
    }

    /** The places move up: months that are paid or that lapse are the first ones, over many months. */
    private static void placesMoveUp() {
        PensionSections x = Make.behind(60, 100);
        int first = 0;
        for (int round = 0; round < 20; round++) {
            x.payLate(0, x.late(0, 0, 3) + x.late(0, 1, 3));
            Check.same("58 are left", x.member(0, 10), 58);
            x.pass(4);
            first += 4;
            Check.same("2 lapsed", x.count(5), 2 * (round + 1));
            Check.same("60 again", x.member(0, 10), 60);
            Check.same("the first", x.late(0, 0, 0), first);
            Check.same("the last", x.late(0, 59, 0), first + 59);
        }
    }

    public static void main(String[] args) {
        interestIsRoundedDown();
        interestOfEachForItself();
        theDearest();
        amountFrom1To9999999();
        asLongAsItSufficesForTheNext();
        monthsForNothing();
        serviceInItsSection();
        whatWasDueStays();
        whatItCostsGoesToTheFund();
        whatIsLeftOver();
        fundLimitWithTheWholeAmount();
        retiredOnesPayNothing();
        serviceAbove9999();
        latePlaces();
        lateWhat();
        placesMoveUp();
        Check.end();
    }
}
