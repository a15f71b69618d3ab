/** The limits that the document names for months: "A month" of its terms, and promises 13, 22 and 23. */
public final class MonthEdgesTest {
    private MonthEdgesTest() {
    }

    /** The months are counted from 0; at first 0 have gone. */
    private static void countedFrom0() {
        PensionSections x = new PensionSections();
        Check.same("at first", x.count(0), 0);
        x.join(0, 1000, 300);
        x.fallBehind(0, true);
        x.pass(1);
        Check.same("then", x.count(0), 1);
        Check.same("the first was month 0", x.late(0, 0, 0), 0);
        x.pass(1);
        Check.same("the second was month 1", x.late(0, 1, 0), 1);
    }

    /** months: 1 to 120 of promise 13. */
    private static void monthsFrom1To120() {
        PensionSections x = new PensionSections();
        Check.same("the least", x.pass(1), 0);
        Check.same("the most", x.pass(120), 0);
        Check.same("so many have gone", x.count(0), 121);
        int[] wrong = {0, 121, -1, -120};
        for (int months : wrong) {
            Check.noArgument("pass " + months, x, () -> x.pass(months));
        }
        for (int months : Make.FAR) {
            Check.noArgument("pass " + months, x, () -> x.pass(months));
        }
    }

    /** IllegalStateException if more than 9999 months would have gone. */
    private static void months9999AtMost() {
        PensionSections x = new PensionSections();
        Check.passMany(x, 9880);
        Check.noState("10000 by 120", x, () -> x.pass(120));
        Check.same("9999 by 119", x.pass(119), 0);
        Check.same("so many have gone", x.count(0), 9999);
        Check.noState("10000 by 1", x, () -> x.pass(1));
        Check.noArgument("121 months are out of range first", x, () -> x.pass(121));
        Check.noArgument("0 months too", x, () -> x.pass(0));
        x.undo();
        Check.noState("10000 by 120 behind undo", x, () -> x.pass(120));
        x.pass(118);
        Check.noState("10000 by 2", x, () -> x.pass(2));
        Check.same("9999 by 1", x.pass(1), 0);
    }

    /** Lets months pass: many at once are as many one by one, but for the saved states. */
    private static void manyAtOnceAreAsOneByOne() {
        PensionSections x = mixed();
        PensionSections y = mixed();
        long retired = x.pass(120);
        long oneByOne = 0;
        for (int i = 0; i < 120; i++) {
            oneByOne += y.pass(1);
        }
        Check.same("retired", oneByOne, retired);
        Check.same("some did", retired, 4);
        for (int what = 0; what < 7; what++) {
            Check.same("count " + what, y.count(what), x.count(what));
        }
        for (int what = 0; what < 6; what++) {
            Check.same("sum " + what, y.sum(what), x.sum(what));
        }
        for (int i = 0; i < 96; i++) {
            Check.same("member " + i / 12 + " " + i % 12, y.member(i / 12, i % 12), x.member(i / 12, i % 12));
        }
    }

    private static PensionSections mixed() {
        PensionSections x = new PensionSections();
        for (int i = 0; i < 8; i++) {
            x.join(i % 3, 1000 + 77 * i, 600 + 20 * i);
            x.fallBehind(i, i % 4 == 1);
        }
        x.retire(7);
        x.transfer(6, 999999);
        return x;
    }

    /** Returns how many members retire in them: none, all 8, and not those that retired before. */
    private static void howManyRetire() {
        PensionSections x = new PensionSections();
        for (int i = 0; i < 8; i++) {
            x.join(0, 1000, 778);
        }
        Check.same("none in the first", x.pass(1), 0);
        Check.same("all 8 in the second", x.pass(1), 8);
        Check.same("none again", x.pass(120), 0);
        x.undo();
        x.undo();
        x.retire(0);
        Check.same("but for the one who did already", x.pass(1), 7);
        Check.same("none retired early by age", x.count(6), 1);
    }

    /** Step 1: each active member owes the pay times the rate of the own section, divided by 1000. */
    private static void whoPays() {
        PensionSections x = new PensionSections();
        x.section(1, 200, 60);
        x.join(0, 1000, 300);
        x.join(1, 1000, 300);
        x.join(0, 1000, 300);
        x.join(0, 1000, 780);
        x.fallBehind(2, true);
        x.retire(3);
        x.pass(1);
        Check.same("100 and 200: nothing of one who is behind or retired", x.count(3), 300);
        Check.same("in time", x.sum(0), 300);
        Check.same("service", x.member(0, 4), 1);
        Check.same("service in the own section", x.member(1, 5), 1);
        Check.same("none for one who is behind", x.member(2, 4), 0);
        Check.same("a late month instead", x.member(2, 10), 1);
        Check.same("none for a retired one", x.member(3, 4) + x.member(3, 10), 0);
    }

    /** Step 2: a month lapses that was due setting 1 months ago or more, and not one month before. */
    private static void lapsesAtSetting1() {
        int[] settings = {1, 2, 12, 59, 60};
        for (int setting : settings) {
            PensionSections x = new PensionSections();
            x.set(1, setting);
            x.join(0, 1000, 300);
            x.fallBehind(0, true);
            x.pass(1);
            x.fallBehind(0, false);
            if (setting > 1) {
                x.pass(setting - 1);
            }
            Check.same("kept in month " + (setting - 1), x.count(4), 1);
            Check.same("none lapsed", x.count(5), 0);
            x.pass(1);
            Check.same("gone in month " + setting, x.count(4), 0);
            Check.same("one lapsed", x.count(5), 1);
            Check.same("its service is lost", x.member(0, 4), setting);
        }
    }

    /** .. or more: with a lesser setting 1 several lapse at once, of all members. */
    private static void severalLapseAtOnce() {
        PensionSections x = Make.behind(59, 100);
        x.join(1, 2000, 300);
        x.fallBehind(1, true);
        x.pass(1);
        Check.same("60 of one, 1 of the other", x.count(4), 61);
        Check.same("none lapsed", x.count(5), 0);
        x.set(1, 1);
        Check.same("none lapses by the setting alone", x.count(4), 61);
        x.pass(1);
        Check.same("but in the month", x.count(5), 61);
        Check.same("the late month of this month stays", x.count(4), 2);
        Check.same("it was due in month 60", x.late(0, 0, 0), 60);
        x.set(1, 60);
        x.pass(1);
        Check.same("and stays with a greater setting", x.count(4), 4);
    }

    /** The late month of this month counts before step 2: with 60 months, 60 are kept, 61 never are. */
    private static void sixtyLateMonthsAtMost() {
        PensionSections x = Make.behind(60, 100);
        Check.same("60", x.member(0, 10), 60);
        Check.same("none lapsed", x.count(5), 0);
        x.pass(1);
        Check.same("60 again", x.member(0, 10), 60);
        Check.same("1 lapsed", x.count(5), 1);
        x.pass(119);
        Check.same("60 still", x.member(0, 10), 60);
        Check.same("120 lapsed", x.count(5), 120);
        for (int place = 0; place < 60; place++) {
            Check.same("month at " + place, x.late(0, place, 0), 120 + place);
        }
    }

    /** Step 3: each retired member gets the pension from the fund, if it has so much; otherwise nothing. */
    private static void pensionIfTheFundHasIt() {
        int[][] rows = {{0, 0, 100}, {99, 99, 100}, {100, 0, 0}, {101, 1, 0}};
        for (int[] row : rows) {
            PensionSections x = new PensionSections();
            Make.pensioner(x, 100);
            Make.pensioner(x, 0);
            int taker = Make.pensioner(x, 50);
            x.pass(1);
            x.leave(taker);
            if (row[0] > 0) {
                Make.bring(x, Make.bringer(x), row[0]);
            }
            Check.same("the fund", x.count(3), row[0]);
            x.pass(1);
            Check.same("left of " + row[0], x.count(3), row[1]);
            Check.same("missing of " + row[0], x.sum(4), row[2]);
            Check.same("paid", x.sum(3), 150 + (row[2] == 0 ? 100 : 0));
        }
    }

    /** With the members by ascending numbers: the first gets it, and a later one if there is enough for that one. */
    private static void pensionsByAscendingNumbers() {
        PensionSections x = new PensionSections();
        int[] pensions = {60, 100, 39, 2, 1};
        for (int pension : pensions) {
            Make.pensioner(x, pension);
        }
        x.pass(1);
        Check.same("all are paid", x.sum(3), 202);
        Check.same("nothing is left", x.count(3), 0);
        Make.bring(x, Make.bringer(x), 101);
        x.pass(1);
        Check.same("60, not 100, 39 and 2", x.sum(3), 202 + 101);
        Check.same("100 and 1 are missing", x.sum(4), 101);
        Check.same("nothing is left", x.count(3), 0);
    }

    /** Step 1 comes before step 3: what a member with a greater number pays is there for the pensions. */
    private static void contributionsComeBeforePensions() {
        PensionSections x = new PensionSections();
        Make.pensioner(x, 100);
        x.join(0, 1000, 300);
        x.pass(1);
        Check.same("100 of the fund and 100 more", x.count(3), 100);
        x.pass(120);
        Check.same("100 came each month, 100 went", x.count(3), 100);
        Check.same("none was missing", x.sum(4), 0);
        PensionSections y = new PensionSections();
        Make.pensioner(y, 100);
        y.pass(1);
        Check.same("the fund is empty", y.count(3), 0);
        y.join(0, 1000, 300);
        y.pass(1);
        Check.same("what comes in the month is enough", y.sum(3), 200);
        Check.same("none is missing", y.sum(4), 0);
        y.pay(1, 999);
        y.pass(1);
        Check.same("1 less is not", y.sum(4), 100);
        Check.same("and stays in the fund", y.count(3), 99);
    }

    /** Step 4 comes behind step 3: who retires by age gets the first pension in the next month. */
    private static void noPensionInTheMonthOfRetiring() {
        PensionSections x = new PensionSections();
        x.join(0, 7200, 779);
        Check.same("retires", x.pass(1), 1);
        Check.same("a pension of 10", x.member(0, 8), 10);
        Check.same("not paid yet", x.sum(3) + x.sum(4), 0);
        x.pass(1);
        Check.same("paid now", x.sum(3), 10);
        PensionSections y = new PensionSections();
        y.join(0, 7200, 780);
        y.transfer(0, 14400);
        y.retire(0);
        y.pass(1);
        Check.same("who retired before the month gets it in it", y.sum(3), 10);
    }

    /** Who is at least as old as setting 0 then retires: exactly as old, older, and not one month younger. */
    private static void retiresAtSetting0() {
        int[][] rows = {{778, 0}, {779, 1}, {780, 1}, {781, 1}, {959, 1}};
        for (int[] row : rows) {
            PensionSections x = new PensionSections();
            x.join(0, 1000, row[0]);
            Check.same("retiring from " + row[0], x.pass(1), row[1]);
            Check.same("retired from " + row[0], x.member(0, 7), row[1]);
        }
        int[] settings = {600, 900};
        for (int setting : settings) {
            PensionSections x = new PensionSections();
            x.set(0, setting);
            x.join(0, 1000, setting - 2);
            Check.same("2 months before " + setting, x.pass(1), 0);
            Check.same("1 month before " + setting, x.pass(1), 1);
        }
    }

    /** Without a loss; the month that goes counts as service; late months are gone, and did not lapse. */
    private static void retiringByAge() {
        PensionSections x = new PensionSections();
        x.join(0, 720, 770);
        x.join(0, 720, 770);
        x.fallBehind(1, true);
        x.pass(10);
        Check.same("10 months, the last one too", x.member(0, 8), 10);
        Check.same("none for one who was behind", x.member(1, 8), 0);
        Check.same("retired", x.count(2), 2);
        Check.same("late months", x.count(4), 0);
        Check.same("lapsed", x.count(5), 0);
        Check.same("early", x.count(6), 0);
        PensionSections y = new PensionSections();
        y.join(0, 720, 770);
        y.pass(1);
        y.set(0, 600);
        y.pass(1);
        Check.same("no loss by a lesser age", y.member(0, 8), 2);
    }

    /** A member who is 960 months old does not become older. */
    private static void noOlderThan960() {
        PensionSections x = new PensionSections();
        x.join(0, 1000, 959);
        x.join(0, 1000, 958);
        x.join(0, 1000, 840);
        x.pass(1);
        Check.same("960", x.member(0, 3), 960);
        Check.same("959", x.member(1, 3), 959);
        x.pass(1);
        Check.same("960 still", x.member(0, 3), 960);
        Check.same("960 too", x.member(1, 3), 960);
        x.pass(118);
        Check.same("960 exactly", x.member(2, 3), 960);
        x.pass(1);
        Check.same("and no more", x.member(2, 3), 960);
    }

    /** count: what is 0 to 7; sum: what is 0 to 5. */
    private static void countAndSumWhat() {
        PensionSections x = new PensionSections();
        Check.same("the last count", x.count(7), 0);
        Check.same("the last sum", x.sum(5), 0);
        Check.noArgument("count -1", x, () -> x.count(-1));
        Check.noArgument("count 8", x, () -> x.count(8));
        Check.noArgument("sum -1", x, () -> x.sum(-1));
        Check.noArgument("sum 6", x, () -> x.sum(6));
        for (int what : Make.FAR) {
            Check.noArgument("count " + what, x, () -> x.count(what));
            Check.noArgument("sum " + what, x, () -> x.sum(what));
        }
    }

    /** Sums are longs: missing pensions go above the ints, also those of 240 months ahead. */
    private static void missingAboveTheInts() {
        PensionSections x = new PensionSections();
        x.set(3, 1);
        for (int section = 0; section < 3; section++) {
            x.section(section, 10, 20);
        }
        for (int i = 0; i < 8; i++) {
            greatPensioner(x);
        }
        long pension = 3 * 416583;
        Check.same("9999 times 9999 by 240, three times", x.member(7, 8), pension);
        Check.same("the fund has less", x.count(3), 8 * 3 * 9999);
        Check.same("none is paid in 240 months", x.ifPassed(240, 3), 240 * 8 * pension);
        Check.passMany(x, 9999);
        Check.same("nor in 9999", x.sum(4), 9999 * 8 * pension);
        Check.same("paid", x.sum(3), 0);
        Check.same("the fund has it still", x.count(3), 8 * 3 * 9999);
        Check.same("nor behind the limit of months", x.ifPassed(240, 3), 240 * 8 * pension);
    }

    /** A retired one with 9999 months in each section and a pay of 9999: 9 calls. */
    private static void greatPensioner(PensionSections x) {
        int number = x.join(0, 1, 780);
        x.transfer(number, 9999);
        x.change(number, 1);
        x.transfer(number, 9999);
        x.change(number, 2);
        x.transfer(number, 9999);
        x.pay(number, 9999);
        x.retire(number);
    }

    /** Sums are longs: transfers and pensions go above the ints, though the fund never is above its limit. */
    private static void transfersAndPensionsAboveTheInts() {
        PensionSections x = new PensionSections();
        x.set(3, 1);
        for (int section = 0; section < 3; section++) {
            x.section(section, 10, 20);
        }
        for (int i = 0; i < 7; i++) {
            greatPensioner(x);
        }
        int bringer = Make.bringer(x);
        for (int i = 0; i < 3; i++) {
            x.change(bringer, i % 2);
            Make.fill(x, bringer);
            x.pass(119);
        }
        long pensions = 7 * 3 * 416583L;
        long months = 114 + 114 + 114;
        Check.isTrue("above the ints", months * pensions > Integer.MAX_VALUE && x.sum(2) > Integer.MAX_VALUE);
        Check.same("what came is what went and what is there", x.sum(3) + x.count(3), x.sum(2));
        Check.isTrue("so many at least", x.sum(3) >= months * pensions);
    }

    /** What was paid to those who left goes above the ints too. */
    private static void paidToLeaversAboveTheInts() {
        PensionSections x = new PensionSections();
        x.set(3, 1);
        for (int section = 0; section < 3; section++) {
            x.section(section, 300, 60);
        }
        int bringer = Make.bringer(x);
        int leavers = 0;
        for (int i = 0; i < 2; i++) {
            x.change(bringer, i);
            Make.bring(x, bringer, Make.FULL_FUND - 3 * 9999 - x.count(3));
            for (int k = 0; k < 11; k++) {
                leavers += greatLeaver(x);
            }
        }
        x.change(bringer, 2);
        Make.bring(x, bringer, 200000000);
        leavers += greatLeaver(x) + greatLeaver(x);
        Check.same("24 got back 89982000 each", x.sum(5), 24 * 89982000L);
        Check.same("all did", leavers, 24);
    }

    private static int greatLeaver(PensionSections x) {
        int number = x.join(0, 1, 300);
        x.transfer(number, 9999);
        x.change(number, 1);
        x.transfer(number, 9999);
        x.change(number, 2);
        x.transfer(number, 9999);
        x.pay(number, 9999);
        return x.leave(number) == 89982000 ? 1 : 0;
    }

    public static void main(String[] args) {
        countedFrom0();
        monthsFrom1To120();
        months9999AtMost();
        manyAtOnceAreAsOneByOne();
        howManyRetire();
        whoPays();
        lapsesAtSetting1();
        severalLapseAtOnce();
        sixtyLateMonthsAtMost();
        pensionIfTheFundHasIt();
        pensionsByAscendingNumbers();
        contributionsComeBeforePensions();
        noPensionInTheMonthOfRetiring();
        retiresAtSetting0();
        retiringByAge();
        noOlderThan960();
        countAndSumWhat();
        missingAboveTheInts();
        transfersAndPensionsAboveTheInts();
        paidToLeaversAboveTheInts();
        Check.end();
    }
}
