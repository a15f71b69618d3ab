/** The limits that the document names for pensions: "Pensions" of its terms, and promises 11, 26 and 27. */
public final class PensionEdgesTest {
    private static final int NONE = PensionSections.NONE;

    private PensionEdgesTest() {
    }

    /** One in section 0 with a pay of 720, so that a month of service is a coin of pension. */
    private static PensionSections with(int age, int months) {
        PensionSections x = new PensionSections();
        x.join(0, 720, age);
        if (months > 0) {
            x.transfer(0, 1440 * months);
        }
        return x;
    }

    /** The pay times the service in it, divided by 12 times the share of the section, each for itself. */
    private static void eachSectionForItself() {
        PensionSections x = new PensionSections();
        x.set(3, 1);
        x.section(0, 100, 20);
        x.section(1, 100, 60);
        x.section(2, 100, 200);
        x.join(0, 1, 780);
        int[] coins = {239, 719, 2399};
        for (int section = 0; section < 3; section++) {
            if (section > 0) {
                x.change(0, section);
            }
            x.transfer(0, coins[section]);
            Check.same("less than 1 in each up to " + section, x.member(0, 8), 0);
        }
        for (int section = 2; section >= 0; section--) {
            if (section < 2) {
                x.change(0, section);
            }
            x.transfer(0, 1);
            Check.same("1 more in " + section, x.member(0, 8), 3 - section);
        }
        Check.same("each for itself at retiring", x.retire(0), 3);
    }

    /** The most: 9999 times 9999 by 240, which is above the ints before it is divided by little. */
    private static void theMost() {
        PensionSections x = new PensionSections();
        x.set(3, 1);
        x.section(0, 100, 20);
        x.join(0, 1, 660);
        x.transfer(0, 9999);
        x.pay(0, 9999);
        Check.same("without a loss", x.member(0, 8), 416583);
        Check.same("240 months ahead, 120 of them count", x.pensionIn(0, 240), 421582);
        Check.same("480 thousandths of it less", x.retire(0), 416583 - 199959);
        x.join(1, 9999, 192);
        Check.passMany(x, 588);
        Check.same("9999 times 588 by 720", x.member(1, 8), 8165);
    }

    /** Who retires early loses 4 times these months times the pension, divided by 1000, rounded down. */
    private static void lossIsRoundedDown() {
        int[][] rows = {{1, 0, 0}, {1, 1, 0}, {1, 249, 0}, {1, 250, 1}, {1, 251, 1}, {2, 124, 0}, {2, 125, 1},
            {119, 2, 0}, {119, 3, 1}, {120, 1, 0}, {120, 2, 0}, {120, 3, 1}, {120, 25, 12}, {120, 100, 48}, {50, 5, 1},
            {50, 4, 0}, {83, 3, 0}, {84, 3, 1}, {0, 1000, 0}};
        for (int[] row : rows) {
            PensionSections x = with(780 - row[0], row[1]);
            String what = row[1] + " by " + row[0] + " months";
            Check.same("ahead: " + what, x.pensionIn(0, 0), row[1] - row[2]);
            Check.same("without a loss: " + what, x.member(0, 8), row[1]);
            Check.same(what, x.retire(0), row[1] - row[2]);
            Check.same("the pension: " + what, x.member(0, 8), row[1] - row[2]);
        }
    }

    /** IllegalStateException if the member is more than 120 months younger than setting 0. */
    private static void early120AtMost() {
        int[] settings = {600, 780, 900};
        for (int setting : settings) {
            PensionSections x = with(setting - 121, 100);
            x.set(0, setting);
            Check.noState("121 months early for " + setting, x, () -> x.retire(0));
            x.pass(1);
            Check.same("120 months early for " + setting, x.retire(0), 101 - 48);
        }
        PensionSections x = with(192, 100);
        Check.noState("the youngest", x, () -> x.retire(0));
        x.set(0, 600);
        Check.noState("408 months early", x, () -> x.retire(0));
    }

    /** Early if the age is below setting 0: counted so far, but not who is exactly as old, or older. */
    private static void earlyIfBelowSetting0() {
        int[][] rows = {{660, 1}, {779, 1}, {780, 0}, {781, 0}, {959, 0}};
        for (int[] row : rows) {
            PensionSections x = with(row[0], 0);
            Check.same("a pension of nothing at " + row[0], x.retire(0), 0);
            Check.same("early at " + row[0], x.count(6), row[1]);
            Check.same("retired at " + row[0], x.count(2), 1);
        }
    }

    /** IllegalStateException if the member is retired. */
    private static void retiredAlready() {
        PensionSections x = with(779, 0);
        x.retire(0);
        Check.noState("by retire", x, () -> x.retire(0));
        x.undo();
        x.pass(1);
        Check.noState("by age", x, () -> x.retire(0));
        Check.same("nobody retired early", x.count(6), 0);
    }

    /** At retiring, late months are gone; those of others stay; none of them lapsed. */
    private static void lateMonthsAreGone() {
        PensionSections x = Make.behind(3, 100);
        x.join(0, 720, 780);
        x.fallBehind(1, true);
        x.set(0, 900);
        x.pass(3);
        Check.same("6 and 3", x.count(4), 9);
        x.set(0, 700);
        x.retire(1);
        Check.same("6 are left", x.count(4), 6);
        Check.same("none lapsed", x.count(5), 0);
        Check.same("none of the retired one", x.late(1, 0, 0), NONE);
        Check.same("and none comes", oneMonthOf(x), 0);
    }

    private static int oneMonthOf(PensionSections x) {
        x.pass(1);
        return x.member(1, 10);
    }

    /** The pay, the shares and the service are those at retiring; the pension stays then. */
    private static void thePensionStays() {
        PensionSections x = with(780, 100);
        x.retire(0);
        x.section(0, 10, 200);
        x.set(0, 900);
        x.set(3, 20);
        x.close(0, true);
        x.fallBehind(0, true);
        Check.same("the pension", x.member(0, 8), 100);
        Check.same("as it is", x.pensionIn(0, 0), 100);
        Check.same("as it is, ahead", x.pensionIn(0, 240), 100);
        x.pass(2);
        Check.same("paid", x.sum(3), 200);
    }

    /** months: 0 to 240 of promise 26. */
    private static void monthsFrom0To240() {
        PensionSections x = with(480, 100);
        Check.same("far too early", x.pensionIn(0, 0), 0);
        Check.same("60 months early in 240", x.pensionIn(0, 240), 340 - 81);
        Check.same("61 months early in 239", x.pensionIn(0, 239), 339 - 82);
        int[] wrong = {-1, 241, -240};
        for (int months : wrong) {
            Check.noArgument("months " + months, x, () -> x.pensionIn(0, months));
        }
        for (int months : Make.FAR) {
            Check.noArgument("months " + months, x, () -> x.pensionIn(0, months));
        }
    }

    /** 0 if it is more than 120 months early then. */
    private static void nothingMoreThan120Early() {
        PensionSections x = with(650, 100);
        Check.same("130 months early", x.pensionIn(0, 0), 0);
        Check.same("121 months early", x.pensionIn(0, 9), 0);
        Check.same("120 months early", x.pensionIn(0, 10), 110 - 52);
        PensionSections y = with(419, 100);
        Check.same("121 months early in 240", y.pensionIn(0, 240), 0);
        PensionSections z = with(420, 100);
        Check.same("120 months early in 240", z.pensionIn(0, 240), 340 - 163);
    }

    /** Or when setting 0 is reached earlier: the months behind it do not count. */
    private static void whenSetting0IsReachedEarlier() {
        PensionSections x = with(770, 100);
        Check.same("9 months, 1 early", x.pensionIn(0, 9), 109);
        Check.same("10 months, not early", x.pensionIn(0, 10), 110);
        Check.same("no more than 10", x.pensionIn(0, 11), 110);
        Check.same("no more than 10 of 240", x.pensionIn(0, 240), 110);
        PensionSections y = with(770, 250);
        Check.same("1 early of 259 loses 1", y.pensionIn(0, 9), 258);
        Check.same("none early of 260", y.pensionIn(0, 10), 260);
    }

    /** Months ahead do not count if the age is at least setting 0 already. */
    private static void oldEnoughAlready() {
        int[] ages = {780, 781, 959};
        for (int age : ages) {
            PensionSections x = with(age, 100);
            Check.same("now at " + age, x.pensionIn(0, 0), 100);
            Check.same("in 1 at " + age, x.pensionIn(0, 1), 100);
            Check.same("in 240 at " + age, x.pensionIn(0, 240), 100);
        }
        PensionSections y = with(779, 100);
        Check.same("1 month counts at 779", y.pensionIn(0, 240), 101);
    }

    /** Service is 1 more for each of these months, if the member is not behind. */
    private static void behindServesNoMore() {
        PensionSections x = with(770, 100);
        x.fallBehind(0, true);
        Check.same("now", x.pensionIn(0, 0), 100 - 4);
        Check.same("5 early, without service", x.pensionIn(0, 5), 100 - 2);
        Check.same("not early, without service", x.pensionIn(0, 10), 100);
        x.pass(2);
        Check.same("late months do not count", x.pensionIn(0, 8), 100);
    }

    /** All else as it is: neither the fund nor any other member, pay or closed section matters. */
    private static void allElseAsItIs() {
        PensionSections x = with(770, 100);
        x.close(0, true);
        Check.same("in a closed section", x.pensionIn(0, 10), 110);
        x.leave(0);
        x.join(1, 720, 770);
        Check.same("with an empty service", x.pensionIn(1, 10), 10);
        long before = x.digest();
        x.pensionIn(1, 240);
        Check.same("nothing is changed", x.digest(), before);
    }

    /** Of several the one with the least rate, of these the lowest; NONE for a retired one. */
    private static void bestOfSeveral() {
        PensionSections x = with(780, 100);
        Check.same("alike in all: the lowest", x.bestSection(0), 0);
        x.section(1, 99, 60);
        Check.same("alike in all: the least rate", x.bestSection(0), 1);
        x.section(2, 99, 20);
        Check.same("months ahead do not count, so the share does not either", x.bestSection(0), 1);
        x.section(0, 99, 60);
        Check.same("the lowest of the least", x.bestSection(0), 0);
        x.section(0, 100, 60);
        x.section(1, 100, 60);
        Check.same("the last", x.bestSection(0), 2);
        x.close(2, true);
        Check.same("of those that are open", x.bestSection(0), 0);
        x.change(0, 1);
        Check.same("the lowest, though not the own", x.bestSection(0), 0);
        x.close(0, true);
        Check.same("the own", x.bestSection(0), 1);
        x.retire(0);
        Check.same("retired", x.bestSection(0), NONE);
    }

    /** The own section, though it is closed; not another that is closed, though it would be better. */
    private static void bestOfTheOwnAndOfThoseThatAreOpen() {
        PensionSections x = with(768, 100);
        x.section(0, 300, 20);
        x.close(0, true);
        Check.same("the own, closed", x.bestSection(0), 0);
        x.section(0, 300, 80);
        x.section(2, 300, 20);
        x.close(2, true);
        Check.same("12 months at 60, not at 80 or in a closed one", x.bestSection(0), 1);
        x.change(0, 1);
        Check.same("the own, open", x.bestSection(0), 1);
        x.section(1, 10, 200);
        Check.same("the only one to choose", x.bestSection(0), 1);
    }

    /** The greatest pensionIn of 12 in it: 1 coin more decides before any rate. */
    private static void bestByTheGreatestPension() {
        PensionSections x = new PensionSections();
        x.join(0, 720, 768);
        x.section(0, 10, 66);
        x.section(1, 10, 66);
        x.section(2, 300, 65);
        Check.same("10 and 10 and 11", x.bestSection(0), 2);
        x.section(2, 300, 66);
        Check.same("10 and 10 and 10", x.bestSection(0), 0);
        x.section(1, 300, 65);
        Check.same("10 and 11 and 10", x.bestSection(0), 1);
        x.section(2, 300, 60);
        Check.same("10 and 11 and 12", x.bestSection(0), 2);
        x.section(0, 300, 59);
        Check.same("12 and 11 and 12, of the same rate", x.bestSection(0), 0);
        x.section(2, 299, 60);
        Check.same("12 and 11 and 12, by the rate", x.bestSection(0), 2);
    }

    public static void main(String[] args) {
        eachSectionForItself();
        theMost();
        lossIsRoundedDown();
        early120AtMost();
        earlyIfBelowSetting0();
        retiredAlready();
        lateMonthsAreGone();
        thePensionStays();
        monthsFrom0To240();
        nothingMoreThan120Early();
        whenSetting0IsReachedEarlier();
        oldEnoughAlready();
        behindServesNoMore();
        allElseAsItIs();
        bestOfSeveral();
        bestOfTheOwnAndOfThoseThatAreOpen();
        bestByTheGreatestPension();
        Check.end();
    }
}
