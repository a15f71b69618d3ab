/** Promises 13, 22, 23, 25, 28 and 29: pass, count, sum, ifPassed, fundLasts and inTime. */
public final class MonthsTest {
    private static final int NONE = PensionSections.NONE;

    private MonthsTest() {
    }

    private static void promise13Pass() {
        PensionSections x = new PensionSections();
        x.join(0, 999, 777);
        x.join(1, 1000, 300);
        Check.same("none retires", x.pass(2), 0);
        Check.same("99 and 100, twice", x.count(3), 398);
        Check.same("months", x.count(0), 2);
        Check.same("ages", x.member(0, 3), 779);
        Check.same("one retires behind paying", x.pass(1), 1);
        Check.same("no pension yet", x.count(3), 597);
        Check.same("3 times 999 by 720", x.member(0, 8), 4);
        Check.same("none", x.pass(1), 0);
        Check.same("100 more, 4 paid", x.count(3), 693);
        Check.same("one call, one state", x.count(7), 5);
        x.undo();
        x.undo();
        Check.same("undone", x.count(0), 2);
        Check.same("both retire", manyRetire(), 2);
        Check.noArgument("0", x, () -> x.pass(0));
        Check.noArgument("121", x, () -> x.pass(121));
        Check.noArgument("-1", x, () -> x.pass(-1));
    }

    private static int manyRetire() {
        PensionSections x = new PensionSections();
        x.join(0, 999, 777);
        x.join(1, 1000, 959);
        x.join(1, 1000, 659);
        return x.pass(120);
    }

    private static void promise13Limit() {
        PensionSections x = new PensionSections();
        x.join(0, 1000, 192);
        Check.passMany(x, 9990);
        Check.noState("10000", x, () -> x.pass(10));
        Check.noState("far above", x, () -> x.pass(120));
        Check.noArgument("range before the limit", x, () -> x.pass(121));
        Check.same("9999", x.pass(9), 0);
        Check.noState("one more", x, () -> x.pass(1));
        Check.same("the limit does not matter for what would be", x.ifPassed(1, 1), 0);
        Check.same("no older than 960", x.member(0, 3), 960);
        Check.same("months", x.count(0), 9999);
        Check.same("588 months of service", x.member(0, 4), 588);
        Check.same("58800 coins: 72 pensions of 816", x.count(3), 48);
        Check.same("paid", x.sum(3), 72 * 816);
        Check.same("missing", x.sum(4), (9999 - 588 - 72) * 816L);
    }

    private static void promise13LateMonthsLapse() {
        PensionSections x = new PensionSections();
        x.join(0, 1000, 300);
        x.set(1, 3);
        x.fallBehind(0, true);
        x.pass(3);
        Check.same("3 are late", x.count(4), 3);
        Check.same("none lapsed", x.count(5), 0);
        x.pass(1);
        Check.same("the one of month 0 lapses in month 3", x.count(5), 1);
        Check.same("3 are late", x.count(4), 3);
        Check.same("the first is of month 1", x.late(0, 0, 0), 1);
        x.fallBehind(0, false);
        x.pass(1);
        Check.same("they lapse also without a new one", x.count(5), 2);
        x.pass(9);
        Check.same("all", x.count(5), 4);
        Check.same("their service is lost", x.member(0, 4), 10);
        x.set(1, 60);
        x.fallBehind(0, true);
        x.pass(70);
        Check.same("60 are kept at most", x.count(4), 60);
        Check.same("the last of them", x.late(0, 59, 0), 83);
        Check.same("not more", x.late(0, 60, 0), NONE);
        Check.same("10 lapsed more", x.count(5), 14);
    }

    /** Months that were bought by a pay of 1 make a pension that the fund cannot pay for long. */
    private static void buy(PensionSections x, int member, int coins, int payThen) {
        x.transfer(member, coins);
        x.pay(member, payThen);
        x.retire(member);
    }

    private static void promise13FundByNumbers() {
        PensionSections x = new PensionSections();
        for (int i = 0; i < 3; i++) {
            x.join(0, 1, 780);
        }
        buy(x, 0, 100, 2160);
        buy(x, 1, 180, 2160);
        buy(x, 2, 2, 720);
        Check.same("the fund", x.count(3), 282);
        x.pass(1);
        Check.same("150 paid, 270 missing, 1 paid", x.count(3), 131);
        Check.same("missing", x.sum(4), 270);
        x.pass(1);
        Check.same("150 and 270 missing, 1 paid", x.count(3), 130);
        Check.same("missing", x.sum(4), 270 + 150 + 270);
        Check.same("paid so far", x.sum(3), 152);
    }

    private static void promise22Count() {
        PensionSections x = new PensionSections();
        x.join(0, 1000, 700);
        x.join(1, 1000, 779);
        x.join(2, 1000, 300);
        x.set(1, 2);
        x.fallBehind(2, true);
        x.pass(5);
        x.retire(0);
        int[] due = {5, 3, 2, 600 - 4, 2, 3, 1, 6};
        for (int what = 0; what < 8; what++) {
            Check.same("count " + what, x.count(what), due[what]);
        }
        x.leave(0);
        Check.same("one less is retired", x.count(2), 1);
        Check.same("retired early so far", x.count(6), 1);
        x.undo();
        x.undo();
        Check.same("undone", x.count(6), 0);
        x.undo();
        Check.same("undone", x.count(5), 0);
        Check.noArgument("-1", x, () -> x.count(-1));
        Check.noArgument("8", x, () -> x.count(8));
    }

    private static void promise23Sum() {
        PensionSections x = new PensionSections();
        x.join(0, 1000, 300);
        x.join(1, 1000, 779);
        x.join(2, 2000, 300);
        x.transfer(1, 2000 * 200);
        x.fallBehind(2, true);
        x.pass(3);
        x.payLate(2, 300);
        x.leave(0);
        long[] due = {400, 203, 400000, 279 * 2, 0, 300};
        for (int what = 0; what < 6; what++) {
            Check.same("sum " + what, x.sum(what), due[what]);
        }
        Check.same("the fund is what came less what went", x.count(3), 400 + 203 + 400000 - 558 - 300);
        Check.noArgument("-1", x, () -> x.sum(-1));
        Check.noArgument("6", x, () -> x.sum(6));
    }

    private static void promise25IfPassed() {
        PensionSections x = new PensionSections();
        x.join(0, 720, 770);
        x.join(1, 720, 775);
        x.join(2, 1000, 300);
        x.fallBehind(2, true);
        x.set(1, 4);
        long before = x.digest();
        Check.same("the fund in 1", x.ifPassed(1, 0), 144);
        Check.same("720 and 360 less 50 pensions of 10 and 55 of 5", x.ifPassed(60, 0), 1080 - 500 - 275);
        Check.same("5 are left in 80", x.ifPassed(80, 0), 5);
        Check.same("the second gets them in 81", x.ifPassed(81, 0), 0);
        Check.same("missing in 80", x.ifPassed(80, 3), 0);
        Check.same("missing in 81", x.ifPassed(81, 3), 10);
        Check.same("missing in 82", x.ifPassed(82, 3), 25);
        Check.same("missing in 240", x.ifPassed(240, 3), 10 + 159 * 15);
        Check.same("missing first", x.fundLasts(), 81);
        Check.same("retiring in 4", x.ifPassed(4, 1), 0);
        Check.same("retiring in 5", x.ifPassed(5, 1), 1);
        Check.same("retiring in 10", x.ifPassed(10, 1), 2);
        Check.same("lapsing in 4", x.ifPassed(4, 2), 0);
        Check.same("lapsing in 5", x.ifPassed(5, 2), 1);
        Check.same("lapsing in 240", x.ifPassed(240, 2), 236);
        Check.same("nothing is changed", x.digest(), before);
        x.pass(10);
        Check.same("from now on", x.ifPassed(240, 1), 0);
        Check.same("lapsing from now on", x.ifPassed(1, 2), 1);
        Check.noArgument("months 0", x, () -> x.ifPassed(0, 0));
        Check.noArgument("months 241", x, () -> x.ifPassed(241, 0));
        Check.noArgument("what -1", x, () -> x.ifPassed(1, -1));
        Check.noArgument("what 4", x, () -> x.ifPassed(1, 4));
    }

    private static void promise25And28FromNowOn() {
        PensionSections x = new PensionSections();
        x.join(0, 1, 780);
        buy(x, 0, 2000, 720);
        Check.same("a pension of 1000", x.member(0, 8), 1000);
        Check.same("missing first in 3", x.fundLasts(), 3);
        x.pass(3);
        Check.same("missing so far", x.sum(4), 1000);
        Check.same("missing from now on", x.ifPassed(2, 3), 2000);
        Check.same("missing at once", x.fundLasts(), 1);
    }

    private static void promise28FundLasts() {
        PensionSections x = new PensionSections();
        Check.same("nobody", x.fundLasts(), NONE);
        x.join(0, 9999, 192);
        Check.same("nobody retires in 240 months", x.fundLasts(), NONE);
        PensionSections y = new PensionSections();
        y.join(0, 1000, 780);
        y.retire(0);
        Check.same("a pension of 0 is never missing", y.fundLasts(), NONE);
        lastsWith(200 * 240, NONE);
        lastsWith(200 * 240 - 1, 240);
        lastsWith(200 * 239, 240);
        lastsWith(200 * 239 - 1, 239);
        lastsWith(200, 2);
        Check.same("nothing is saved", y.count(7), 2);
    }

    /** With a pension of 200 a month, and so much in the fund. */
    private static void lastsWith(int coins, int due) {
        PensionSections x = new PensionSections();
        x.join(0, 1, 780);
        buy(x, 0, 200, 1440);
        if (coins > 200) {
            x.join(1, 9999, 300);
            x.fallBehind(1, true);
            x.transfer(1, coins - 200);
        }
        Check.same("the fund", x.count(3), coins);
        Check.same("the pension", x.member(0, 8), 200);
        Check.same("missing first with " + coins, x.fundLasts(), due);
    }

    private static void promise29InTime() {
        PensionSections x = new PensionSections();
        Check.sameDouble("nothing yet", x.inTime(), 1.0);
        x.join(0, 1000, 300);
        x.join(0, 500, 300);
        x.fallBehind(0, true);
        x.fallBehind(1, true);
        x.pass(2);
        x.payLate(0, 101);
        Check.sameDouble("all late", x.inTime(), 0.0);
        x.fallBehind(1, false);
        x.pass(1);
        Check.sameDouble("50 of 151", x.inTime(), 50.0 / 151.0);
        x.transfer(0, 10000);
        Check.sameDouble("transfers do not matter", x.inTime(), 50.0 / 151.0);
        x.undo();
        x.undo();
        Check.sameDouble("undone", x.inTime(), 0.0);
        PensionSections y = new PensionSections();
        y.join(0, 1000, 300);
        y.pass(1);
        Check.sameDouble("all in time", y.inTime(), 1.0);
    }

    public static void main(String[] args) {
        promise13Pass();
        promise13Limit();
        promise13LateMonthsLapse();
        promise13FundByNumbers();
        promise22Count();
        promise23Sum();
        promise25IfPassed();
        promise25And28FromNowOn();
        promise28FundLasts();
        promise29InTime();
        Check.end();
    }
}
