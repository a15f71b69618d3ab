/** Promises 9, 10 and 21: payLate, transfer and late. */
public final class LateTest {
    private static final int NONE = PensionSections.NONE;

    private LateTest() {
    }

    /** One who is behind with 4 months: due are 100, 100, 200 and 75, in the sections 0, 0, 1 and 1. */
    private static PensionSections behind() {
        PensionSections x = new PensionSections();
        x.section(1, 200, 60);
        x.set(2, 10);
        x.join(0, 1000, 300);
        x.fallBehind(0, true);
        x.pass(2);
        x.change(0, 1);
        x.pass(1);
        x.section(1, 75, 60);
        x.pass(1);
        return x;
    }

    private static void promise21Late() {
        PensionSections x = behind();
        int[][] due = {{0, 100, 0, 104}, {1, 100, 0, 103}, {2, 200, 1, 204}, {3, 75, 1, 75}};
        for (int late = 0; late < 4; late++) {
            for (int what = 0; what < 4; what++) {
                Check.same("late(0, " + late + ", " + what + ")", x.late(0, late, what), due[late][what]);
            }
        }
        Check.same("not so many", x.late(0, 4, 0), NONE);
        Check.same("not so many", x.late(0, Integer.MAX_VALUE, 3), NONE);
        Check.same("what all cost", x.member(0, 11), 104 + 103 + 204 + 75);
        Check.noIndex("no such member", x, () -> x.late(1, -1, 4));
        Check.noArgument("late -1", x, () -> x.late(0, -1, 0));
        Check.noArgument("what 4", x, () -> x.late(0, 0, 4));
        Check.noArgument("what -1", x, () -> x.late(0, 0, -1));
        Check.noArgument("what 4, not so many", x, () -> x.late(0, 100, 4));
    }

    private static void promise9PayLate() {
        PensionSections x = behind();
        Check.same("not enough", x.payLate(0, 103), 103);
        Check.same("still 4", x.member(0, 10), 4);
        Check.same("two and 203 over: not the third, nor the lesser fourth", x.payLate(0, 104 + 103 + 203), 203);
        Check.same("two are left", x.member(0, 10), 2);
        Check.same("the next one", x.late(0, 0, 0), 2);
        Check.same("service in 0", x.member(0, 4), 2);
        Check.same("service in 1", x.member(0, 5), 0);
        Check.same("the fund", x.count(3), 207);
        Check.same("the sum", x.sum(1), 207);
        Check.same("nothing in time", x.sum(0), 0);
        Check.same("all, and 1 is given back", x.payLate(0, 280), 1);
        Check.same("service in 1", x.member(0, 5), 2);
        Check.same("none is left", x.payLate(0, 9999999), 9999999);
        Check.same("the fund", x.count(3), 486);
        x.undo();
        x.undo();
        Check.same("undone", x.member(0, 10), 2);
        Check.same("undone sum", x.sum(1), 207);
    }

    private static void promise9CostGrows() {
        PensionSections x = new PensionSections();
        x.join(0, 999, 300);
        x.fallBehind(0, true);
        x.pass(1);
        x.fallBehind(0, false);
        x.pass(10);
        Check.same("99 and 99 times 5 times 11 by 1000", x.late(0, 0, 3), 99 + 5);
        x.set(2, 0);
        Check.same("without interest", x.late(0, 0, 3), 99);
        x.set(2, 50);
        Check.same("with the most", x.late(0, 0, 3), 99 + 54);
        Check.same("exactly", x.payLate(0, 153), 0);
    }

    private static void promise9Free() {
        PensionSections x = new PensionSections();
        x.join(0, 9, 300);
        x.fallBehind(0, true);
        x.pass(3);
        x.pay(0, 1000);
        x.pass(1);
        Check.same("months for nothing and one whole", x.payLate(0, 100), 0);
        Check.same("service", x.member(0, 4), 4);
        Check.same("the fund", x.count(3), 100);
    }

    private static void promise9Refused() {
        PensionSections x = behind();
        Check.noIndex("no such", x, () -> x.payLate(1, 0));
        Check.noArgument("0", x, () -> x.payLate(0, 0));
        Check.noArgument("10000000", x, () -> x.payLate(0, 10000000));
        x.change(0, 2);
        x.pay(0, 9999);
        x.set(3, 20);
        for (int i = 0; i < 100; i++) {
            x.transfer(0, i < 99 ? 9999999 : 10098);
        }
        Check.same("the fund", x.count(3), 990009999);
        Check.same("as much as there is room for", x.payLate(0, 9990000), 9990000 - 104 - 103 - 204 - 75);
        Check.noState("the whole amount counts", x, () -> x.payLate(0, 9989515));
        Check.same("the last that goes in", x.payLate(0, 9989514), 9989514);
        PensionSections y = new PensionSections();
        y.join(0, 1000, 780);
        y.retire(0);
        Check.noState("retired", y, () -> y.payLate(0, 1));
        Check.noArgument("range before retired", y, () -> y.payLate(0, 0));
    }

    private static void promise10Transfer() {
        PensionSections x = new PensionSections();
        x.join(1, 1000, 300);
        Check.same("none", x.transfer(0, 1999), 0);
        Check.same("one", x.transfer(0, 2000), 1);
        Check.same("not quite three", x.transfer(0, 5999), 2);
        Check.same("service in the own section", x.member(0, 5), 3);
        Check.same("the whole amount goes in", x.count(3), 1999 + 2000 + 5999);
        Check.same("the sum", x.sum(2), 9998);
        x.set(3, 20);
        Check.same("dearer", x.transfer(0, 39999), 1);
        Check.same("undoable", x.count(7), 6);
        x.undo();
        Check.same("undone", x.sum(2), 9998);
        Check.noIndex("no such", x, () -> x.transfer(1, 0));
        Check.noArgument("0", x, () -> x.transfer(0, 0));
        Check.noArgument("10000000", x, () -> x.transfer(0, 10000000));
        x.close(1, true);
        Check.noState("closed", x, () -> x.transfer(0, 2000));
        Check.noArgument("range before closed", x, () -> x.transfer(0, 0));
        x.join(0, 1000, 700);
        x.retire(1);
        Check.noState("retired", x, () -> x.transfer(1, 2000));
    }

    private static void promise10ServiceLimit() {
        PensionSections x = new PensionSections();
        x.set(3, 1);
        x.join(0, 1, 300);
        Check.noState("10000 months", x, () -> x.transfer(0, 10000));
        Check.same("9999 months", x.transfer(0, 9999), 9999);
        Check.noState("one more", x, () -> x.transfer(0, 1));
        x.pay(0, 1000);
        Check.same("none more", x.transfer(0, 999), 0);
        x.pass(1);
        Check.same("months go on", x.member(0, 4), 10000);
        Check.noState("above already", x, () -> x.transfer(0, 1));
        x.change(0, 1);
        Check.same("another section has room", x.transfer(0, 1000000), 1000);
    }

    private static void promise10FundLimit() {
        PensionSections x = new PensionSections();
        x.join(0, 9999, 300);
        x.set(3, 20);
        for (int i = 0; i < 100; i++) {
            x.transfer(0, 9999999);
        }
        Check.same("the fund", x.count(3), 999999900);
        Check.noState("100 more", x, () -> x.transfer(0, 100));
        Check.same("99 more", x.transfer(0, 99), 0);
        Check.noState("1 more", x, () -> x.transfer(0, 1));
        x.pass(120);
        Check.same("contributions still go in", x.count(3), 999999999 + 120 * 999);
        Check.same("the sum of transfers", x.sum(2), 999999999);
    }

    public static void main(String[] args) {
        promise21Late();
        promise9PayLate();
        promise9CostGrows();
        promise9Free();
        promise9Refused();
        promise10Transfer();
        promise10ServiceLimit();
        promise10FundLimit();
        Check.end();
    }
}
