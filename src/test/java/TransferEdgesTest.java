/** The limits that the document names for transfers: "Transfers" of its terms, and promise 10. */
public final class TransferEdgesTest {
    private TransferEdgesTest() {
    }

    /** So many months of service come as setting 3 times the pay goes into the amount whole. */
    private static void asOftenAsItGoesInWhole() {
        int[][] rows = {{1, 1, 1, 1}, {2, 1, 1, 0}, {2, 1, 2, 1}, {2, 1000, 1999, 0}, {2, 1000, 2000, 1},
            {2, 1000, 3999, 1}, {2, 1000, 4000, 2}, {20, 9999, 199979, 0}, {20, 9999, 199980, 1},
            {20, 9999, 9999999, 50}, {1, 9999, 9998, 0}, {1, 9999, 9999999, 1000}, {20, 1, 19, 0}, {20, 1, 199980, 9999}};
        for (int[] row : rows) {
            PensionSections x = new PensionSections();
            x.set(3, row[0]);
            x.join(1, row[1], 300);
            String what = row[2] + " at " + row[0] + " times " + row[1];
            Check.same(what, x.transfer(0, row[2]), row[3]);
            Check.same("service by " + what, x.member(0, 5), row[3]);
            Check.same("the whole amount, by " + what, x.count(3), row[2]);
            Check.same("the sum, by " + what, x.sum(2), row[2]);
        }
    }

    /** What does not make a month is not kept for the next transfer. */
    private static void whatIsOverIsNotKept() {
        PensionSections x = new PensionSections();
        x.join(0, 1000, 300);
        Check.same("half a month", x.transfer(0, 1000), 0);
        Check.same("the other half", x.transfer(0, 1000), 0);
        Check.same("no service", x.member(0, 4), 0);
        Check.same("but in the fund", x.count(3), 2000);
    }

    /** amount: 1 to 9999999. */
    private static void amountFrom1To9999999() {
        PensionSections x = new PensionSections();
        x.join(0, 9999, 300);
        Check.same("the least", x.transfer(0, 1), 0);
        Check.same("the most", x.transfer(0, 9999999), 500);
        int[] wrong = {0, -1, 10000000};
        for (int amount : wrong) {
            Check.noArgument("amount " + amount, x, () -> x.transfer(0, amount));
        }
        for (int amount : Make.FAR) {
            Check.noArgument("amount " + amount, x, () -> x.transfer(0, amount));
        }
    }

    /** IllegalStateException if service in it would be above 9999 months. */
    private static void service9999AtMost() {
        PensionSections x = new PensionSections();
        x.set(3, 1);
        x.join(0, 1, 300);
        Check.noState("10000 at once", x, () -> x.transfer(0, 10000));
        Check.noState("9999999 at once", x, () -> x.transfer(0, 9999999));
        Check.same("9998", x.transfer(0, 9998), 9998);
        Check.noState("2 more", x, () -> x.transfer(0, 2));
        Check.same("1 more", x.transfer(0, 1), 1);
        Check.noState("10000 by 1 more", x, () -> x.transfer(0, 1));
        x.undo();
        Check.same("1 more behind undo", x.transfer(0, 1), 1);
    }

    /** Months that pass count: from 9998 to 9999 nothing more goes in, but an amount that brings none. */
    private static void service9999WithMonthsThatPass() {
        PensionSections x = new PensionSections();
        x.set(3, 1);
        x.join(0, 2, 300);
        x.transfer(0, 2 * 9998);
        x.pass(1);
        Check.same("9999 by a month", x.member(0, 4), 9999);
        Check.noState("1 more", x, () -> x.transfer(0, 2));
        Check.same("none for half the price", x.transfer(0, 1), 0);
        x.pass(1);
        Check.same("10000 by a month", x.member(0, 4), 10000);
        Check.noState("it would be above, even with none", x, () -> x.transfer(0, 1));
    }

    /** Service in it: of the own section alone. */
    private static void service9999InEachSection() {
        PensionSections x = new PensionSections();
        x.set(3, 1);
        x.join(0, 1, 300);
        for (int section = 0; section < 3; section++) {
            if (section > 0) {
                x.change(0, section);
            }
            Check.same("9999 in " + section, x.transfer(0, 9999), 9999);
            Check.noState("1 more in " + section, x, () -> x.transfer(0, 1));
        }
        Check.same("all stand", x.member(0, 4) + x.member(0, 5) + x.member(0, 6), 3 * 9999);
        x.join(2, 1, 300);
        Check.same("another member has room", x.transfer(1, 9999), 9999);
    }

    /** IllegalStateException if the fund would be above 999999999. */
    private static void fund999999999AtMost() {
        PensionSections x = new PensionSections();
        int bringer = Make.bringer(x);
        Make.bring(x, bringer, Make.FULL_FUND - 2);
        Check.noState("3 too much", x, () -> x.transfer(bringer, 3));
        Check.noState("9999999 too much", x, () -> x.transfer(bringer, 9999999));
        Check.same("1", x.transfer(bringer, 1), 0);
        Check.noState("2 too much", x, () -> x.transfer(bringer, 2));
        Check.same("full", x.transfer(bringer, 1), 0);
        Check.same("exactly", x.count(3), 999999999);
        Check.noState("1 too much", x, () -> x.transfer(bringer, 1));
        x.join(0, 10, 300);
        x.pass(1);
        Check.same("above it by a contribution", x.count(3), 1000000000);
        Check.noState("1 too much above it", x, () -> x.transfer(bringer, 1));
        Check.same("1 goes out to one who leaves", x.leave(1), 1);
        Check.noState("1 too much again", x, () -> x.transfer(bringer, 1));
    }

    /** IllegalStateException if the member is retired, or the section is closed. */
    private static void retiredOrClosed() {
        PensionSections x = new PensionSections();
        x.join(0, 1000, 779);
        x.join(1, 1000, 300);
        x.close(1, true);
        Check.noState("closed", x, () -> x.transfer(1, 2000));
        Check.same("another section", x.transfer(0, 2000), 1);
        x.pass(1);
        Check.noState("retired", x, () -> x.transfer(0, 2000));
        x.close(0, true);
        Check.noState("retired and closed", x, () -> x.transfer(0, 2000));
        Check.noArgument("0 is out of range first", x, () -> x.transfer(0, 0));
    }

    /** One who is behind may bring money along too, and late months stay. */
    private static void oneWhoIsBehind() {
        PensionSections x = Make.behind(2, 100);
        Check.same("months", x.transfer(0, 4000), 2);
        Check.same("late months stay", x.member(0, 10), 2);
        Check.same("nothing was paid late", x.sum(1), 0);
    }

    public static void main(String[] args) {
        asOftenAsItGoesInWhole();
        whatIsOverIsNotKept();
        amountFrom1To9999999();
        service9999AtMost();
        service9999WithMonthsThatPass();
        service9999InEachSection();
        fund999999999AtMost();
        retiredOrClosed();
        oneWhoIsBehind();
        Check.end();
    }
}
