/** Members and amounts of money that the tests of the limits begin with. */
final class Make {
    static final int FULL_FUND = 999999999;
    static final int MOST_AMOUNT = 9999999;
    /** Ints that are out of every range of the document, on both sides. */
    static final int[] FAR = {Integer.MIN_VALUE, Integer.MIN_VALUE + 1, -1000000, 1000000000, Integer.MAX_VALUE};

    private Make() {
    }

    /** A retired member in section 0 with a pension of 0 to 9999; as many coins come into the fund. */
    static int pensioner(PensionSections x, int pension) {
        int price = x.set(3, 1);
        int number = x.join(0, 1, x.setting(0));
        if (pension > 0) {
            x.transfer(number, pension);
        }
        x.pay(number, 720);
        x.retire(number);
        x.set(3, price);
        return number;
    }

    /** A young member in section 2 who pays nothing, for money to be brought along. */
    static int bringer(PensionSections x) {
        int number = x.join(2, 9999, 192);
        x.fallBehind(number, true);
        return number;
    }

    /** Brings so many coins into the fund, for a member with the greatest pay. */
    static void bring(PensionSections x, int member, int coins) {
        int price = x.set(3, 20);
        int left = coins;
        while (left > 0) {
            int amount = Math.min(left, MOST_AMOUNT);
            x.transfer(member, amount);
            left -= amount;
        }
        x.set(3, price);
    }

    /** Brings as much as is missing to a fund of 999999999. */
    static void fill(PensionSections x, int member) {
        bring(x, member, FULL_FUND - x.count(3));
    }

    /** One who is behind in section 0 with so many months, each with the same due; setting 1 is 60. */
    static PensionSections behind(int months, int due) {
        PensionSections x = new PensionSections();
        x.set(1, 60);
        x.join(0, 10 * due, 300);
        x.fallBehind(0, true);
        x.pass(months);
        return x;
    }
}
