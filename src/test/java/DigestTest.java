/** Promise 30: digest. */
public final class DigestTest {
    private DigestTest() {
    }

    private static long folded(long... values) {
        long hash = 2897;
        for (long value : values) {
            hash = 31 * hash + value;
        }
        return hash;
    }

    private static void ofANewObject() {
        long due = folded(
            0, 0, 0, 0, 0, 0, 0, 0,
            0, 0, 0, 0, 0, 0,
            780, 12, 5, 2,
            100, 60, 0, 0, 0, 0,
            100, 60, 0, 0, 0, 0,
            100, 60, 0, 0, 0, 0,
            0, 0, 0, 0,
            -1,
            0x3FF0000000000000L,
            0);
        PensionSections x = new PensionSections();
        Check.same("digest of a new one", x.digest(), due);
        Check.same("digest again", x.digest(), due);
    }

    private static void withAMember() {
        PensionSections x = new PensionSections();
        x.section(1, 200, 30);
        x.close(2, true);
        x.join(1, 1000, 778);
        x.pass(1);
        x.fallBehind(0, true);
        x.set(1, 9);
        Check.write(x, "1s");
        long due = folded(
            1, 1, 0, 200, 0, 0, 0, 6,
            200, 0, 0, 0, 0, 0,
            780, 9, 5, 2,
            100, 60, 0, 0, 0, 0,
            200, 30, 0, 1, 1, 0,
            100, 60, 1, 0, 0, 0,
            0, 1, 1000, 779, 0, 1, 0, 0, 2, 1, 0, 0,
            2, 0,
            200 - 23 * 2, 1, 0, 0,
            102,
            0x3FF0000000000000L,
            2, '1', 's');
        Check.same("digest with a member", x.digest(), due);
    }

    private static void withLateMonths() {
        PensionSections x = new PensionSections();
        x.join(0, 1000, 300);
        x.fallBehind(0, true);
        x.pass(2);
        x.payLate(0, 101);
        x.fallBehind(0, false);
        x.pass(1);
        long due = folded(
            3, 1, 0, 201, 1, 0, 0, 6,
            100, 101, 0, 0, 0, 0,
            780, 12, 5, 2,
            100, 60, 0, 1, 2, 1,
            100, 60, 0, 0, 0, 0,
            100, 60, 0, 0, 0, 0,
            0, 0, 1000, 303, 2, 0, 0, 0, 2, 0, 1, 101,
            1, 100, 0, 101,
            0, 0,
            201 + 2400, 0, 1, 0,
            -1,
            Double.doubleToLongBits(100.0 / 201.0),
            0);
        Check.same("digest with late months", x.digest(), due);
    }

    private static void withAPensionTo12MonthsAhead() {
        PensionSections x = new PensionSections();
        x.section(2, 100, 30);
        x.join(2, 720, 700);
        x.fallBehind(0, true);
        x.pass(1);
        x.payLate(0, 72);
        x.fallBehind(0, false);
        long due = folded(
            1, 1, 0, 72, 0, 0, 0, 6,
            0, 72, 0, 0, 0, 0,
            780, 12, 5, 2,
            100, 60, 0, 0, 0, 0,
            100, 60, 0, 0, 0, 0,
            100, 30, 0, 1, 1, 0,
            0, 2, 720, 701, 0, 0, 1, 0, 2, 0, 0, 0,
            26 - 6, 2,
            72 * 25, 0, 0, 0,
            79 + 36 + 1,
            0,
            0);
        Check.same("digest with all paid late, and 67 months to go in 12", x.digest(), due);
    }

    /** The bits of inTime over many shares of what was paid in time. */
    private static void theBitsOfInTime() {
        for (int months = 1; months <= 60; months++) {
            PensionSections x = new PensionSections();
            x.set(2, 50);
            x.set(1, 60);
            x.join(0, 9999, 300);
            x.join(1, 10 * months, 300);
            x.fallBehind(0, true);
            x.pass(months);
            x.leave(1);
            x.undo();
            x.payLate(0, 9999999);
            double share = (double) x.sum(0) / (x.sum(0) + x.sum(1));
            Check.sameDouble("inTime", x.inTime(), share);
            x.leave(0);
            x.leave(1);
            Check.same("digest with " + share, x.digest(), ofNobody(x, Double.doubleToLongBits(share)));
        }
    }

    private static long ofNobody(PensionSections x, long bits) {
        return folded(x.count(0), 0, 0, x.count(3), 0, 0, 0, 6,
            x.sum(0), x.sum(1), 0, 0, 0, x.sum(5),
            780, 60, 50, 2,
            100, 60, 0, 0, 0, 0,
            100, 60, 0, 0, 0, 0,
            100, 60, 0, 0, 0, 0,
            x.count(3), 0, 0, 0, -1, bits, 0);
    }

    public static void main(String[] args) {
        ofANewObject();
        withAMember();
        withLateMonths();
        withAPensionTo12MonthsAhead();
        theBitsOfInTime();
        Check.end();
    }
}
