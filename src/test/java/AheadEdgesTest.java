import java.util.ArrayList;
import java.util.List;

/** The limits that the document names for what would be: promises 25, 28, 29 and 30. */
public final class AheadEdgesTest {
    private static final int NONE = PensionSections.NONE;

    private AheadEdgesTest() {
    }

    /** months: 1 to 240 of promise 25; what: 0 to 3. */
    private static void ifPassedRanges() {
        PensionSections x = new PensionSections();
        x.join(0, 1000, 300);
        Check.same("the least", x.ifPassed(1, 0), 100);
        Check.same("the most", x.ifPassed(240, 0), 24000);
        Check.same("the last what", x.ifPassed(240, 3), 0);
        int[] wrong = {0, -1, 241};
        for (int months : wrong) {
            Check.noArgument("months " + months, x, () -> x.ifPassed(months, 0));
        }
        Check.noArgument("what -1", x, () -> x.ifPassed(1, -1));
        Check.noArgument("what 4", x, () -> x.ifPassed(1, 4));
        for (int far : Make.FAR) {
            Check.noArgument("months " + far, x, () -> x.ifPassed(far, 0));
            Check.noArgument("what " + far, x, () -> x.ifPassed(1, far));
        }
    }

    /** The limit of 9999 does not matter. */
    private static void theLimitDoesNotMatter() {
        PensionSections x = new PensionSections();
        Check.passMany(x, 9999);
        x.join(0, 1000, 779);
        Check.noState("no month passes", x, () -> x.pass(1));
        Check.same("the fund", x.ifPassed(240, 0), 100 - 100);
        Check.same("one would retire", x.ifPassed(1, 1), 1);
        x.fallBehind(0, true);
        x.set(0, 900);
        Check.same("none would lapse", x.ifPassed(12, 2), 0);
        Check.same("one would", x.ifPassed(13, 2), 1);
        Check.same("the months have not gone", x.count(0), 9999);
        Make.pensioner(x, 10);
        Check.same("one pension is paid, 239 are missing", x.ifPassed(240, 3), 2390);
        Check.same("missing in 2", x.fundLasts(), 2);
    }

    /** Tells what months would bring: the same as when they pass, from now on, and nothing is changed. */
    private static void whatWouldBeIsWhatThenIs() {
        int[] spans = {1, 2, 12, 119, 120};
        for (int months : spans) {
            PensionSections x = many();
            long before = x.digest();
            long fund = x.ifPassed(months, 0);
            long retiring = x.ifPassed(months, 1);
            long lapsing = x.ifPassed(months, 2);
            long missing = x.ifPassed(months, 3);
            Check.same("nothing is changed", x.digest(), before);
            int lapsed = x.count(5);
            long missed = x.sum(4);
            Check.same("retiring in " + months, retiring, x.pass(months));
            Check.same("the fund in " + months, fund, x.count(3));
            Check.same("lapsing in " + months, lapsing, x.count(5) - lapsed);
            Check.same("missing in " + months, missing, x.sum(4) - missed);
        }
    }

    /** Pensions that are paid for a while, late months that lapse, and members that retire. */
    private static PensionSections many() {
        PensionSections x = new PensionSections();
        x.set(1, 3);
        Make.pensioner(x, 300);
        Make.pensioner(x, 200);
        for (int i = 0; i < 6; i++) {
            x.join(i % 3, 700 + 100 * i, 770 - 20 * i);
            x.fallBehind(2 + i, i % 2 == 0);
        }
        x.pass(5);
        Check.isTrue("some lapsed already", x.count(5) > 0);
        return x;
    }

    /** 240 months ahead are as 120 and 120 more. */
    private static void ahead240() {
        PensionSections x = many();
        long[] ahead = new long[4];
        for (int what = 0; what < 4; what++) {
            ahead[what] = x.ifPassed(240, what);
        }
        long missed = x.sum(4);
        int lapsed = x.count(5);
        long retiring = x.pass(120);
        retiring += x.pass(120);
        Check.same("the fund", ahead[0], x.count(3));
        Check.same("retiring", ahead[1], retiring);
        Check.same("lapsing", ahead[2], x.count(5) - lapsed);
        Check.same("missing", ahead[3], x.sum(4) - missed);
    }

    /** Behind how many months, 1 to 240, a pension is missing for the first time; NONE if none is. */
    private static void fundLasts1To240() {
        int[][] rows = {{0, 1}, {99, 1}, {100, 2}, {199, 2}, {200, 3}, {23799, 238}, {23800, 239}, {23899, 239},
            {23900, 240}, {23999, 240}, {24000, NONE}, {24001, NONE}};
        for (int[] row : rows) {
            PensionSections x = new PensionSections();
            Make.pensioner(x, 100);
            x.pass(1);
            if (row[0] > 0) {
                Make.bring(x, Make.bringer(x), row[0]);
            }
            Check.same("the fund", x.count(3), row[0]);
            Check.same("with " + row[0], x.fundLasts(), row[1]);
        }
    }

    /** NONE if nobody gets a pension, or all get nothing. */
    private static void fundLastsWithoutPensions() {
        PensionSections x = new PensionSections();
        Check.same("nobody", x.fundLasts(), NONE);
        Make.pensioner(x, 0);
        Check.same("a pension of 0 out of an empty fund", x.fundLasts(), NONE);
        x.pass(1);
        Check.same("nothing is missing", x.sum(4), 0);
    }

    /** If only months pass: who retires in them counts. */
    private static void fundLastsWithThoseWhoRetire() {
        PensionSections x = new PensionSections();
        x.join(0, 7200, 779);
        x.section(0, 10, 20);
        Check.same("72 come, then 30 and 30 go", x.fundLasts(), 4);
        PensionSections y = new PensionSections();
        y.section(0, 10, 20);
        y.join(0, 7200, 780 - 239);
        Check.same("retires in month 239, gets the pension in month 240", y.fundLasts(), NONE);
        y.leave(0);
        y.join(0, 1, 780 - 239);
        y.transfer(1, 19998);
        y.pay(1, 9999);
        Check.same("and it is missing in month 240", y.fundLasts(), 240);
        y.leave(1);
        y.join(0, 1, 780 - 240);
        y.transfer(2, 19998);
        y.pay(2, 9999);
        Check.same("retires in month 240", y.fundLasts(), NONE);
    }

    /** From now on: what was missing before does not count. */
    private static void fundLastsFromNowOn() {
        PensionSections x = new PensionSections();
        Make.pensioner(x, 10);
        x.pass(3);
        Check.same("two are missing so far", x.sum(4), 20);
        Check.same("the next", x.fundLasts(), 1);
        Make.bring(x, Make.bringer(x), 10);
        Check.same("the one behind the next", x.fundLasts(), 2);
        x.leave(0);
        Check.same("none any more", x.fundLasts(), NONE);
        Check.same("missing so far", x.sum(4), 20);
    }

    /** 1.0 if that is 0; what was paid in time, divided by this and what was paid for late months. */
    private static void inTimeFrom0To1() {
        PensionSections x = new PensionSections();
        Check.sameDouble("nobody", x.inTime(), 1.0);
        x.join(0, 9, 300);
        x.transfer(0, 1000);
        x.fallBehind(0, true);
        x.pass(1);
        x.payLate(0, 1);
        Check.sameDouble("a late month for nothing", x.inTime(), 1.0);
        x.pay(0, 10);
        x.pass(1);
        Check.sameDouble("not paid yet", x.inTime(), 1.0);
        x.payLate(0, 1);
        Check.sameDouble("all late", x.inTime(), 0.0);
        x.fallBehind(0, false);
        x.pass(1);
        Check.sameDouble("half", x.inTime(), 0.5);
        x.pass(1);
        Check.sameDouble("2 of 3", x.inTime(), 2.0 / 3.0);
        x.leave(0);
        Check.sameDouble("so far, also of one who left", x.inTime(), 2.0 / 3.0);
    }

    /** Interest is part of what was paid for late months; what is given back is not. */
    private static void inTimeWithInterest() {
        PensionSections x = new PensionSections();
        x.set(2, 50);
        x.join(0, 1000, 300);
        x.pass(1);
        x.fallBehind(0, true);
        x.pass(1);
        x.payLate(0, 9999999);
        Check.sameDouble("100 of 205", x.inTime(), 100.0 / 205.0);
    }

    /** The hash starts at 2897, in long arithmetic with overflow, over all values in order. */
    private static long folded(List<Long> values) {
        long hash = 2897;
        for (long value : values) {
            hash = 31 * hash + value;
        }
        return hash;
    }

    /** What promise 30 lists, asked for by the other calls; the buffer holds this text. */
    private static long digestByCalls(PensionSections x, String text) {
        List<Long> values = new ArrayList<>();
        for (int what = 0; what < 8; what++) {
            values.add((long) x.count(what));
        }
        for (int what = 0; what < 6; what++) {
            values.add(x.sum(what));
        }
        for (int setting = 0; setting < 4; setting++) {
            values.add((long) x.setting(setting));
        }
        for (int i = 0; i < 18; i++) {
            values.add((long) x.sectionOf(i / 6, i % 6));
        }
        int members = x.count(1);
        for (int place = 0; place < members; place++) {
            addMember(values, x, place);
        }
        for (int what = 0; what < 4; what++) {
            values.add(x.ifPassed(24, what));
        }
        values.add((long) x.fundLasts());
        values.add(Double.doubleToLongBits(x.inTime()));
        values.add((long) text.length());
        for (char code : text.toCharArray()) {
            values.add((long) code);
        }
        return folded(values);
    }

    private static void addMember(List<Long> values, PensionSections x, int place) {
        for (int what = 0; what < 12; what++) {
            values.add((long) x.member(place, what));
        }
        int number = x.member(place, 0);
        int late = x.member(place, 10);
        for (int i = 0; i < 4 * late; i++) {
            values.add((long) x.late(number, i / 4, i % 4));
        }
        values.add((long) x.pensionIn(number, 12));
        values.add((long) x.bestSection(number));
    }

    /** The digest of nobody, of 8 members, of 60 late months, with an empty buffer and with a full one. */
    private static void digestOfTheLimits() {
        PensionSections x = new PensionSections();
        Check.same("nobody", x.digest(), digestByCalls(x, ""));
        String text = "!~0123456789012345678901234567890123456789012345678901234567";
        Check.write(x, text);
        Check.same("a full buffer", x.digest(), digestByCalls(x, text));
        PensionSections y = many();
        Check.same("8 members", y.count(1), 8);
        Check.same("all of them", y.digest(), digestByCalls(y, ""));
        PensionSections z = Make.behind(60, 123);
        Check.same("60 late months", z.digest(), digestByCalls(z, ""));
        PensionSections v = new PensionSections();
        Make.fill(v, Make.bringer(v));
        v.leave(0);
        Check.same("a full fund, and nobody", v.digest(), digestByCalls(v, ""));
        PensionSections w = new PensionSections();
        w.join(0, 1000, 300);
        w.fallBehind(0, true);
        w.pass(1);
        w.payLate(0, 100);
        Check.same("all late: bits of 0.0", w.digest(), digestByCalls(w, ""));
        w.fallBehind(0, false);
        w.pass(1);
        Check.same("bits of 0.5", w.digest(), digestByCalls(w, ""));
        w.pass(1);
        Check.same("bits of 2 by 3", w.digest(), digestByCalls(w, ""));
        w.pass(100);
        Check.same("bits of 102 by 103", w.digest(), digestByCalls(w, ""));
    }

    public static void main(String[] args) {
        ifPassedRanges();
        theLimitDoesNotMatter();
        whatWouldBeIsWhatThenIs();
        ahead240();
        fundLasts1To240();
        fundLastsWithoutPensions();
        fundLastsWithThoseWhoRetire();
        fundLastsFromNowOn();
        inTimeFrom0To1();
        inTimeWithInterest();
        digestOfTheLimits();
        Check.end();
    }
}
