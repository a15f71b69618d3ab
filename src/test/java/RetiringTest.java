/** Promises 11, 26 and 27: retire, pensionIn and bestSection. */
public final class RetiringTest {
    private RetiringTest() {
    }

    private static PensionSections withMember(int age, int months) {
        PensionSections x = new PensionSections();
        x.join(0, 720, age);
        x.transfer(0, 1440 * months);
        return x;
    }

    private static void promise11Retire() {
        PensionSections x = withMember(780, 500);
        Check.same("not early", x.retire(0), 500);
        Check.same("not counted as early", x.count(6), 0);
        Check.same("retired", x.count(2), 1);
        Check.noState("retired already", x, () -> x.retire(0));
        Check.noIndex("no such", x, () -> x.retire(1));
        Check.noIndex("below", x, () -> x.retire(-1));
        x.undo();
        Check.same("undone", x.count(2), 0);
        PensionSections y = withMember(779, 500);
        Check.same("1 month early", y.retire(0), 498);
        Check.same("counted", y.count(6), 1);
        PensionSections z = withMember(660, 500);
        Check.same("120 months early: 480 thousandths", z.retire(0), 260);
        PensionSections v = withMember(659, 500);
        Check.noState("121 months early", v, () -> v.retire(0));
        v.set(0, 700);
        Check.same("41 months early: 164 thousandths", v.retire(0), 418);
        PensionSections w = withMember(800, 7);
        w.set(0, 900);
        Check.same("100 months early: 2.8 of 7", w.retire(0), 5);
    }

    private static void promise11LateMonthsAreGone() {
        PensionSections x = withMember(700, 100);
        x.fallBehind(0, true);
        x.pass(5);
        x.retire(0);
        Check.same("late", x.count(4), 0);
        Check.same("of the member", x.member(0, 10), 0);
        Check.same("nothing lapsed", x.count(5), 0);
        x.pass(20);
        Check.same("nothing lapses later", x.count(5), 0);
        Check.same("still behind", x.member(0, 9), 1);
    }

    private static void promise11EachSectionForItself() {
        PensionSections x = new PensionSections();
        x.section(1, 100, 50);
        x.section(2, 100, 200);
        x.join(0, 1000, 780 - 6);
        x.pass(2);
        x.change(0, 1);
        x.pass(2);
        x.change(0, 2);
        x.pass(1);
        Check.same("2.77, 3.33 and 0.41, each for itself, and none of 5", x.member(0, 8), 2 + 3);
        Check.same("1 month early loses 0.02", x.retire(0), 5);
    }

    private static void promise11ThePensionStays() {
        PensionSections x = withMember(780, 100);
        x.retire(0);
        x.section(0, 300, 20);
        x.set(0, 900);
        x.pass(3);
        Check.same("the pension stays", x.member(0, 8), 100);
        Check.same("and is paid", x.sum(3), 300);
    }

    private static void promise26PensionIn() {
        PensionSections x = withMember(650, 500);
        Check.same("130 months early", x.pensionIn(0, 0), 0);
        Check.same("121 months early", x.pensionIn(0, 9), 0);
        Check.same("120 months early", x.pensionIn(0, 10), 510 - 244);
        Check.same("119 months early", x.pensionIn(0, 11), 511 - 243);
        Check.same("1 month early", x.pensionIn(0, 129), 629 - 2);
        Check.same("at the age", x.pensionIn(0, 130), 630);
        Check.same("no later", x.pensionIn(0, 131), 630);
        Check.same("no later", x.pensionIn(0, 240), 630);
        x.fallBehind(0, true);
        Check.same("no service for one who is behind", x.pensionIn(0, 130), 500);
        Check.same("120 months early and behind", x.pensionIn(0, 10), 260);
        x.fallBehind(0, false);
        x.change(0, 1);
        Check.same("the own section is another", x.pensionIn(0, 130), 500 + 130);
        Check.same("and has its own share", shareOf30(x), 500 + 260);
        Check.noIndex("no such", x, () -> x.pensionIn(1, -1));
        Check.noArgument("months -1", x, () -> x.pensionIn(0, -1));
        Check.noArgument("months 241", x, () -> x.pensionIn(0, 241));
    }

    private static int shareOf30(PensionSections x) {
        x.section(1, 100, 30);
        int pension = x.pensionIn(0, 130);
        x.undo();
        return pension;
    }

    private static void promise26OldAndRetired() {
        PensionSections x = withMember(790, 500);
        Check.same("old enough already", x.pensionIn(0, 0), 500);
        Check.same("months ahead do not count", x.pensionIn(0, 100), 500);
        x.set(0, 795);
        Check.same("5 months count", x.pensionIn(0, 100), 505);
        Check.same("4 months count, 1 is early", x.pensionIn(0, 4), 504 - 2);
        x.retire(0);
        Check.same("retired", x.pensionIn(0, 0), 490);
        Check.same("retired", x.pensionIn(0, 240), 490);
        x.set(0, 900);
        Check.same("retired, though 110 months too young", x.pensionIn(0, 12), 490);
        PensionSections y = withMember(600, 500);
        y.set(0, 600);
        y.retire(0);
        y.set(0, 780);
        Check.same("retired, though 180 months too young", y.pensionIn(0, 12), 500);
        Check.noArgument("range of a retired one", y, () -> y.pensionIn(0, 241));
    }

    private static void promise27BestSection() {
        PensionSections x = withMember(700, 100);
        Check.same("all alike: the lowest", x.bestSection(0), 0);
        x.section(2, 99, 60);
        Check.same("the least rate", x.bestSection(0), 2);
        x.section(1, 99, 60);
        Check.same("the least rate, the lowest", x.bestSection(0), 1);
        x.section(0, 300, 59);
        Check.same("101 and 12, or 113: alike, by the rate", x.bestSection(0), 1);
        x.section(0, 300, 50);
        Check.same("120 and 12, or 134", x.bestSection(0), 0);
        x.section(2, 300, 30);
        Check.same("the greatest pension", x.bestSection(0), 2);
        x.close(2, true);
        Check.same("but it is closed", x.bestSection(0), 0);
        x.close(0, true);
        Check.same("the own section, though closed", x.bestSection(0), 0);
        x.change(0, 1);
        Check.same("no way back", x.bestSection(0), 1);
        x.section(1, 300, 200);
        Check.same("the only one, though the dearest", x.bestSection(0), 1);
        x.retire(0);
        Check.same("retired", x.bestSection(0), PensionSections.NONE);
        Check.noIndex("no such", x, () -> x.bestSection(1));
        Check.noIndex("below", x, () -> x.bestSection(-1));
    }

    private static void promise27TwelveMonths() {
        PensionSections x = new PensionSections();
        x.join(0, 720, 770);
        x.section(0, 100, 60);
        x.section(1, 50, 64);
        x.section(2, 50, 66);
        Check.same("10 months at 60, 9.37 at 64, 9.09 at 66", x.bestSection(0), 0);
        x.section(0, 100, 65);
        Check.same("9.23 at 65: alike, by the rate", x.bestSection(0), 1);
        x.fallBehind(0, true);
        x.section(2, 49, 200);
        Check.same("behind: alike everywhere, by the rate", x.bestSection(0), 2);
        PensionSections y = new PensionSections();
        y.join(0, 720, 300);
        y.section(1, 200, 30);
        y.section(2, 100, 60);
        Check.same("too early: 0 everywhere", y.bestSection(0), 0);
        y.section(2, 90, 60);
        Check.same("too early: by the rate", y.bestSection(0), 2);
        PensionSections v = new PensionSections();
        v.join(0, 720, 766);
        v.section(0, 100, 200);
        v.section(1, 100, 72);
        v.section(2, 50, 73);
        Check.same("10 at 72, 9.86 at 73: alike in 11 months, but not in 12", v.bestSection(0), 1);
        v.section(1, 100, 70);
        v.section(2, 50, 71);
        Check.same("10.28 at 70, 10.14 at 71: alike in 12 months, but not in 13", v.bestSection(0), 2);
        PensionSections w = new PensionSections();
        w.join(0, 720, 647);
        w.section(1, 200, 30);
        Check.same("121 months early in 12: 0 everywhere", w.bestSection(0), 0);
        PensionSections z = new PensionSections();
        z.join(0, 720, 648);
        z.section(1, 200, 30);
        Check.same("120 months early in 12", z.bestSection(0), 1);
    }

    public static void main(String[] args) {
        promise11Retire();
        promise11LateMonthsAreGone();
        promise11EachSectionForItself();
        promise11ThePensionStays();
        promise26PensionIn();
        promise26OldAndRetired();
        promise27BestSection();
        promise27TwelveMonths();
        Check.end();
    }
}
