/** Promises 1, 2, 3 and 19: a new object, section, close and sectionOf. */
public final class SectionsTest {
    private SectionsTest() {
    }

    private static void promise1NewObject() {
        PensionSections x = new PensionSections();
        for (int what = 0; what < 8; what++) {
            Check.same("count of a new one " + what, x.count(what), 0);
        }
        for (int what = 0; what < 6; what++) {
            Check.same("sum of a new one " + what, x.sum(what), 0);
        }
        int[] settings = {780, 12, 5, 2};
        for (int setting = 0; setting < 4; setting++) {
            Check.same("setting of a new one " + setting, x.setting(setting), settings[setting]);
        }
        int[] values = {100, 60, 0, 0, 0, 0};
        for (int section = 0; section < 3; section++) {
            for (int what = 0; what < 6; what++) {
                Check.same("sectionOf a new one " + section + " " + what, x.sectionOf(section, what), values[what]);
            }
        }
        Check.same("member of a new one", x.member(0, 0), PensionSections.NONE);
        Check.same("buffer of a new one", x.clearBuffer(), 0);
        Check.same("the first number", x.join(0, 1, 192), 0);
        Check.same("another object is its own", new PensionSections().count(1), 0);
    }

    private static void promise2Section() {
        PensionSections x = new PensionSections();
        Check.same("previous rate and share", x.section(1, 10, 200), 100060);
        Check.same("then the least rate and the greatest share", x.section(1, 300, 20), 10200);
        Check.same("then the greatest rate and the least share", x.section(1, 300, 20), 300020);
        Check.same("the rate", x.sectionOf(1, 0), 300);
        Check.same("the share", x.sectionOf(1, 1), 20);
        Check.same("the rate of another", x.sectionOf(0, 0), 100);
        Check.same("the share of another", x.sectionOf(2, 1), 60);
        Check.same("each is undoable, also the one that changes nothing", x.count(7), 3);
        Check.noIndex("section(-1)", x, () -> x.section(-1, 100, 60));
        Check.noIndex("section(3) before its rate", x, () -> x.section(3, 0, 0));
        Check.noArgument("rate 9", x, () -> x.section(0, 9, 60));
        Check.noArgument("rate 301", x, () -> x.section(0, 301, 60));
        Check.noArgument("share 19", x, () -> x.section(0, 100, 19));
        Check.noArgument("share 201", x, () -> x.section(2, 100, 201));
    }

    private static void promise2RatesCount() {
        PensionSections x = new PensionSections();
        x.section(0, 150, 30);
        x.join(0, 999, 300);
        x.pass(1);
        Check.same("999 times 150 by 1000", x.count(3), 149);
        Check.same("999 by 12 times 30", x.member(0, 8), 2);
        x.section(0, 150, 20);
        Check.same("999 by 12 times 20", x.member(0, 8), 4);
    }

    private static void promise3Close() {
        PensionSections x = new PensionSections();
        x.join(1, 1000, 300);
        Check.same("close an open one", x.close(1, true), 0);
        Check.same("close a closed one", x.close(1, true), 1);
        Check.same("it is closed", x.sectionOf(1, 2), 1);
        Check.same("another is open", x.sectionOf(0, 2), 0);
        x.pass(1);
        Check.same("who is in it stays and pays", x.count(3), 100);
        Check.same("and serves", x.member(0, 5), 1);
        Check.same("open it", x.close(1, false), 1);
        Check.same("open an open one", x.close(1, false), 0);
        Check.same("it is open", x.sectionOf(1, 2), 0);
        Check.same("each is undoable", x.count(7), 6);
        Check.noIndex("close(-1)", x, () -> x.close(-1, true));
        Check.noIndex("close(3)", x, () -> x.close(3, false));
    }

    private static void promise19SectionOf() {
        PensionSections x = new PensionSections();
        x.join(0, 1000, 300);
        x.join(0, 1000, 300);
        x.join(1, 1000, 700);
        x.transfer(2, 10000);
        x.fallBehind(1, true);
        x.pass(3);
        Check.same("active in 0", x.sectionOf(0, 3), 2);
        Check.same("service in 0, but for the late", x.sectionOf(0, 4), 3);
        Check.same("late in 0", x.sectionOf(0, 5), 3);
        Check.same("late in 1", x.sectionOf(1, 5), 0);
        x.change(1, 2);
        x.pass(2);
        Check.same("late stay in 0", x.sectionOf(0, 5), 3);
        Check.same("late in 2", x.sectionOf(2, 5), 2);
        Check.same("active in 2", x.sectionOf(2, 3), 1);
        x.retire(2);
        Check.same("a retired one is not active", x.sectionOf(1, 3), 0);
        Check.same("its service counts", x.sectionOf(1, 4), 10);
        x.leave(2);
        Check.same("who left has no service", x.sectionOf(1, 4), 0);
        x.leave(1);
        Check.same("who left has no late months", x.sectionOf(0, 5), 0);
        Check.noIndex("sectionOf(3)", x, () -> x.sectionOf(3, 0));
        Check.noIndex("sectionOf(-1) before what", x, () -> x.sectionOf(-1, 6));
        Check.noArgument("what 6", x, () -> x.sectionOf(0, 6));
        Check.noArgument("what -1", x, () -> x.sectionOf(2, -1));
    }

    public static void main(String[] args) {
        promise1NewObject();
        promise2Section();
        promise2RatesCount();
        promise3Close();
        promise19SectionOf();
        Check.end();
    }
}
