/** Promises 12 and 24: set and setting. */
public final class SettingsTest {
    private static final int[] LEAST = {600, 1, 0, 1};
    private static final int[] MOST = {900, 60, 50, 20};
    private static final int[] FIRST = {780, 12, 5, 2};

    private SettingsTest() {
    }

    private static void promise12SetAnd24Setting() {
        PensionSections x = new PensionSections();
        for (int i = 0; i < 4; i++) {
            int setting = i;
            Check.same("first of " + i, x.set(i, LEAST[i]), FIRST[i]);
            Check.same("least of " + i, x.setting(i), LEAST[i]);
            Check.same("previous of " + i, x.set(i, MOST[i]), LEAST[i]);
            Check.same("most of " + i, x.setting(i), MOST[i]);
            Check.noArgument("too little for " + i, x, () -> x.set(setting, LEAST[setting] - 1));
            Check.noArgument("too much for " + i, x, () -> x.set(setting, MOST[setting] + 1));
        }
        Check.same("undoable", x.count(7), 6);
        x.undo();
        Check.same("undone", x.setting(3), 1);
        Check.noIndex("set(-1)", x, () -> x.set(-1, 5));
        Check.noIndex("set(4) before its value", x, () -> x.set(4, -1));
        Check.noIndex("setting(-1)", x, () -> x.setting(-1));
        Check.noIndex("setting(4)", x, () -> x.setting(4));
    }

    private static void promise12TheAgeCountsInTheNextMonth() {
        PensionSections x = new PensionSections();
        x.join(0, 720, 650);
        x.pass(1);
        x.set(0, 600);
        Check.same("not at once", x.count(2), 0);
        Check.same("in the next month", x.pass(1), 1);
        Check.same("without a loss", x.member(0, 8), 2);
    }

    private static void promise12LapsingCountsInTheNextMonth() {
        PensionSections x = new PensionSections();
        x.join(0, 1000, 300);
        x.fallBehind(0, true);
        x.pass(10);
        x.set(1, 1);
        Check.same("not at once", x.count(4), 10);
        x.pass(1);
        Check.same("all but the one of this month", x.count(4), 1);
        Check.same("lapsed", x.count(5), 10);
    }

    public static void main(String[] args) {
        promise12SetAnd24Setting();
        promise12TheAgeCountsInTheNextMonth();
        promise12LapsingCountsInTheNextMonth();
        Check.end();
    }
}
