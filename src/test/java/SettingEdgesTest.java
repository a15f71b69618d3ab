/** The limits that the document names for settings: "Settings" of its terms, and promises 12 and 24. */
public final class SettingEdgesTest {
    private static final int[] LEAST = {600, 1, 0, 1};
    private static final int[] MOST = {900, 60, 50, 20};
    private static final int[] FIRST = {780, 12, 5, 2};

    private SettingEdgesTest() {
    }

    /** At first 780, 12, 5 and 2; IndexOutOfBoundsException if there is no such setting. */
    private static void settings0To3() {
        PensionSections x = new PensionSections();
        for (int setting = 0; setting < 4; setting++) {
            Check.same("at first " + setting, x.setting(setting), FIRST[setting]);
            Check.same("set as it is " + setting, x.set(setting, FIRST[setting]), FIRST[setting]);
        }
        Check.same("undoable, though nothing is changed", x.count(7), 4);
        noSuchSetting(x, -1);
        noSuchSetting(x, 4);
        for (int setting : Make.FAR) {
            noSuchSetting(x, setting);
        }
    }

    private static void noSuchSetting(PensionSections x, int setting) {
        Check.noIndex("set " + setting, x, () -> x.set(setting, 12));
        Check.noIndex("setting " + setting, x, () -> x.setting(setting));
    }

    /** 600 to 900; 1 to 60; 0 to 50; 1 to 20. */
    private static void valuesInTheirRanges() {
        for (int setting = 0; setting < 4; setting++) {
            PensionSections x = new PensionSections();
            Check.same("the least of " + setting, x.set(setting, LEAST[setting]), FIRST[setting]);
            Check.same("the least stands", x.setting(setting), LEAST[setting]);
            Check.same("the most of " + setting, x.set(setting, MOST[setting]), LEAST[setting]);
            Check.same("the most stands", x.setting(setting), MOST[setting]);
            outOfRange(x, setting, LEAST[setting] - 1);
            outOfRange(x, setting, MOST[setting] + 1);
            outOfRange(x, setting, -MOST[setting]);
            for (int value : Make.FAR) {
                outOfRange(x, setting, value);
            }
        }
    }

    private static void outOfRange(PensionSections x, int setting, int value) {
        Check.noArgument("set " + setting + " to " + value, x, () -> x.set(setting, value));
    }

    /** Each setting is its own. */
    private static void eachIsItsOwn() {
        for (int setting = 0; setting < 4; setting++) {
            PensionSections x = new PensionSections();
            x.set(setting, MOST[setting]);
            for (int other = 0; other < 4; other++) {
                int due = other == setting ? MOST[other] : FIRST[other];
                Check.same(other + " behind set " + setting, x.setting(other), due);
            }
        }
    }

    /** 0, the age of retiring: who is as old already retires in the next month, not by the setting. */
    private static void theAgeOfRetiring() {
        PensionSections x = new PensionSections();
        x.join(0, 1000, 600);
        x.set(0, 600);
        Check.same("active", x.count(2), 0);
        Check.same("retires in the next month", x.pass(1), 1);
        x.set(0, 900);
        Check.same("stays retired", x.pass(1), 0);
        Check.same("retired", x.count(2), 1);
    }

    /** 2, thousandths of interest: what late months cost now is by the setting of now. */
    private static void interestOfNow() {
        PensionSections x = Make.behind(10, 100);
        x.set(2, 0);
        Check.same("without", x.late(0, 0, 3), 100);
        x.set(2, 50);
        Check.same("with the most", x.late(0, 0, 3), 150);
        x.set(2, 1);
        Check.same("with 1", x.late(0, 0, 3), 101);
    }

    /** 3, what a month of service costs, in pays: at once. */
    private static void thePriceOfNow() {
        PensionSections x = new PensionSections();
        x.join(0, 1000, 300);
        Check.same("2 at first", x.transfer(0, 20000), 10);
        x.set(3, 1);
        Check.same("the least", x.transfer(0, 20000), 20);
        x.set(3, 20);
        Check.same("the most", x.transfer(0, 20000), 1);
    }

    public static void main(String[] args) {
        settings0To3();
        valuesInTheirRanges();
        eachIsItsOwn();
        theAgeOfRetiring();
        interestOfNow();
        thePriceOfNow();
        Check.end();
    }
}
