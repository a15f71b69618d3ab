/** The limits that the document names for sections: "Sections" of its terms, and promises 1, 2, 3 and 19. */
public final class SectionEdgesTest {
    private SectionEdgesTest() {
    }

    /** There are 3 sections, numbered from 0. */
    private static void threeSections() {
        PensionSections x = new PensionSections();
        for (int section = 0; section < 3; section++) {
            Check.same("the rate of " + section, x.sectionOf(section, 0), 100);
            Check.same("section " + section, x.section(section, 200, 50), 100060);
            Check.same("close " + section, x.close(section, false), 0);
            Check.same("join " + section, x.join(section, 1000, 300), section);
        }
        Check.same("change to the last", x.change(0, 2), 0);
        Check.same("change to the first", x.change(0, 0), 2);
        noSuchSection(x, -1);
        noSuchSection(x, 3);
        for (int section : Make.FAR) {
            noSuchSection(x, section);
        }
    }

    private static void noSuchSection(PensionSections x, int section) {
        Check.noIndex("section " + section, x, () -> x.section(section, 100, 60));
        Check.noIndex("close " + section, x, () -> x.close(section, true));
        Check.noIndex("join " + section, x, () -> x.join(section, 1000, 300));
        Check.noIndex("change to " + section, x, () -> x.change(0, section));
        Check.noIndex("sectionOf " + section, x, () -> x.sectionOf(section, 0));
    }

    /** A section has a rate, 10 to 300. */
    private static void rateFrom10To300() {
        PensionSections x = new PensionSections();
        x.section(0, 10, 60);
        Check.same("the least rate", x.sectionOf(0, 0), 10);
        x.section(0, 300, 60);
        Check.same("the greatest rate", x.sectionOf(0, 0), 300);
        int[] wrong = {9, 301, 0, -10, -300};
        for (int rate : wrong) {
            Check.noArgument("rate " + rate, x, () -> x.section(0, rate, 60));
        }
        for (int rate : Make.FAR) {
            Check.noArgument("rate " + rate, x, () -> x.section(0, rate, 60));
        }
    }

    /** .. in thousandths of the pay; divisions are rounded down. */
    private static void rateInThousandths() {
        int[][] owed = {{1, 10, 0}, {99, 10, 0}, {100, 10, 1}, {199, 10, 1}, {1, 300, 0}, {3, 300, 0}, {4, 300, 1},
            {9, 100, 0}, {10, 100, 1}, {9999, 10, 99}, {9999, 300, 2999}, {9999, 299, 2989}};
        for (int[] row : owed) {
            PensionSections x = new PensionSections();
            x.section(1, row[1], 60);
            x.join(1, row[0], 300);
            x.pass(1);
            Check.same(row[0] + " at " + row[1], x.count(3), row[2]);
            Check.same("a month of service also for nothing", x.member(0, 5), 1);
        }
    }

    /** A share, 20 to 200. */
    private static void shareFrom20To200() {
        PensionSections x = new PensionSections();
        x.section(2, 100, 20);
        Check.same("the least share", x.sectionOf(2, 1), 20);
        x.section(2, 100, 200);
        Check.same("the greatest share", x.sectionOf(2, 1), 200);
        int[] wrong = {19, 201, 0, -20, -60};
        for (int share : wrong) {
            Check.noArgument("share " + share, x, () -> x.section(2, 100, share));
        }
        for (int share : Make.FAR) {
            Check.noArgument("share " + share, x, () -> x.section(2, 100, share));
        }
    }

    /** The lesser the share, the more service is worth. */
    private static void lesserShareIsWorthMore() {
        PensionSections x = new PensionSections();
        x.join(0, 2400, 300);
        x.pass(1);
        int[][] worth = {{20, 10}, {21, 9}, {60, 3}, {199, 1}, {200, 1}};
        for (int[] row : worth) {
            x.section(0, 100, row[0]);
            Check.same("a month at " + row[0], x.member(0, 8), row[1]);
        }
        x.pay(0, 2399);
        Check.same("2399 by 2400", x.member(0, 8), 0);
    }

    /** At first 100, at first 60, at first open; nobody is there. */
    private static void atFirst() {
        PensionSections x = new PensionSections();
        int[] first = {100, 60, 0, 0, 0, 0};
        for (int i = 0; i < 18; i++) {
            Check.same("sectionOf " + i / 6 + " " + i % 6, x.sectionOf(i / 6, i % 6), first[i % 6]);
        }
        Check.same("open, so there is nothing to open", x.close(2, false), 0);
    }

    /** Returns 1000 times the previous rate and the previous share, together. */
    private static void previousTogether() {
        PensionSections x = new PensionSections();
        Check.same("at first", x.section(0, 300, 200), 100060);
        Check.same("the greatest", x.section(0, 10, 20), 300200);
        Check.same("the least", x.section(0, 10, 20), 10020);
        Check.same("changed to the same", x.section(0, 100, 60), 10020);
        Check.same("another is as at first", x.section(1, 100, 60), 100060);
    }

    /** A closed section takes neither new members .. */
    private static void closedTakesNoNewMembers() {
        PensionSections x = new PensionSections();
        x.close(1, true);
        Check.noState("join", x, () -> x.join(1, 1000, 300));
        Check.write(x, "1000s1a25");
        Check.noState("joinAll", x, x::joinAll);
        Check.same("join another", x.join(0, 1000, 300), 0);
        x.close(1, false);
        Check.same("join the opened one", x.join(1, 1000, 300), 1);
        Check.same("joinAll into the opened one", x.joinAll(), 3);
    }

    /** .. nor members of other sections .. */
    private static void closedTakesNobodyOfOthers() {
        PensionSections x = new PensionSections();
        x.join(0, 1000, 300);
        x.close(0, true);
        x.close(1, true);
        Check.noState("change", x, () -> x.change(0, 1));
        Check.same("out of a closed one", x.change(0, 2), 0);
        Check.noState("and not back", x, () -> x.change(0, 0));
        x.close(1, false);
        Check.same("the opened one", x.change(0, 1), 2);
    }

    /** .. nor transfers .. */
    private static void closedTakesNoTransfers() {
        PensionSections x = new PensionSections();
        x.join(1, 1000, 300);
        x.close(1, true);
        Check.noState("a transfer that brings months", x, () -> x.transfer(0, 2000));
        Check.noState("a transfer that brings none", x, () -> x.transfer(0, 1));
        x.close(0, true);
        x.close(1, false);
        Check.same("only the own section counts", x.transfer(0, 2000), 1);
    }

    /** .. who is in it stays in it and pays as others do. */
    private static void whoIsInAClosedOneStays() {
        PensionSections x = new PensionSections();
        x.join(1, 720, 776);
        x.join(1, 1000, 300);
        x.fallBehind(1, true);
        x.close(1, true);
        Check.same("two are active in it", x.sectionOf(1, 3), 2);
        Check.same("one retires out of it", x.pass(4), 1);
        Check.same("paid in time", x.sum(0), 4 * 72);
        Check.same("with a pension of 4 months", x.member(0, 8), 4);
        Check.same("late months in it", x.sectionOf(1, 5), 4);
        Check.same("late ones are paid: 102, 101, 101, 100", x.payLate(1, 404), 0);
        Check.same("and serve in it", x.member(1, 5), 4);
        Check.same("the section stays", x.member(1, 1), 1);
        Check.same("the pay may change", x.pay(1, 500), 1000);
    }

    /** what: 0 to 5 of promise 19. */
    private static void sectionOfWhat() {
        PensionSections x = new PensionSections();
        x.section(2, 300, 200);
        x.close(2, true);
        int[] due = {300, 200, 1, 0, 0, 0};
        for (int what = 0; what < 6; what++) {
            Check.same("what " + what, x.sectionOf(2, what), due[what]);
        }
        Check.noArgument("what -1", x, () -> x.sectionOf(2, -1));
        Check.noArgument("what 6", x, () -> x.sectionOf(2, 6));
        for (int what : Make.FAR) {
            Check.noArgument("what " + what, x, () -> x.sectionOf(2, what));
        }
    }

    /** 3: active members in it; 4: the service in it of all members, also retired ones; 5: late months due in it. */
    private static void sectionOfAFullScheme() {
        PensionSections x = new PensionSections();
        x.set(1, 60);
        for (int i = 0; i < 8; i++) {
            x.join(0, 1000, 700);
            x.fallBehind(i, i > 3);
        }
        x.pass(61);
        Check.same("all 8 are active", x.sectionOf(0, 3), 8);
        Check.same("4 times 61 months", x.sectionOf(0, 4), 244);
        Check.same("4 times 60 late months", x.sectionOf(0, 5), 240);
        x.retire(0);
        x.retire(7);
        Check.same("6 are active", x.sectionOf(0, 3), 6);
        Check.same("the retired one's service counts", x.sectionOf(0, 4), 244);
        Check.same("the retired one's late months are gone", x.sectionOf(0, 5), 180);
        x.change(1, 1);
        x.change(4, 1);
        Check.same("4 are active in it", x.sectionOf(0, 3), 4);
        Check.same("2 in the other", x.sectionOf(1, 3), 2);
        Check.same("service stays", x.sectionOf(0, 4), 244);
        Check.same("late months stay", x.sectionOf(0, 5), 180);
        Check.same("none in the other", x.sectionOf(1, 4) + x.sectionOf(1, 5), 0);
    }

    /** Returns 1 if it was closed, otherwise 0 (promise 3). */
    private static void closeTellsWhatWas() {
        PensionSections x = new PensionSections();
        Check.same("open to open", x.close(0, false), 0);
        Check.same("open to closed", x.close(0, true), 0);
        Check.same("closed to closed", x.close(0, true), 1);
        Check.same("closed to open", x.close(0, false), 1);
        Check.same("open again", x.close(0, false), 0);
        Check.same("each is undoable", x.count(7), 5);
    }

    /** All sections may be closed at once. */
    private static void allClosed() {
        PensionSections x = new PensionSections();
        x.join(0, 1000, 300);
        for (int section = 0; section < 3; section++) {
            x.close(section, true);
        }
        for (int i = 0; i < 3; i++) {
            int section = i;
            Check.noState("join " + i, x, () -> x.join(section, 1000, 300));
            Check.noState("change to " + i, x, () -> x.change(0, section));
        }
        Check.same("the own one is the best", x.bestSection(0), 0);
        x.pass(1);
        Check.same("pays as others do", x.count(3), 100);
    }

    public static void main(String[] args) {
        threeSections();
        rateFrom10To300();
        rateInThousandths();
        shareFrom20To200();
        lesserShareIsWorthMore();
        atFirst();
        previousTogether();
        closedTakesNoNewMembers();
        closedTakesNobodyOfOthers();
        closedTakesNoTransfers();
        whoIsInAClosedOneStays();
        sectionOfWhat();
        sectionOfAFullScheme();
        closeTellsWhatWas();
        allClosed();
        Check.end();
    }
}
