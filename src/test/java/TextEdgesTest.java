/** The limits that the document names for texts: "Input text" of its terms, and promises 14 to 17. */
public final class TextEdgesTest {
    /** 60 characters, of which 55 are 7 whole members. */
    private static final String FULL = "1000s0a20;1s1a16;9s2a79;12s0a30;345s1a40;6s2a50;7s0a60+12345";

    private TextEdgesTest() {
    }

    /** The buffer has at most 60 characters. */
    private static void sixtyCharacters() {
        PensionSections x = new PensionSections();
        for (int length = 1; length <= 60; length++) {
            Check.same("length", x.append(33 + length), length);
        }
        Check.noState("a 61st", x, () -> x.append('1'));
        Check.noState("a 61st of the least code", x, () -> x.append(33));
        Check.noState("a 61st of the greatest code", x, () -> x.append(126));
        Check.same("cleared", x.clearBuffer(), 60);
        Check.same("a new first", x.append('1'), 1);
    }

    /** code: the character code, 33 to 126. */
    private static void codesFrom33To126() {
        PensionSections x = new PensionSections();
        Check.same("the least", x.append(33), 1);
        Check.same("the greatest", x.append(126), 2);
        int[] wrong = {32, 127, 0, -1, 10, '1' + 256, '1' + 65536, -'1'};
        for (int code : wrong) {
            Check.noArgument("code " + code, x, () -> x.append(code));
        }
        for (int code : Make.FAR) {
            Check.noArgument("code " + code, x, () -> x.append(code));
        }
        Check.same("only two went in", x.clearBuffer(), 2);
    }

    /** IllegalArgumentException is named first: also for a full buffer. */
    private static void codeBeforeFullBuffer() {
        PensionSections x = new PensionSections();
        Check.write(x, FULL);
        Check.same("full", FULL.length(), 60);
        Check.noArgument("32", x, () -> x.append(32));
        Check.noArgument("127", x, () -> x.append(127));
        Check.noState("126", x, () -> x.append(126));
    }

    /** clearBuffer: the length that it had, 0 if it was empty; it is not undoable, nor is append. */
    private static void clearing() {
        PensionSections x = new PensionSections();
        Check.same("empty", x.clearBuffer(), 0);
        x.append('1');
        Check.same("1", x.clearBuffer(), 1);
        Check.same("empty then", x.clearBuffer(), 0);
        Check.noState("nothing is saved", x, x::undo);
    }

    private static void error(String text, int due) {
        PensionSections x = new PensionSections();
        Check.write(x, text);
        Check.same("firstError of " + text, x.firstError(), due);
    }

    /** The length of the buffer if there is no syntax error: empty, full, and all between. */
    private static void noError() {
        for (int length = 0; length <= 60; length++) {
            error(FULL.substring(0, length), length);
        }
    }

    /** The index of the first character that is an error: the first, the last of 60, and the first of several. */
    private static void whereTheErrorIs() {
        error("x", 0);
        error("x1s0a20", 0);
        for (int place = 0; place < 60; place++) {
            error(FULL.substring(0, place) + "x" + FULL.substring(place + 1), place);
        }
        error("1s0a20xx", 6);
        error("1x0x20", 1);
    }

    /** A character is an error if no text, of any length, begins so: texts above 60 characters count. */
    private static void textsOfAnyLength() {
        String text = "1000s0a20;1000s0a20;1000s0a20;1000s0a20;1000s0a20;1000s0a20;";
        Check.same("full", text.length(), 60);
        error(text, 60);
        PensionSections x = new PensionSections();
        Check.write(x, text);
        Check.noArgument("but it is not complete", x, x::joinAll);
    }

    /** A pay, 1 to 9999, without a leading zero. */
    private static void payInAText() {
        error("1s", 2);
        error("9999s", 5);
        error("0", 0);
        error("01s", 0);
        error("10000", 4);
        error("99999", 4);
        error("s0a20", 0);
        error("1000s0a20;0", 10);
        error("1000s0a20;12345", 14);
    }

    /** "s" and a section, 0 to 2. */
    private static void sectionInAText() {
        for (int section = 0; section <= 9; section++) {
            error("1s" + section, section <= 2 ? 3 : 2);
        }
        error("1s-", 2);
        error("1sa", 2);
        error("1s00", 3);
        error("1S0", 1);
        error("1a0", 1);
        error("1;", 1);
    }

    /** "a" and an age in years, 16 to 79. */
    private static void ageInAText() {
        for (int years = 0; years <= 99; years++) {
            error("1s0a" + years, dueForYears(years));
        }
        error("1s0a016", 4);
        error("1s0a160", 6);
        error("1s0a79a", 6);
        error("1s0a2;", 5);
        error("1s0a2+", 5);
        error("1s0A20", 3);
        error("1s0+5", 3);
        error("1s0;", 3);
    }

    /** No age begins with 0, 8 or 9; 1 to 7 begin one; 10 to 15 are wrong at their second digit. */
    private static int dueForYears(int years) {
        if (years == 0 || years == 8 || years == 9 || years >= 80) {
            return 4;
        }
        return years < 16 ? 5 : 6;
    }

    /** Perhaps "+" and an amount, 1 to 99999, without a leading zero. */
    private static void amountInAText() {
        error("1s0a20+1", 8);
        error("1s0a20+99999", 12);
        error("1s0a20+0", 7);
        error("1s0a20+01", 7);
        error("1s0a20+100000", 12);
        error("1s0a20+99999;", 13);
        error("1s0a20+;", 7);
        error("1s0a20++", 7);
        error("1s0a20+1+1", 8);
        error("1s0a20-1", 6);
    }

    /** One or more parts with ";" between them. */
    private static void partsInAText() {
        error("1s0a20;1s0a20", 13);
        error(";", 0);
        error("1s0a20;;", 7);
        error("1s0a20,1s0a20", 6);
        error("1s0a20:", 6);
        error("1s0a201s0a20", 6);
    }

    /** joinAll: IllegalArgumentException if the buffer is not complete members as a text. */
    private static void notComplete() {
        String[] texts = {"", "1", "1s", "1s0", "1s0a", "1s0a1", "1s0a2", "1s0a20+", "1s0a20;", "1s0a20;1s0a2",
            "1s0a20+1;", "0s0a20", "10000s0a20", "1s3a20", "1s0a15", "1s0a80", "1s0a20+0", "1s0a20+100000", "x",
            "1s0a20x", ";1s0a20", "1s0a20;;1s0a20"};
        for (String text : texts) {
            PensionSections x = new PensionSections();
            Check.write(x, text);
            Check.noArgument("joinAll of " + text, x, x::joinAll);
            Check.same("the buffer stays", x.clearBuffer(), text.length());
            Check.noState("nothing is saved", x, x::undo);
        }
    }

    /** The least and the greatest of each part of a text; an age in years is 12 times as many months. */
    private static void theLeastAndTheGreatest() {
        PensionSections x = new PensionSections();
        Check.write(x, "1s0a16+1");
        Check.same("the least", x.joinAll(), 1);
        Check.write(x, "9999s2a79+99999");
        Check.same("the greatest", x.joinAll(), 2);
        int[][] due = {{0, 0, 1, 192, 0, 0, 0}, {1, 2, 9999, 948, 0, 0, 5}};
        for (int i = 0; i < 14; i++) {
            Check.same("member " + i / 7 + " " + i % 7, x.member(i / 7, i % 7), due[i / 7][i % 7]);
        }
        Check.same("transferred", x.sum(2), 100000);
    }

    /** The whole buffer of 60 characters is taken, and cleared. */
    private static void takesAFullBuffer() {
        PensionSections x = new PensionSections();
        Check.write(x, FULL);
        Check.same("7 members", x.joinAll(), 7);
        Check.same("the last pay", x.member(6, 2), 7);
        Check.same("the last age", x.member(6, 3), 720);
        Check.same("12345 by 14", x.member(6, 4), 881);
        Check.same("cleared", x.clearBuffer(), 0);
        Check.same("one call, one state", x.count(7), 1);
        Check.same("none is left", x.undo(), 0);
        Check.same("all are gone", x.count(1), 0);
    }

    /** IllegalStateException if there would be more than 8 members; returns how many there are then, all of them. */
    private static void eightMembersAtMost() {
        PensionSections x = new PensionSections();
        Check.write(x, "1s0a20;2s0a20;3s0a20;4s0a20;5s0a20;6s0a20;7s0a20;8s0a20");
        Check.same("8 at once", x.joinAll(), 8);
        Check.write(x, "9s0a20");
        Check.noState("a ninth", x, x::joinAll);
        x.leave(0);
        Check.same("one for the one who left", x.joinAll(), 8);
        Check.same("the number", x.member(7, 0), 8);
        x.leave(1);
        x.leave(2);
        Check.write(x, "1s0a20;2s0a20;3s0a20");
        Check.noState("3 for 2 who left", x, x::joinAll);
        Check.same("none of them", x.count(1), 6);
        Check.write(x, "1s0a20;2s0a20");
        Check.same("2 for 2 who left", x.joinAll(), 8);
        Check.same("numbers that were refused come", x.member(7, 0), 10);
    }

    /** IllegalStateException if a section is closed: of the first, one between, or the last; all or none. */
    private static void closedSection() {
        String[] texts = {"1s1a20", "1s1a20;1s0a20", "1s0a20;1s1a20;1s2a20", "1s0a20;1s2a20;1s1a20", "1s1a20+5"};
        PensionSections x = new PensionSections();
        x.close(1, true);
        for (String text : texts) {
            Check.write(x, text);
            Check.noState("joinAll of " + text, x, x::joinAll);
            Check.same("nobody came", x.count(1), 0);
            Check.same("no money either", x.sum(2), 0);
            Check.same("the buffer stays", x.clearBuffer(), text.length());
        }
        Check.write(x, "1s0a20;1s2a20");
        Check.same("only open ones", x.joinAll(), 2);
        Check.same("the numbers begin at 0", x.member(0, 0), 0);
        Check.same("no transfer without an amount", x.sum(2) + x.count(3), 0);
    }

    /** IllegalStateException if a transfer is refused, by 9999 months of service. */
    private static void serviceByTransfers() {
        PensionSections x = new PensionSections();
        x.set(3, 10);
        Check.write(x, "1s0a20+99999");
        Check.same("9999 months", x.joinAll(), 1);
        x.set(3, 9);
        Check.write(x, "2s1a20;1s0a20+90000");
        Check.noState("10000 months", x, x::joinAll);
        Check.same("nobody came", x.count(1), 1);
        Check.write(x, "2s1a20;1s0a20+89999");
        Check.same("9999 months again", x.joinAll(), 3);
        Check.same("service", x.member(2, 4), 9999);
    }

    /** IllegalStateException if a transfer is refused, by the fund: one after the other, each with the transfer. */
    private static void fundByTransfers() {
        PensionSections x = new PensionSections();
        Make.bring(x, Make.bringer(x), Make.FULL_FUND - 100);
        x.set(3, 20);
        Check.write(x, "9999s0a20+101");
        Check.noState("101", x, x::joinAll);
        Check.write(x, "9999s0a20+50;9999s0a20+51");
        Check.noState("50 and 51", x, x::joinAll);
        Check.same("none of both", x.count(3), Make.FULL_FUND - 100);
        Check.write(x, "9999s0a20+50;9999s0a20+50");
        Check.same("50 and 50", x.joinAll(), 3);
        Check.same("full", x.count(3), Make.FULL_FUND);
        Check.write(x, "9999s0a20+1");
        Check.noState("1 more", x, x::joinAll);
        Check.write(x, "9999s0a20");
        Check.same("without a transfer", x.joinAll(), 4);
        x.pass(1);
        Check.same("above the limit by contributions of 999", x.count(3), Make.FULL_FUND + 3 * 999);
        Check.write(x, "9999s0a20+1");
        Check.noState("1 more above it", x, x::joinAll);
        Check.write(x, "9999s0a20;9999s0a20");
        Check.same("without a transfer above it", x.joinAll(), 6);
        Check.same("one by one too", x.join(0, 9999, 240), 6);
    }

    /** IllegalArgumentException is named first: also with a closed section and 8 members. */
    private static void textBeforeState() {
        PensionSections x = new PensionSections();
        for (int i = 0; i < 8; i++) {
            x.join(0, 1000, 300);
        }
        x.close(0, true);
        Check.write(x, "1s0a20;");
        Check.noArgument("not complete", x, x::joinAll);
        Check.write(x, "1s0a20;1s3");
        Check.noArgument("an error", x, x::joinAll);
        Check.write(x, "1s0a20");
        Check.noState("complete", x, x::joinAll);
    }

    public static void main(String[] args) {
        sixtyCharacters();
        codesFrom33To126();
        codeBeforeFullBuffer();
        clearing();
        noError();
        whereTheErrorIs();
        textsOfAnyLength();
        payInAText();
        sectionInAText();
        ageInAText();
        amountInAText();
        partsInAText();
        notComplete();
        theLeastAndTheGreatest();
        takesAFullBuffer();
        eightMembersAtMost();
        closedSection();
        serviceByTransfers();
        fundByTransfers();
        textBeforeState();
        Check.end();
    }
}
