/** Promises 14 to 17: append, clearBuffer, firstError and joinAll. */
public final class TextTest {
    private TextTest() {
    }

    private static void promise14Append() {
        PensionSections x = new PensionSections();
        Check.same("the least code", x.append(33), 1);
        Check.same("the greatest code", x.append(126), 2);
        Check.noArgument("32", x, () -> x.append(32));
        Check.noArgument("127", x, () -> x.append(127));
        Check.noArgument("-1", x, () -> x.append(-1));
        Check.noArgument("the code of a 1 and 65536", x, () -> x.append('1' + 65536));
        for (int length = 3; length <= 60; length++) {
            Check.same("length", x.append('1'), length);
        }
        Check.noState("61", x, () -> x.append('1'));
        Check.noArgument("code before length", x, () -> x.append(32));
        Check.same("not undoable", x.count(7), 0);
    }

    private static void promise15ClearBuffer() {
        PensionSections x = new PensionSections();
        Check.same("empty", x.clearBuffer(), 0);
        Check.write(x, "5s0");
        Check.same("the length", x.clearBuffer(), 3);
        Check.same("empty then", x.clearBuffer(), 0);
        Check.same("a new text", x.append('7'), 1);
        Check.same("of which nothing is wrong", x.firstError(), 1);
        Check.same("not undoable", x.count(7), 0);
    }

    private static void error(String text, int due) {
        PensionSections x = new PensionSections();
        Check.write(x, text);
        long before = x.digest();
        Check.same("firstError of " + text, x.firstError(), due);
        Check.same("again", x.firstError(), due);
        Check.same("nothing is changed by " + text, x.digest(), before);
    }

    private static void isFine(String text) {
        error(text, text.length());
    }

    private static void isWrongAtItsEnd(String text) {
        error(text, text.length() - 1);
        error(text + "1s0a20", text.length() - 1);
    }

    private static void promise16FirstError() {
        isFine("");
        String whole = "9999s0a16+99999;1s1a79;10s2a20+1;4321s0a19+10203;5s0a65+9";
        for (int length = 1; length <= whole.length(); length++) {
            isFine(whole.substring(0, length));
        }
        isFine("1s0a20;1s0a20;1s0a20;1s0a20;1s0a20;1s0a20;1s0a20;1s0a20;1s0a");
        String[] wrong = {"0", "s", ";", "+", "a", "-", "12345", "10000", "12a", "12;", "12+", "1S", "1ss",
            "1s3", "1s9", "1sa", "1s00", "1s0s", "1s0;", "1s0+", "1s0A", "1s0a0", "1s0a8", "1s0a9", "1s0aa",
            "1s0a10", "1s0a15", "1s0a1;", "1s0a2+", "1s0a7a", "1s0a160", "1s0a79a", "1s0a20s", "1s0a20++",
            "1s0a20+0", "1s0a20+;", "1s0a20+s", "1s0a20+123456", "1s0a20+100000", "1s0a20+1+", "1s0a20+12a",
            "1s0a20;;", "1s0a20;0", "1s0a20;s", "1s0a20+1;;", "1s0a20+1;0", "1/", "1:", "1s/", "1s0a2/", "1s0a2:"};
        for (String text : wrong) {
            isWrongAtItsEnd(text);
        }
    }

    private static void isNoText(String text) {
        PensionSections x = new PensionSections();
        x.close(0, true);
        Check.write(x, text);
        Check.noArgument("joinAll of " + text, x, x::joinAll);
        Check.same("the buffer stays", x.clearBuffer(), text.length());
    }

    private static void promise17NotComplete() {
        String whole = "9999s0a16+99999;1s1a79;";
        for (int length = 0; length <= whole.length(); length++) {
            String text = whole.substring(0, length);
            boolean isComplete = length == 9 || length > 10 && length <= 15 || length == 22;
            if (!isComplete) {
                isNoText(text);
            }
        }
        isNoText("1s0a20;1s0a2");
        isNoText("1s0a20x");
        isNoText("1s3a20");
        isNoText("01s0a20");
        isNoText("1s0a20+0");
    }

    private static void promise17JoinAll() {
        PensionSections x = new PensionSections();
        x.join(0, 1000, 300);
        x.leave(0);
        x.join(0, 1000, 300);
        Check.write(x, "9999s2a16+99999;7s0a79;120s1a65+2399");
        Check.same("members then", x.joinAll(), 4);
        int[][] due = {{2, 2, 9999, 192, 0, 0, 5}, {3, 0, 7, 948, 0, 0, 0}, {4, 1, 120, 780, 0, 9, 0}};
        for (int place = 0; place < 3; place++) {
            for (int what = 0; what < 7; what++) {
                Check.same("member(" + (place + 1) + ", " + what + ")", x.member(place + 1, what), due[place][what]);
            }
        }
        Check.same("transfers", x.sum(2), 99999 + 2399);
        Check.same("the fund", x.count(3), 99999 + 2399);
        Check.same("the buffer is cleared", x.clearBuffer(), 0);
        Check.same("one call, one state", x.count(7), 4);
        Check.write(x, "1");
        x.undo();
        Check.same("undone whole", x.count(1), 1);
        Check.same("undone transfers", x.sum(2), 0);
        Check.same("the buffer is not undone", x.clearBuffer(), 1);
        Check.same("the numbers come again", x.join(0, 1, 192), 2);
    }

    private static void promise17TheLeastTransfer() {
        PensionSections x = new PensionSections();
        x.set(3, 1);
        Check.write(x, "1s0a20+1;2s1a20+1");
        Check.same("members then", x.joinAll(), 2);
        Check.same("the fund", x.count(3), 2);
        Check.same("a month for 1", x.member(0, 4), 1);
        Check.same("none for half the price", x.member(1, 5), 0);
    }

    private static void isRefused(PensionSections x, String text) {
        Check.write(x, text);
        Check.noState("joinAll of " + text, x, x::joinAll);
        Check.same("the buffer stays", x.clearBuffer(), text.length());
    }

    private static void promise17Refused() {
        PensionSections x = new PensionSections();
        x.close(2, true);
        isRefused(x, "1s2a20");
        isRefused(x, "1s0a20;1s2a20");
        isRefused(x, "1s2a20;1s0a20");
        isRefused(x, "1s0a20;1s2a20;1s0a20");
        Check.same("none was taken", x.count(1), 0);
        isRefused(x, "1s0a20+99999");
        isRefused(x, "4s0a20+80000");
        Check.write(x, "4s0a20+79999");
        Check.same("9999 months", x.joinAll(), 1);
        for (int i = 0; i < 4; i++) {
            x.join(0, 1, 300);
        }
        isRefused(x, "1s0a20;1s0a20;1s0a20;1s0a20");
        Check.write(x, "1s0a20;1s0a20;1s0a20");
        Check.same("8 members", x.joinAll(), 8);
        isRefused(x, "1s0a20");
        Check.write(x, "1s0a20;");
        Check.noArgument("no text comes before 8 members", x, x::joinAll);
    }

    private static void promise17FundLimit() {
        PensionSections x = new PensionSections();
        x.join(0, 9999, 300);
        x.set(3, 20);
        for (int i = 0; i < 100; i++) {
            x.transfer(0, 9999999);
        }
        isRefused(x, "9999s0a20+100");
        isRefused(x, "9999s0a20+60;9999s0a20+40");
        Check.write(x, "9999s0a20+60;9999s0a20+39");
        Check.same("up to the limit", x.joinAll(), 3);
        Check.same("the fund", x.count(3), 999999999);
        Check.write(x, "9999s0a20");
        Check.same("without a transfer", x.joinAll(), 4);
    }

    public static void main(String[] args) {
        promise14Append();
        promise15ClearBuffer();
        promise16FirstError();
        promise17NotComplete();
        promise17JoinAll();
        promise17TheLeastTransfer();
        promise17Refused();
        promise17FundLimit();
        Check.end();
    }
}
