/** What all tests share: answers that are due, calls that are refused, and texts for the buffer. */
final class Check {
    interface Call {
        long answer();
    }

    private static int wrong = 0;

    private Check() {
    }

    static void same(String what, long got, long due) {
        if (got != due) {
            wrong++;
            System.out.println(what + " answered " + got + ", due is " + due);
        }
    }

    static void sameDouble(String what, double got, double due) {
        same(what + " as bits", Double.doubleToRawLongBits(got), Double.doubleToRawLongBits(due));
    }

    static void isTrue(String what, boolean isSo) {
        if (!isSo) {
            wrong++;
            System.out.println(what + " does not hold");
        }
    }

    /** The call throws exactly this exception, and changes nothing that digest sees. */
    static void refused(String what, PensionSections x, Class<? extends RuntimeException> due, Call call) {
        long before = x.digest();
        String got = "nothing";
        try {
            call.answer();
        } catch (RuntimeException e) {
            got = e.getClass().getSimpleName();
        }
        if (!got.equals(due.getSimpleName())) {
            wrong++;
            System.out.println(what + " threw " + got + ", due is " + due.getSimpleName());
        }
        same("digest after " + what, x.digest(), before);
    }

    static void noIndex(String what, PensionSections x, Call call) {
        refused(what, x, IndexOutOfBoundsException.class, call);
    }

    static void noArgument(String what, PensionSections x, Call call) {
        refused(what, x, IllegalArgumentException.class, call);
    }

    static void noState(String what, PensionSections x, Call call) {
        refused(what, x, IllegalStateException.class, call);
    }

    /** Puts a text into the buffer in place of what is there. */
    static void write(PensionSections x, String text) {
        x.clearBuffer();
        for (char c : text.toCharArray()) {
            x.append(c);
        }
    }

    static void passMany(PensionSections x, int months) {
        int left = months;
        while (left > 0) {
            int now = Math.min(120, left);
            x.pass(now);
            left -= now;
        }
    }

    static void end() {
        System.out.println(wrong == 0 ? "all answers are as due" : wrong + " answers are not as due");
        if (wrong != 0) {
            System.exit(1);
        }
    }
}
