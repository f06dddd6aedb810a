/** Counts and prints the answers that are not as due. */
final class Due {
    interface Call {
        long run();
    }

    private int asked = 0;
    private int wrong = 0;

    void is(String what, long got, long want) {
        asked++;
        if (got != want) {
            wrong++;
            System.out.println(what + " answered " + got + ", due is " + want);
        }
    }

    void holds(String what, boolean holds) {
        is(what, holds ? 1 : 0, 1);
    }

    void reads(String what, Page page, String want) {
        String got = page.text();
        holds(what + " reads '" + shown(got) + "', due is '" + shown(want) + "'", got.equals(want));
    }

    private static String shown(String text) {
        return text.replace('\n', '|');
    }

    /** The exception must be of this very class: one above or below it is not as due. */
    void fails(String what, Class<? extends RuntimeException> want, Call call) {
        asked++;
        String got;
        try {
            got = "answered " + call.run();
        } catch (RuntimeException e) {
            if (e.getClass() == want) {
                return;
            }
            got = "threw " + e;
        }
        wrong++;
        System.out.println(what + " " + got + ", due is " + want.getSimpleName());
    }

    void end() {
        System.out.println(asked + " asked, " + wrong + " not as due");
        if (wrong != 0 || asked == 0) {
            System.exit(1);
        }
    }
}
