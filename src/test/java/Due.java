/** Compares answers with the ones that are due, and tells where one is not. */
final class Due {
    private static int wrong = 0;
    private static int compared = 0;

    private Due() {
    }

    static void is(long got, long want) {
        compared++;
        if (got != want) {
            wrong++;
            System.out.println(placeOfCall() + " answered " + got + ", due is " + want);
        }
    }

    static void isTrue(String what, boolean holds) {
        compared++;
        if (!holds) {
            wrong++;
            System.out.println(placeOfCall() + " does not hold: " + what);
        }
    }

    /** Appends all characters of a text. */
    static void type(BallastTrack x, String text) {
        int before = x.count(12);
        for (int i = 0; i < text.length(); i++) {
            is(x.appendCharacter(text.charAt(i)), before + i + 1);
        }
    }

    /** What load() answers for a text, which is cleared behind it. */
    static int loaded(BallastTrack x, String text) {
        x.clearText();
        type(x, text);
        int answer = x.load();
        is(x.clearText(), answer < 0 ? text.length() : 0);
        return answer;
    }

    static void end() {
        System.out.println(wrong == 0 ? compared + " answers are as due" : wrong + " answers are not as due");
        if (wrong != 0) {
            System.exit(1);
        }
    }

    private static String placeOfCall() {
        for (StackTraceElement place : new Throwable().getStackTrace()) {
            if (!place.getClassName().equals("Due")) {
                return place.toString();
            }
        }
        return "somewhere";
    }
}
