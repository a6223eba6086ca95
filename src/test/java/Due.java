import java.util.function.IntUnaryOperator;

/** Compares answers with the ones that are due, and tells where one is not. */
final class Due {
    private static int wrong = 0;
    private static int compared = 0;
    private static String sentence = "";

    private Due() {
    }

    /** Names the sentence of the document that the next answers are about; section 0 is the Terms. */
    static void sentence(int section, String words) {
        sentence = "";
        isTrue("the document says, in " + section + ", \"" + words + "\"", Document.says(section, words));
        sentence = " (" + section + ": \"" + words + "\")";
    }

    static void is(long got, long want) {
        compared++;
        if (got != want) {
            tell("answered " + got + ", due is " + want);
        }
    }

    /** For what the document leaves open between two answers. */
    static void isEither(long got, long one, long other) {
        compared++;
        if (got != one && got != other) {
            tell("answered " + got + ", due is " + one + " or " + other);
        }
    }

    static void isTrue(String what, boolean holds) {
        compared++;
        if (!holds) {
            tell("does not hold: " + what);
        }
    }

    /** All values just outside of a range, and far from it, are refused. */
    static void refusesOutside(int least, int greatest, IntUnaryOperator call) {
        int[] values = {least - 1, greatest + 1, least - 1000000, greatest + 1000000,
            Integer.MIN_VALUE, Integer.MAX_VALUE};
        for (int value : values) {
            is(call.applyAsInt(value), BallastTrack.INVALID_ARGUMENT);
        }
    }

    private static void tell(String what) {
        wrong++;
        System.out.println(placeOfCall() + " " + what + sentence);
    }

    /** Appends all characters of a text. */
    static void type(BallastTrack x, String text) {
        int before = x.count(12);
        for (int i = 0; i < text.length(); i++) {
            is(x.appendCharacter(text.charAt(i)), before + i + 1);
        }
    }

    /** What load() answers for a text, which is cleared behind it. */
    static int loaded(BallastTrack x, String text) {
        x.clearText();
        type(x, text);
        int answer = x.load();
        is(x.clearText(), answer < 0 ? text.length() : 0);
        return answer;
    }

    static void end() {
        System.out.println(wrong == 0 ? compared + " answers are as due" : wrong + " answers are not as due");
        if (wrong != 0) {
            System.exit(1);
        }
    }

    private static String placeOfCall() {
        for (StackTraceElement place : new Throwable().getStackTrace()) {
            if (!place.getClassName().equals("Due")) {
                return place.toString();
            }
        }
        return "somewhere";
    }
}
