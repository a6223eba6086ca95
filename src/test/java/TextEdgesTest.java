/** Edges of the text that is read, and of promises 5 to 7. */
public final class TextEdgesTest {
    private static final int ERROR = -200000;
    private static final int INVALID = BallastTrack.INVALID_ARGUMENT;
    private static final int CAPACITY = BallastTrack.CAPACITY_EXCEEDED;
    private static final String DIGITS = "0123456789";

    public static void main(String[] args) {
        characterCodes();
        appendAnswersTheLength();
        appendRefuses();
        appendToAFullText();
        clearTextAnswersTheLength();
        loadEmptiesTheText();
        loadAnswersTheItems();
        loadAnswersTheError();
        anErrorChangesNothing();
        emptySequence();
        fullText();
        kindsOfItems();
        lastSleeper();
        values();
        sleepersOfTheText();
        zerosAhead();
        spacesEverywhere();
        noSpacesInNumbers();
        allOfThemGetTheValue();
        leftToRight();
        signsThatMayStandThere();
        numbersOutOfRange();
        digitsTooMany();
        numbersWithTwoFaults();
        minusZero();
        missingAtTheEnd();
        Due.end();
    }

    /** What load() answers for a text on a new object. */
    private static int answerTo(String text) {
        return Due.loaded(new BallastTrack(), text);
    }

    // ---- promise 5

    private static void characterCodes() {
        Due.sentence(5, "`character`: character code, 0 to 255");
        BallastTrack x = new BallastTrack();
        Due.refusesOutside(0, 255, x::appendCharacter);
        Due.is(x.count(12), 0);
        Due.is(x.appendCharacter(0), 1);
        Due.is(x.appendCharacter(255), 2);
        // 354 and 98 - 256 have the last eight bits of "b".
        Due.is(x.appendCharacter(354), INVALID);
        Due.is(x.appendCharacter(-158), INVALID);
        Due.is(x.clearText(), 2);
        for (int code = 0; code < 256; code++) {
            Due.is(x.appendCharacter(code), code % 100 + 1);
            if (code % 100 == 99) {
                Due.is(x.clearText(), 100);
            }
        }
    }

    private static void appendAnswersTheLength() {
        Due.sentence(5, "Appends a character to the text.");
        Due.sentence(5, "Returns the new length of the text;");
        BallastTrack x = new BallastTrack();
        Due.type(x, "b7=3;");
        Due.is(x.count(12), 5);
        Due.is(x.count(13), 0);
        Due.is(x.load(), 1);
        Due.is(x.sleeper(7, 0), 3);
        Due.is(x.appendCharacter(' '), 1);
    }

    private static void appendRefuses() {
        Due.sentence(5, "INVALID_ARGUMENT if character is out of range;");
        BallastTrack x = new BallastTrack();
        Due.type(x, "b1");
        Due.is(x.appendCharacter(-1), INVALID);
        Due.is(x.appendCharacter(256), INVALID);
        Due.is(x.count(12), 2);
        Due.type(x, "=4;");
        Due.is(x.load(), 1);
        Due.is(x.sleeper(1, 0), 4);
    }

    private static void appendToAFullText() {
        Due.sentence(5, "CAPACITY_EXCEEDED if the text has 100 characters.");
        BallastTrack x = new BallastTrack();
        Due.type(x, " ".repeat(95) + "b2=6");
        Due.is(x.appendCharacter(';'), 100);
        Due.is(x.appendCharacter('!'), CAPACITY);
        Due.is(x.appendCharacter(0), CAPACITY);
        Due.is(x.appendCharacter(255), CAPACITY);
        Due.is(x.appendCharacter(-1), INVALID);
        Due.is(x.appendCharacter(256), INVALID);
        Due.is(x.count(12), 100);
        Due.is(x.load(), 1);
        Due.is(x.sleeper(2, 0), 6);
        Due.is(x.appendCharacter('!'), 1);
    }

    // ---- promise 6

    private static void clearTextAnswersTheLength() {
        Due.sentence(6, "Makes the text empty.");
        Due.sentence(6, "Returns the previous length of the text.");
        BallastTrack x = new BallastTrack();
        Due.is(x.clearText(), 0);
        Due.is(x.clearText(), 0);
        Due.type(x, "b");
        Due.is(x.clearText(), 1);
        Due.type(x, ";".repeat(100));
        Due.is(x.clearText(), 100);
        Due.is(x.count(12), 0);
        Due.is(x.clearText(), 0);
        Due.is(x.count(13), 0);
        Due.is(x.load(), 0);
    }

    // ---- promise 7

    private static void loadEmptiesTheText() {
        Due.sentence(7, "Reads the text.");
        Due.sentence(7, "The text becomes empty.");
        BallastTrack x = new BallastTrack();
        Due.type(x, "b1=2;");
        Due.is(x.load(), 1);
        Due.is(x.count(12), 0);
        x.setLevel(1, 9);
        Due.is(x.load(), 0);
        Due.is(x.sleeper(1, 0), 9);
        Due.is(x.undo(), 2);
        Due.is(x.undo(), 1);
        Due.is(x.undo(), 0);
        Due.is(x.count(12), 0);
        Due.is(x.sleeper(1, 0), 0);
    }

    private static void loadAnswersTheItems() {
        Due.sentence(7, "Returns the number of items;");
        Due.is(answerTo(""), 0);
        Due.is(answerTo("b0-39=1;"), 1);
        Due.is(answerTo("b1=1;b1=1;"), 2);
        Due.is(answerTo("f1=1;b1=1;f1=1;"), 3);
        StringBuilder text = new StringBuilder();
        for (int items = 1; items <= 20; items++) {
            text.append("b1=1;");
            Due.is(answerTo(text.toString()), items);
        }
    }

    private static void loadAnswersTheError() {
        Due.sentence(7, "-200000 minus the error position if the text has an error "
            + "(then nothing changes, and the text is kept).");
        Due.is(answerTo("x"), -200000);
        Due.is(answerTo(" x"), -200001);
        Due.is(answerTo(" ".repeat(99) + "x"), -200099);
        Due.is(answerTo(" ".repeat(99) + "b"), -200100);
        Due.is(answerTo("b"), -200001);
    }

    private static void anErrorChangesNothing() {
        Due.sentence(7, "(then nothing changes, and the text is kept)");
        BallastTrack x = new BallastTrack();
        x.setLevel(0, 5);
        Due.type(x, "b0-39=7;f0-39=7;b1=-4;b1=10000;");
        Due.is(x.load(), ERROR - 29);
        Due.is(x.load(), ERROR - 29);
        Due.is(x.count(12), 31);
        Due.is(x.count(13), 1);
        Due.is(x.account(6), 5);
        for (int sleeper = 0; sleeper < 40; sleeper++) {
            Due.is(x.sleeper(sleeper, 0), sleeper == 0 ? 5 : 0);
            Due.is(x.sleeper(sleeper, 1), 0);
        }
        Due.is(x.clearText(), 31);
    }

    // ---- the text

    private static void emptySequence() {
        Due.sentence(0, "a sequence of items, perhaps empty (this is a successful call, too)");
        BallastTrack x = new BallastTrack();
        Due.is(x.load(), 0);
        Due.is(x.count(13), 1);
        Due.is(Due.loaded(x, " "), 0);
        Due.is(Due.loaded(x, " ".repeat(100)), 0);
        Due.is(x.count(13), 3);
        Due.is(x.undo(), 2);
    }

    private static void fullText() {
        Due.sentence(0, "Levels and foulings can be read from a text of at most 100 characters, "
            + "which is built one character at a time");
        BallastTrack x = new BallastTrack();
        Due.is(Due.loaded(x, "b1=1;".repeat(19) + "b2=8;"), 20);
        Due.is(x.sleeper(2, 0), 8);
        Due.is(x.account(6), 9);
        Due.is(Due.loaded(x, "b1=1;".repeat(19) + "b2=9 "), ERROR - 100);
        Due.is(Due.loaded(x, "b1=1;".repeat(19) + "b2=9,"), ERROR - 99);
        Due.is(x.sleeper(2, 0), 8);
    }

    private static void kindsOfItems() {
        Due.sentence(0, "each of which ends with \";\": \"b\" (level) or \"f\" (fouling), a sleeper");
        BallastTrack x = new BallastTrack();
        Due.is(Due.loaded(x, "b3=9;"), 1);
        Due.is(x.sleeper(3, 0), 9);
        Due.is(x.sleeper(3, 1), 0);
        Due.is(Due.loaded(x, "f3=8;"), 1);
        Due.is(x.sleeper(3, 0), 9);
        Due.is(x.sleeper(3, 1), 8);
        Due.is(x.account(6), 9);
        Due.is(answerTo("b3=9"), ERROR - 4);
        Due.is(answerTo("b3=9f3=8;"), ERROR - 4);
        Due.is(answerTo("b3=9;;"), ERROR - 5);
        Due.is(answerTo("B3=9;"), ERROR);
        Due.is(answerTo("F3=9;"), ERROR);
        Due.is(answerTo("3=9;"), ERROR);
        Due.is(answerTo("b=9;"), ERROR - 1);
    }

    private static void lastSleeper() {
        Due.sentence(0, "perhaps \"-\" and a last sleeper that is not less, \"=\", and a value");
        for (int first = 0; first < 10; first++) {
            for (int last = 0; last < 10; last++) {
                BallastTrack x = Tracks.ofSleepers(10);
                int answer = Due.loaded(x, "b" + first + "-" + last + "=7;");
                Due.is(answer, last < first ? ERROR - 3 : 1);
                Due.is(x.account(6), last < first ? 0 : 7 * (last - first + 1));
            }
        }
        Due.is(answerTo("b39-39=1;"), 1);
        Due.is(answerTo("b39-38=1;"), ERROR - 4);
        Due.is(answerTo("b39-40=1;"), ERROR - 4);
        Due.is(answerTo("b1-=1;"), ERROR - 3);
        Due.is(answerTo("b1-2-3=1;"), ERROR - 4);
        Due.is(answerTo("b1-2;"), ERROR - 4);
    }

    private static void values() {
        Due.sentence(0, "for \"b\" perhaps \"-\" and 1 to 4 digits, for \"f\" 1 to 3 digits, at most 100.");
        for (int value : new int[] {0, 1, 9, 10, 99, 100, 999, 1000, 9999}) {
            BallastTrack x = new BallastTrack();
            Due.is(Due.loaded(x, "b1=" + value + ";b2=-" + value + ";"), 2);
            Due.is(x.sleeper(1, 0), value);
            Due.is(x.sleeper(2, 0), -value);
            Due.is(x.account(6), 0);
        }
        for (int value = 0; value < 1000; value++) {
            BallastTrack x = new BallastTrack();
            Due.is(Due.loaded(x, "f1=" + value + ";"), value <= 100 ? 1 : ERROR - 3);
            Due.is(x.sleeper(1, 1), value <= 100 ? value : 0);
        }
        Due.is(answerTo("f1=-1;"), ERROR - 3);
        Due.is(answerTo("f1=-0;"), ERROR - 3);
        Due.is(answerTo("b1=--1;"), ERROR - 4);
        Due.is(answerTo("b1=;"), ERROR - 3);
        Due.is(answerTo("f1=;"), ERROR - 3);
        Due.is(answerTo("b1=-;"), ERROR - 4);
    }

    private static void sleepersOfTheText() {
        Due.sentence(0, "A sleeper is 1 or 2 digits, less than n.");
        for (int n : new int[] {10, 11, 40, 59, 60}) {
            for (int sleeper = 0; sleeper < 100; sleeper++) {
                BallastTrack x = Tracks.ofSleepers(n);
                Due.is(Due.loaded(x, "b" + sleeper + "=1;"), sleeper < n ? 1 : ERROR - 1);
                Due.is(x.account(6), sleeper < n ? 1 : 0);
                Due.is(Due.loaded(x, "f0-" + sleeper + "=1;"), sleeper < n ? 1 : ERROR - 3);
            }
        }
    }

    private static void zerosAhead() {
        Due.sentence(0, "Numbers of two and more digits do not begin with 0.");
        for (char digit : DIGITS.toCharArray()) {
            Due.is(answerTo("b0" + digit + "=1;"), ERROR - 1);
            Due.is(answerTo("b0-0" + digit + "=1;"), ERROR - 3);
            Due.is(answerTo("b0=0" + digit + ";"), ERROR - 3);
            Due.is(answerTo("b0=-0" + digit + ";"), ERROR - 4);
            Due.is(answerTo("f0=0" + digit + ";"), ERROR - 3);
        }
        Due.is(answerTo("b0=012;"), ERROR - 3);
        Due.is(answerTo("b0=0123;"), ERROR - 3);
        Due.is(answerTo("b0=0000;"), ERROR - 3);
        Due.is(answerTo("f0=012;"), ERROR - 3);
        Due.is(answerTo("f0=000;"), ERROR - 3);
        Due.is(answerTo("b0=0;f0=0;b0-0=0;b10-20=100;"), 4);
    }

    private static final String WHOLE = "b1-34=-5678;f9=100;";

    private static boolean isDigit(char sign) {
        return DIGITS.indexOf(sign) >= 0;
    }

    private static void spacesEverywhere() {
        Due.sentence(0, "Spaces (code 32) may stand everywhere except within numbers.");
        StringBuilder all = new StringBuilder();
        for (int gap = 0; gap <= WHOLE.length(); gap++) {
            boolean within = gap > 0 && gap < WHOLE.length() && isDigit(WHOLE.charAt(gap - 1)) && isDigit(WHOLE.charAt(gap));
            String text = WHOLE.substring(0, gap) + " " + WHOLE.substring(gap);
            // Behind a space within a number, its next digit is what may not stand there.
            Due.is(answerTo(text), within ? ERROR - gap - 1 : 2);
            String other = WHOLE.substring(0, gap) + "\t" + WHOLE.substring(gap);
            Due.is(answerTo(other), ERROR - gap);
            all.append(within ? "" : "  ").append(gap < WHOLE.length() ? WHOLE.substring(gap, gap + 1) : "");
        }
        BallastTrack x = new BallastTrack();
        Due.is(Due.loaded(x, all.toString()), 2);
        Due.is(x.sleeper(1, 0), -5678);
        Due.is(x.sleeper(34, 0), -5678);
        Due.is(x.sleeper(9, 1), 100);
    }

    private static void noSpacesInNumbers() {
        Due.sentence(0, "everywhere except within numbers");
        Due.is(answerTo("b1 2=3;"), ERROR - 3);
        Due.is(answerTo("b1   2=3;"), ERROR - 5);
        Due.is(answerTo("b1-1 2=3;"), ERROR - 5);
        Due.is(answerTo("b1=3 4;"), ERROR - 5);
        Due.is(answerTo("b1=-3 4;"), ERROR - 6);
        Due.is(answerTo("f1=10 0;"), ERROR - 6);
        Due.is(answerTo("f1=0 0;"), ERROR - 5);
    }

    private static void allOfThemGetTheValue() {
        Due.sentence(0, "All sleepers from the first to the last one (or the one alone) get the value.");
        BallastTrack x = new BallastTrack();
        Due.is(Due.loaded(x, "b5-8=3;f7-10=4;b20=6;f39=2;b0-0=1;"), 5);
        for (int sleeper = 0; sleeper < 40; sleeper++) {
            int level = sleeper >= 5 && sleeper <= 8 ? 3 : sleeper == 20 ? 6 : sleeper == 0 ? 1 : 0;
            int fouling = sleeper >= 7 && sleeper <= 10 ? 4 : sleeper == 39 ? 2 : 0;
            Due.is(x.sleeper(sleeper, 0), level);
            Due.is(x.sleeper(sleeper, 1), fouling);
        }
        Due.is(x.account(6), 4 * 3 + 6 + 1);
    }

    private static void leftToRight() {
        Due.sentence(0, "The text is read from left to right;");
        Due.sentence(0, "the error position is the offset (from 0) of the first character that is not allowed where it stands;");
        BallastTrack x = new BallastTrack();
        Due.is(Due.loaded(x, "b0-9=5;b3-12=7;b4=1;"), 3);
        Due.is(x.sleeper(2, 0), 5);
        Due.is(x.sleeper(3, 0), 7);
        Due.is(x.sleeper(4, 0), 1);
        Due.is(x.sleeper(12, 0), 7);
        Due.is(x.account(6), 3 * 5 + 9 * 7 + 1);
        Due.is(answerTo("?b1=1;?"), ERROR);
        Due.is(answerTo("b1=1;?b40=1;"), ERROR - 5);
        Due.is(answerTo("b40=1;?"), ERROR - 1);
        Due.is(answerTo("b1=1;f1=101;b05=1;"), ERROR - 8);
    }

    /** For each character code behind a beginning: does it stand where it may? */
    private static void signsThatMayStandThere() {
        Due.sentence(0, "the first character that is not allowed where it stands");
        behind("", "bf", " ");
        behind("  ", "bf", " ");
        behind("b", DIGITS + " ", "");
        behind("f ", DIGITS + " ", "");
        behind("b1", DIGITS + "-= ", "");
        behind("b1 ", "-= ", "");
        behind("b12", "-= ", "");
        behind("f1-", "123456789 ", "");
        behind("b1- ", "123456789 ", "");
        behind("b1-2", DIGITS + "= ", "");
        behind("f1-2 ", "= ", "");
        behind("b1-23", "= ", "");
        behind("b1=", DIGITS + "- ", "");
        behind("b1= ", DIGITS + "- ", "");
        behind("b1=-", DIGITS + " ", "");
        behind("b1=- ", DIGITS + " ", "");
        behind("b1=1", DIGITS + " ", ";");
        behind("b1=-123", DIGITS + " ", ";");
        behind("b1=1234", " ", ";");
        behind("b1=-1234", " ", ";");
        behind("b1=1 ", " ", ";");
        behind("f1=", DIGITS + " ", "");
        behind("f1=1", DIGITS + " ", ";");
        behind("f1=99", " ", ";", DIGITS);
        behind("f1=100", " ", ";");
        behind("f1-9=7", DIGITS + " ", ";");
        behind("b1=1;", "bf", " ");
        behind("f0-9=5; ", "bf", " ");
    }

    private static void behind(String beginning, String allowed, String ending) {
        behind(beginning, allowed, ending, "");
    }

    private static void behind(String beginning, String allowed, String ending, String leftOut) {
        int at = beginning.length();
        for (char sign = 0; sign < 256; sign++) {
            int answer = answerTo(beginning + sign);
            if (leftOut.indexOf(sign) >= 0) {
                continue;
            }
            if (ending.indexOf(sign) >= 0) {
                Due.is(answer, sign == ';' || beginning.contains(";") ? 1 : 0);
            } else {
                Due.is(answer, allowed.indexOf(sign) >= 0 ? ERROR - at - 1 : ERROR - at);
            }
        }
    }

    private static void numbersOutOfRange() {
        Due.sentence(0, "for a number that is out of its range, or of two and more digits with a 0 ahead, "
            + "it is its first digit (also where the text ends behind it);");
        String[] beginnings = {"b40", "b99", "f40", "b 40", "b1-40", "b12-11", "b12- 1", "b2-1", "b39-38",
            "f1=101", "f1=999", "f1= 101", "f0-39=200", "b00", "b07", "b0-00", "b0-07", "b1=00", "b1=0123", "b1=- 00",
            "f1=00", "f1=010"};
        int[] positions = {1, 1, 1, 2, 3, 4, 5, 3, 4, 3, 3, 4, 6, 1, 1, 3, 3, 3, 3, 5, 3, 3};
        for (int i = 0; i < beginnings.length; i++) {
            for (String behind : new String[] {"", " ", ";", "=1;", "-39=1;", "x", "b"}) {
                Due.is(answerTo(beginnings[i] + behind), ERROR - positions[i]);
            }
        }
    }

    private static void digitsTooMany() {
        Due.sentence(0, "a digit too many is not allowed where it stands.");
        String[] beginnings = {"b12", "b39", "f10", "b1-12", "b12-39", "b1=1234", "b1=9999", "b1=-1234", "b1=- 1000",
            "f1=100"};
        for (String beginning : beginnings) {
            for (char digit : DIGITS.toCharArray()) {
                for (String behind : new String[] {"", "0", ";", "=1;", "9999;"}) {
                    Due.is(answerTo(beginning + digit + behind), ERROR - beginning.length());
                }
            }
        }
    }

    /** The document doesn't tell which of both faults is told: the number's, or the digit's behind it. */
    private static void numbersWithTwoFaults() {
        Due.sentence(0, "a digit too many is not allowed");
        Due.isEither(answerTo("b012=1;"), ERROR - 1, ERROR - 3);
        Due.isEither(answerTo("b401=1;"), ERROR - 1, ERROR - 3);
        Due.isEither(answerTo("b12-111=1;"), ERROR - 4, ERROR - 6);
        Due.isEither(answerTo("f1=1011;"), ERROR - 3, ERROR - 6);
        Due.isEither(answerTo("b1=01234;"), ERROR - 3, ERROR - 7);
    }

    private static void minusZero() {
        Due.sentence(0, "\"-0\" is 0, and spaces may stand behind \"-\".");
        BallastTrack x = new BallastTrack();
        Due.is(Due.loaded(x, "b1=5;b1=-0;b2=-   7;b3 -  4=-  9;"), 4);
        Due.is(x.sleeper(1, 0), 0);
        Due.is(x.sleeper(2, 0), -7);
        Due.is(x.sleeper(3, 0), -9);
        Due.is(x.sleeper(4, 0), -9);
        Due.is(x.account(6), -25);
        Due.is(answerTo("b1=-  ;"), ERROR - 6);
        Due.is(answerTo("b1=- -1;"), ERROR - 5);
    }

    private static void missingAtTheEnd() {
        Due.sentence(0, "If the text ends where something is missing, it is the length of the text.");
        String whole = "f9=100;b1-34=-5678";
        for (int length = 0; length <= whole.length(); length++) {
            String text = whole.substring(0, length);
            boolean complete = length == 0 || length == 7;
            int items = length == 0 ? 0 : 1;
            Due.is(answerTo(text), complete ? items : ERROR - length);
            Due.is(answerTo(text + "   "), complete ? items : ERROR - length - 3);
        }
        Due.is(answerTo("f" + " ".repeat(99)), ERROR - 100);
        Due.is(answerTo("b1=1" + " ".repeat(96)), ERROR - 100);
    }
}
