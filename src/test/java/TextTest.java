/** Promises 5 to 7: appendCharacter, clearText, load. */
public final class TextTest {
    private static final int ERROR = -200000;

    public static void main(String[] args) {
        appendCharacter();
        clearText();
        loadSets();
        loadOfNothing();
        loadIsAllOrNothing();
        loadReadsLeftToRight();
        spaces();
        errorsOfSigns();
        errorsOfNumbers();
        errorsOfTheEnd();
        longestText();
        clearedText();
        Due.end();
    }

    private static void appendCharacter() {
        BallastTrack x = new BallastTrack();
        Due.is(x.appendCharacter(-1), BallastTrack.INVALID_ARGUMENT);
        Due.is(x.appendCharacter(256), BallastTrack.INVALID_ARGUMENT);
        Due.is(x.appendCharacter(Integer.MIN_VALUE), BallastTrack.INVALID_ARGUMENT);
        Due.is(x.count(12), 0);
        Due.is(x.appendCharacter(0), 1);
        Due.is(x.appendCharacter(255), 2);
        for (int length = 3; length <= 100; length++) {
            Due.is(x.appendCharacter(' '), length);
        }
        Due.is(x.appendCharacter(' '), BallastTrack.CAPACITY_EXCEEDED);
        Due.is(x.appendCharacter(256), BallastTrack.INVALID_ARGUMENT);
        Due.is(x.count(12), 100);
        Due.is(x.count(13), 0);
        Due.is(x.load(), ERROR);
    }

    private static void clearText() {
        BallastTrack x = new BallastTrack();
        Due.is(x.clearText(), 0);
        Due.type(x, "b1=");
        Due.is(x.clearText(), 3);
        Due.is(x.count(12), 0);
        Due.is(x.count(13), 0);
        Due.is(Due.loaded(x, "b2=5;"), 1);
        Due.is(x.sleeper(1, 0), 0);
        Due.is(x.sleeper(2, 0), 5);
    }

    private static void loadSets() {
        BallastTrack x = new BallastTrack();
        Due.is(Due.loaded(x, "b0-39=-5;f3=7;b12=20;"), 3);
        Due.is(x.sleeper(0, 0), -5);
        Due.is(x.sleeper(39, 0), -5);
        Due.is(x.sleeper(12, 0), 20);
        Due.is(x.sleeper(3, 1), 7);
        Due.is(x.sleeper(2, 1), 0);
        Due.is(x.sleeper(4, 1), 0);
        Due.is(x.account(6), -175);
        Due.is(Due.loaded(x, "b0=-9999;b1=9999;b2=-0;b3=0;f4=100;f5-6=0;"), 6);
        Due.is(x.sleeper(0, 0), -9999);
        Due.is(x.sleeper(1, 0), 9999);
        Due.is(x.sleeper(2, 0), 0);
        Due.is(x.sleeper(3, 0), 0);
        Due.is(x.sleeper(4, 1), 100);
        Due.is(x.count(13), 2);
        Due.is(Due.loaded(x, "b7-7=1;"), 1);
        Due.is(x.sleeper(7, 0), 1);
        Due.is(x.sleeper(8, 0), -5);
    }

    private static void loadOfNothing() {
        BallastTrack x = new BallastTrack();
        Due.is(x.load(), 0);
        Due.is(x.count(13), 1);
        Due.is(Due.loaded(x, "   "), 0);
        Due.is(x.count(13), 2);
    }

    private static void loadIsAllOrNothing() {
        BallastTrack x = new BallastTrack();
        Due.type(x, "b1=5;f1=5;b1");
        Due.is(x.load(), ERROR - 12);
        Due.is(x.sleeper(1, 0), 0);
        Due.is(x.sleeper(1, 1), 0);
        Due.is(x.account(6), 0);
        Due.is(x.count(12), 12);
        Due.is(x.count(13), 0);
        Due.type(x, "=6;");
        Due.is(x.load(), 3);
        Due.is(x.count(12), 0);
        Due.is(x.sleeper(1, 0), 6);
        Due.is(x.undo(), 0);
        Due.is(x.sleeper(1, 0), 0);
        Due.is(x.sleeper(1, 1), 0);
        Due.is(x.account(6), 0);
        Due.is(x.count(12), 0);
    }

    private static void loadReadsLeftToRight() {
        BallastTrack x = new BallastTrack();
        Due.is(Due.loaded(x, "b1=5;b0-3=7;b2=9;"), 3);
        Due.is(x.sleeper(1, 0), 7);
        Due.is(x.sleeper(2, 0), 9);
        Due.is(x.sleeper(3, 0), 7);
        Due.is(x.account(6), 30);
    }

    private static void spaces() {
        BallastTrack x = new BallastTrack();
        Due.is(Due.loaded(x, "  b  1 - 2  = - 5  ;  f 3 = 9 ; "), 2);
        Due.is(x.sleeper(1, 0), -5);
        Due.is(x.sleeper(2, 0), -5);
        Due.is(x.sleeper(3, 1), 9);
        Due.is(Due.loaded(x, "b1 2=5;"), ERROR - 3);
        Due.is(Due.loaded(x, "b1=1 2;"), ERROR - 5);
        Due.is(Due.loaded(x, "b1-1 2=1;"), ERROR - 5);
        Due.is(Due.loaded(x, "b1=1\t;"), ERROR - 4);
    }

    /** What load() answers for a text on a new object. */
    private static int answerTo(String text) {
        return Due.loaded(new BallastTrack(), text);
    }

    private static void errorsOfSigns() {
        String[] texts = {"B1=1;", ";", "b1=1;;", "1", "b=1;", "b-1=1;", "b1;", "b1--2=1;", "b1-2-3=1;", "b1=;",
            "b1=--1;", "b1=-;", "b1=+1;", "f1=-1;", "f1=;", "b1=1,", "b1=1b", "b1=1;x", "bf1=1;", "b1==1;",
            "b1=1-;", "f1-=1;"};
        int[] positions = {0, 0, 5, 0, 1, 1, 2, 3, 4, 3, 4, 4, 3, 3, 3, 4, 4, 5, 1, 3, 4, 3};
        for (int i = 0; i < texts.length; i++) {
            Due.is(answerTo(texts[i]), ERROR - positions[i]);
        }
        BallastTrack x = new BallastTrack();
        x.appendCharacter(0);
        Due.is(x.load(), ERROR);
        x.clearText();
        x.appendCharacter('b');
        x.appendCharacter('1' + 128);
        Due.is(x.load(), ERROR - 1);
        Due.is(x.count(13), 0);
    }

    private static void errorsOfNumbers() {
        String[] texts = {"b40=1;", "b 40", "b05=1;", "b00=1;", "b123=1;", "b9-8=1;", "b9-8",
            "b9-40=1;", "b9-09=1;", "b9-123=1;", "b12-1", "b12-1 2=1;", "f1=101;", "f1=101",
            "f1=1000;", "f1=007;", "f1=00", "b1=12345;", "b1=01;", "b1=-00;", "b1=- 012;",
            "b1=-12345;", "b1=00"};
        int[] positions = {1, 2, 1, 1, 3, 3, 3, 3, 3, 5, 4, 4, 3, 3, 6, 3, 3, 7, 3, 4, 5, 8, 3};
        for (int i = 0; i < texts.length; i++) {
            Due.is(answerTo(texts[i]), ERROR - positions[i]);
        }
        BallastTrack x = new BallastTrack();
        x.begin(60);
        Due.is(Due.loaded(x, "b59=1;"), 1);
        Due.is(Due.loaded(x, "b60=1;"), ERROR - 1);
        x.begin(10);
        Due.is(Due.loaded(x, "b9=1;"), 1);
        Due.is(Due.loaded(x, "b10=1;"), ERROR - 1);
    }

    private static void errorsOfTheEnd() {
        String whole = "b1-12=-1234; f3=100";
        for (int length = 1; length <= whole.length(); length++) {
            String text = whole.substring(0, length);
            boolean complete = length == 12 || length == 13;
            Due.is(answerTo(text), complete ? 1 : ERROR - length);
        }
        Due.is(answerTo("b1 "), ERROR - 3);
        Due.is(answerTo("b1=  "), ERROR - 5);
        Due.is(answerTo("b1=1 "), ERROR - 5);
    }

    private static void longestText() {
        BallastTrack x = new BallastTrack();
        StringBuilder text = new StringBuilder();
        for (int i = 0; i < 20; i++) {
            text.append("b").append(i % 10).append("=").append(i % 7).append(";");
        }
        Due.is(text.length(), 100);
        Due.is(Due.loaded(x, text.toString()), 20);
        Due.is(x.sleeper(9, 0), 5);
        text.setCharAt(99, ' ');
        Due.is(Due.loaded(x, text.toString()), ERROR - 100);
        Due.is(answerTo(" ".repeat(98) + "b1"), ERROR - 100);
    }

    /** What stood behind the end of the text before plays no part. */
    private static void clearedText() {
        BallastTrack x = new BallastTrack();
        Due.is(Due.loaded(x, "b12=34;"), 1);
        Due.is(Due.loaded(x, "b1"), ERROR - 2);
        Due.is(Due.loaded(x, "b12=3"), ERROR - 5);
        Due.is(Due.loaded(x, "b12"), ERROR - 3);
    }
}
