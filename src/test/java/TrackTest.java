/** Promises 1 to 4 and 8: a new object, begin, setNumber, setLevel, renew. */
public final class TrackTest {
    private static final int INVALID = BallastTrack.INVALID_ARGUMENT;

    public static void main(String[] args) {
        newObject();
        begin();
        beginLeavesNumbersTextAndImages();
        setNumber();
        setNumberKeepsLimitsAscending();
        setLevel();
        renew();
        Due.end();
    }

    private static void newObject() {
        BallastTrack x = new BallastTrack();
        int[] counts = {40, 4, 10, 3, 20, 40, 80, 200, 5, 0, 0, 0, 0, 0, 0};
        for (int what = 0; what < counts.length; what++) {
            Due.is(x.count(what), counts[what]);
        }
        for (int sleeper = 0; sleeper < 40; sleeper++) {
            for (int what = 0; what < 10; what++) {
                Due.is(x.sleeper(sleeper, what), what == 5 ? 2 : 0);
            }
        }
        for (int what = 0; what < 7; what++) {
            Due.is(x.account(what), 0);
        }
        Due.is(x.undo(), BallastTrack.ILLEGAL_STATE);
        Due.is(x.back(0), BallastTrack.ILLEGAL_STATE);
        Due.is(x.back(1), BallastTrack.ILLEGAL_STATE);
        Due.is(x.clearText(), 0);
    }

    private static void begin() {
        BallastTrack x = new BallastTrack();
        Due.is(x.begin(9), INVALID);
        Due.is(x.begin(61), INVALID);
        Due.is(x.begin(Integer.MIN_VALUE), INVALID);
        Due.is(x.count(13), 0);
        Due.is(x.begin(10), 40);
        Due.is(x.begin(60), 10);
        Due.is(x.setLevel(59, 5), 0);
        Due.is(x.trains(200, 30, 2), 2);
        Due.is(x.addJob(0, 59, 7), 1);
        Due.is(x.work(30), 7);
        Due.is(Due.loaded(x, "f0-59=9;"), 1);
        Due.is(x.begin(60), 60);
        for (int sleeper = 0; sleeper < 60; sleeper++) {
            Due.is(x.sleeper(sleeper, 0), 0);
            Due.is(x.sleeper(sleeper, 1), 0);
            Due.is(x.sleeper(sleeper, 8), 0);
            Due.is(x.sleeper(sleeper, 9), 0);
        }
        for (int what = 0; what < 7; what++) {
            Due.is(x.account(what), 0);
        }
        Due.is(x.count(9), 0);
    }

    private static void beginLeavesNumbersTextAndImages() {
        BallastTrack x = new BallastTrack();
        x.setNumber(0, 7);
        x.keep(1);
        Due.type(x, "b0");
        Due.is(x.begin(11), 40);
        Due.is(x.count(1), 7);
        Due.is(x.count(12), 2);
        Due.is(x.count(14), 2);
        Due.is(x.undo(), 1);
        Due.is(x.count(0), 40);
        Due.is(x.count(12), 2);
    }

    private static void setNumber() {
        int[] least = {1, 0, 1, 1, 21, 41, 10, 1};
        int[] greatest = {20, 99, 5, 39, 79, 2000, 500, 50};
        int[] first = {4, 10, 3, 20, 40, 80, 200, 5};
        for (int what = 0; what < 8; what++) {
            BallastTrack x = new BallastTrack();
            Due.is(x.setNumber(what, least[what] - 1), INVALID);
            Due.is(x.setNumber(what, greatest[what] + 1), INVALID);
            Due.is(x.count(13), 0);
            Due.is(x.setNumber(what, least[what]), first[what]);
            Due.is(x.count(what + 1), least[what]);
            Due.is(x.setNumber(what, greatest[what]), least[what]);
            Due.is(x.count(what + 1), greatest[what]);
            Due.is(x.count(13), 2);
        }
        BallastTrack x = new BallastTrack();
        Due.is(x.setNumber(-1, 5), INVALID);
        Due.is(x.setNumber(8, 5), INVALID);
        Due.is(x.setNumber(Integer.MAX_VALUE, 5), INVALID);
        Due.is(x.setNumber(Integer.MIN_VALUE, 5), INVALID);
    }

    private static void setNumberKeepsLimitsAscending() {
        BallastTrack x = new BallastTrack();
        Due.is(x.setNumber(3, 40), INVALID);
        Due.is(x.setNumber(4, 20), INVALID);
        Due.is(x.setNumber(4, 80), INVALID);
        Due.is(x.setNumber(5, 40), INVALID);
        Due.is(x.setNumber(5, 2000), 80);
        Due.is(x.setNumber(4, 1999), 40);
        Due.is(x.setNumber(3, 1998), 20);
        Due.is(x.setNumber(3, 1), 1998);
        Due.is(x.setNumber(4, 2), 1999);
        Due.is(x.setNumber(5, 3), 2000);
        Due.is(x.setNumber(5, 2), INVALID);
    }

    private static void setLevel() {
        BallastTrack x = new BallastTrack();
        Due.is(x.setLevel(-1, 0), INVALID);
        Due.is(x.setLevel(40, 0), INVALID);
        Due.is(x.setLevel(0, -10000), INVALID);
        Due.is(x.setLevel(0, 10000), INVALID);
        Due.is(x.count(13), 0);
        Due.is(x.setLevel(0, -9999), 0);
        Due.is(x.setLevel(39, 9999), 0);
        Due.is(x.setLevel(39, 12), 9999);
        Due.is(x.sleeper(39, 0), 12);
        Due.is(x.account(6), -9987);
        Due.is(x.setLevel(0, 3), -9999);
        Due.is(x.account(6), 15);
        Due.is(x.sleeper(0, 9), 0);
        Due.is(x.account(1), 0);
    }

    private static void renew() {
        BallastTrack x = new BallastTrack();
        Due.is(Due.loaded(x, "f0-39=1;f5=100;f6=7;b5=33;"), 4);
        Due.is(x.renew(-1, 3), INVALID);
        Due.is(x.renew(3, 40), INVALID);
        Due.is(x.renew(40, 40), INVALID);
        Due.is(x.renew(4, 3), INVALID);
        Due.is(x.count(13), 1);
        Due.is(x.renew(5, 6), 107);
        Due.is(x.sleeper(4, 1), 1);
        Due.is(x.sleeper(5, 1), 0);
        Due.is(x.sleeper(6, 1), 0);
        Due.is(x.sleeper(7, 1), 1);
        Due.is(x.sleeper(5, 0), 33);
        Due.is(x.renew(7, 7), 1);
        Due.is(x.renew(0, 39), 37);
        Due.is(x.renew(0, 39), 0);
        Due.is(x.count(13), 5);
        Due.is(x.undo(), 4);
        Due.is(x.undo(), 3);
        Due.is(x.sleeper(0, 1), 1);
    }
}
