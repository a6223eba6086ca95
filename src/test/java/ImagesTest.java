/** Promises 13 to 15: keep, back, undo. */
public final class ImagesTest {
    private static final int INVALID = BallastTrack.INVALID_ARGUMENT;
    private static final int ILLEGAL = BallastTrack.ILLEGAL_STATE;

    public static void main(String[] args) {
        keepAndBack();
        keepReplaces();
        backBringsAll();
        imagesAreNoneOfTheState();
        undoOfEachCall();
        unsuccessfulCallsSaveNothing();
        otherCallsSaveNothing();
        oldestIsDiscarded();
        Due.end();
    }

    private static void keepAndBack() {
        BallastTrack x = new BallastTrack();
        Due.is(x.keep(-1), INVALID);
        Due.is(x.keep(2), INVALID);
        Due.is(x.back(-1), INVALID);
        Due.is(x.back(2), INVALID);
        Due.is(x.back(0), ILLEGAL);
        Due.is(x.count(14), 0);
        Due.is(x.trains(1, 1, 3), 3);
        Due.is(x.keep(1), 3);
        Due.is(x.count(14), 2);
        Due.is(x.count(13), 1);
        Due.is(x.back(0), ILLEGAL);
        Due.is(x.trains(1, 1, 4), 4);
        Due.is(x.keep(0), 7);
        Due.is(x.count(14), 3);
        Due.is(x.back(1), 3);
        Due.is(x.count(13), 3);
        Due.is(x.account(4), 3);
        Due.is(x.back(0), 7);
        Due.is(x.back(1), 3);
        Due.is(x.undo(), 4);
        Due.is(x.account(4), 7);
    }

    private static void keepReplaces() {
        BallastTrack x = new BallastTrack();
        x.setLevel(0, 5);
        x.keep(0);
        x.setLevel(0, 6);
        x.keep(0);
        x.setLevel(0, 7);
        Due.is(x.back(0), 0);
        Due.is(x.sleeper(0, 0), 6);
        x.setLevel(0, 8);
        Due.is(x.back(0), 0);
        Due.is(x.sleeper(0, 0), 6);
        Due.is(x.count(14), 1);
    }

    private static BallastTrack used() {
        BallastTrack x = new BallastTrack();
        x.begin(12);
        for (int what = 0; what < 8; what++) {
            x.setNumber(what, x.count(what + 1) + 1);
        }
        Due.is(Due.loaded(x, "b0-11=100;f3=9;"), 2);
        x.addJob(0, 3, 150);
        x.addJob(2, 9, 160);
        Due.is(x.work(7), 2);
        Due.is(x.trains(200, 30, 2), 2);
        return x;
    }

    private static void backBringsAll() {
        BallastTrack x = used();
        BallastTrack y = used();
        Due.is(x.keep(0), 2);
        x.begin(60);
        x.setNumber(5, 2000);
        for (int what = 7; what >= 0; what--) {
            x.setNumber(what, what == 4 ? 60 : 10);
        }
        x.addJob(59, 59, 20);
        Due.is(x.work(9), 1);
        Due.is(x.back(0), 2);
        for (int what = 0; what <= 12; what++) {
            Due.is(x.count(what), y.count(what));
        }
        for (int sleeper = 0; sleeper < 13; sleeper++) {
            for (int what = 0; what < 10; what++) {
                Due.is(x.sleeper(sleeper, what), y.sleeper(sleeper, what));
            }
        }
        for (int what = 0; what < 7; what++) {
            Due.is(x.account(what), y.account(what));
        }
        for (int job = 0; job < 3; job++) {
            for (int what = 0; what < 4; what++) {
                Due.is(x.job(job, what), y.job(job, what));
            }
        }
    }

    private static void imagesAreNoneOfTheState() {
        BallastTrack x = new BallastTrack();
        x.setLevel(3, 9);
        x.keep(0);
        Due.type(x, "abc");
        Due.is(x.undo(), 0);
        Due.is(x.count(14), 1);
        Due.is(x.count(12), 3);
        Due.is(x.back(0), 0);
        Due.is(x.sleeper(3, 0), 9);
        Due.is(x.count(12), 3);
        Due.is(x.undo(), 0);
        Due.is(x.sleeper(3, 0), 0);
        Due.is(x.undo(), ILLEGAL);
    }

    private static void undoOfEachCall() {
        BallastTrack x = new BallastTrack();
        Due.is(x.begin(20), 40);
        Due.is(x.setNumber(0, 9), 4);
        Due.is(x.setLevel(0, 50), 0);
        Due.is(Due.loaded(x, "f0=8;"), 1);
        Due.is(x.renew(0, 0), 8);
        Due.is(x.undo(), 4);
        Due.is(x.sleeper(0, 1), 8);
        Due.is(x.undo(), 3);
        Due.is(x.sleeper(0, 1), 0);
        Due.is(x.undo(), 2);
        Due.is(x.sleeper(0, 0), 0);
        Due.is(x.account(6), 0);
        Due.is(x.undo(), 1);
        Due.is(x.count(1), 4);
        Due.is(x.undo(), 0);
        Due.is(x.count(0), 40);
        Due.is(x.undo(), ILLEGAL);
        Due.is(x.addJob(0, 9, 50), 1);
        Due.is(x.work(3), 1);
        Due.is(x.trains(200, 30, 1), 1);
        Due.is(x.cancelJobs(5), 1);
        x.keep(0);
        x.setLevel(9, 9);
        Due.is(x.back(0), 1);
        Due.is(x.undo(), 5);
        Due.is(x.sleeper(9, 0), 9);
        Due.is(x.undo(), 4);
        Due.is(x.undo(), 3);
        Due.is(x.count(9), 1);
        Due.is(x.undo(), 2);
        Due.is(x.account(4), 0);
        Due.is(x.sleeper(0, 8), 0);
        Due.is(x.undo(), 1);
        Due.is(x.job(0, 3), 0);
        Due.is(x.account(3), 0);
        Due.is(x.undo(), 0);
        Due.is(x.count(9), 0);
    }

    private static void unsuccessfulCallsSaveNothing() {
        BallastTrack x = new BallastTrack();
        Due.is(x.begin(0), INVALID);
        Due.is(x.setNumber(0, 0), INVALID);
        Due.is(x.setLevel(0, 10000), INVALID);
        Due.is(x.renew(1, 0), INVALID);
        Due.is(x.addJob(1, 0, 0), INVALID);
        Due.is(x.cancelJobs(-1), INVALID);
        Due.is(x.work(1), ILLEGAL);
        Due.is(x.trains(0, 1, 1), INVALID);
        Due.is(x.back(1), ILLEGAL);
        Due.is(Due.loaded(x, "?"), -200000);
        Due.is(x.count(13), 0);
    }

    private static void otherCallsSaveNothing() {
        BallastTrack x = new BallastTrack();
        x.appendCharacter(' ');
        x.clearText();
        x.keep(0);
        x.sleeper(0, 5);
        x.job(0, 0);
        x.account(0);
        x.rail(0, 0);
        x.why(0);
        x.lifts(0, 5);
        x.trainsUntil(1, 1, 1);
        x.bestRow(3, 5, 0);
        x.minutesLeft();
        Due.is(x.count(13), 0);
    }

    private static void oldestIsDiscarded() {
        BallastTrack x = new BallastTrack();
        for (int level = 1; level <= 9; level++) {
            x.setLevel(0, level);
            Due.is(x.count(13), Math.min(level, 6));
        }
        for (int left = 5; left >= 3; left--) {
            Due.is(x.undo(), left);
            Due.is(x.sleeper(0, 0), left + 3);
        }
        for (int level = 20; level < 25; level++) {
            x.setLevel(0, level);
        }
        Due.is(x.count(13), 6);
        int[] due = {23, 22, 21, 20, 6, 5};
        for (int i = 0; i < 6; i++) {
            Due.is(x.undo(), 5 - i);
            Due.is(x.sleeper(0, 0), due[i]);
        }
        Due.is(x.undo(), ILLEGAL);
        Due.is(x.sleeper(0, 0), 5);
    }
}
