import java.util.ArrayDeque;
import java.util.Deque;
import java.util.Random;
import java.util.function.Consumer;

/** Edges of undo and images, and of promises 13 to 15. */
public final class ImagesEdgesTest {
    private static final int INVALID = BallastTrack.INVALID_ARGUMENT;
    private static final int ILLEGAL = BallastTrack.ILLEGAL_STATE;

    public static void main(String[] args) {
        imageOfKeep();
        keepInPlace();
        keepAnswersTheTrains();
        keepRefuses();
        imageOfBack();
        backBringsNumbersJobsAndAccounts();
        imageStays();
        backAnswersTheTrains();
        backRefuses();
        backOfNothing();
        undoRestoresTheLast();
        undoAnswersHowManyAreLeft();
        undoOfNothing();
        twoImages();
        whatIsNoneOfTheState();
        eachCallSaves();
        callsThatChangeNothingSave();
        otherCallsSaveNothing();
        seventhState();
        statesGoRound();
        undoOfBeginAndBack();
        Due.end();
    }

    // ---- promise 13

    private static void imageOfKeep() {
        Due.sentence(13, "`image`: 0 or 1");
        BallastTrack x = new BallastTrack();
        Due.refusesOutside(0, 1, x::keep);
        Due.is(x.count(14), 0);
        Due.is(x.keep(0), 0);
        Due.is(x.count(14), 1);
        Due.is(x.keep(1), 0);
        Due.is(x.count(14), 3);
    }

    private static void keepInPlace() {
        Due.sentence(13, "Keeps the state in an image, in place of what it kept.");
        BallastTrack x = new BallastTrack();
        for (int level = 1; level <= 5; level++) {
            x.setLevel(0, level);
            x.keep(0);
            if (level == 2) {
                x.keep(1);
            }
        }
        x.setLevel(0, 100);
        Due.is(x.back(0), 0);
        Due.is(x.sleeper(0, 0), 5);
        Due.is(x.back(1), 0);
        Due.is(x.sleeper(0, 0), 2);
        Due.is(x.keep(0), 0);
        x.setLevel(0, 7);
        x.back(0);
        Due.is(x.sleeper(0, 0), 2);
    }

    private static void keepAnswersTheTrains() {
        Due.sentence(13, "Returns the number of trains in it;");
        BallastTrack x = new BallastTrack();
        Due.is(x.keep(0), 0);
        x.trains(1, 1, 50);
        Due.is(x.keep(0), 50);
        x.trains(1, 1, 1);
        Due.is(x.keep(1), 51);
        x.undo();
        Due.is(x.keep(1), 50);
        x.begin(10);
        Due.is(x.keep(1), 0);
    }

    private static void keepRefuses() {
        Due.sentence(13, "INVALID_ARGUMENT if there is no such image.");
        BallastTrack x = new BallastTrack();
        x.setLevel(0, 5);
        x.keep(0);
        x.setLevel(0, 6);
        Due.is(x.keep(-1), INVALID);
        Due.is(x.keep(2), INVALID);
        Due.is(x.count(14), 1);
        x.back(0);
        Due.is(x.sleeper(0, 0), 5);
    }

    // ---- promise 14

    private static void imageOfBack() {
        Due.sentence(14, "`image`: 0 or 1");
        BallastTrack x = new BallastTrack();
        Due.refusesOutside(0, 1, x::back);
        x.keep(0);
        x.keep(1);
        Due.refusesOutside(0, 1, x::back);
        Due.is(x.back(0), 0);
        Due.is(x.back(1), 0);
        Due.is(x.count(13), 2);
    }

    private static void backBringsNumbersJobsAndAccounts() {
        Due.sentence(14, "Makes the state that an image keeps the present one (with its n, numbers, jobs and accounts).");
        BallastTrack x = Tracks.ofSleepers(12);
        Due.is(Due.loaded(x, "b0-11=30;f11=9;"), 2);
        int[] numbers = {20, 50, 1, 30, 50, 90, 100, 6};
        for (int what = 0; what < 8; what++) {
            x.setNumber(what, numbers[what]);
        }
        x.addJob(3, 5, 80);
        x.addJob(11, 11, 7);
        Due.is(x.work(3), 1);
        Due.is(x.trains(200, 20, 1), 1);
        int[] accounts = new int[7];
        for (int what = 0; what < 7; what++) {
            accounts[what] = x.account(what);
        }
        Due.is(x.keep(1), 1);
        x.begin(60);
        for (int what = 7; what >= 0; what--) {
            x.setNumber(what, new int[] {1, 0, 5, 1, 2, 3, 500, 50}[what]);
        }
        x.setLevel(59, -1);
        x.trains(1, 1, 9);
        Due.is(x.back(1), 1);
        Due.is(x.count(0), 12);
        for (int what = 0; what < 8; what++) {
            Due.is(x.count(what + 1), numbers[what]);
        }
        Due.is(x.count(9), 2);
        Due.is(x.job(0, 2), 80);
        Due.is(x.job(0, 3), 4);
        Due.is(x.job(1, 0), 11);
        for (int what = 0; what < 7; what++) {
            Due.is(x.account(what), accounts[what]);
        }
        Due.is(x.sleeper(3, 9), 50);
        // The peak of 50 at sleeper 3 was order 1.
        Due.is(x.sleeper(3, 8), 14);
        Due.is(x.sleeper(3, 0), 66);
        Due.is(x.sleeper(11, 1), 9);
        Due.is(x.sleeper(12, 0), INVALID);
        Due.is(x.work(8), 2);
        Due.is(x.sleeper(5, 0), 80);
    }

    private static void imageStays() {
        Due.sentence(14, "The image stays.");
        BallastTrack x = new BallastTrack();
        x.addJob(0, 39, 50);
        x.setLevel(0, 5);
        x.keep(0);
        for (int time = 0; time < 4; time++) {
            Due.is(x.work(90), 30);
            Due.is(x.trains(200, 30, 1), 1);
            x.setNumber(0, 20 - time);
            x.renew(0, 39);
            x.cancelJobs(39);
            Due.is(x.back(0), 0);
            Due.is(x.count(14), 1);
            Due.is(x.count(1), 4);
            Due.is(x.job(0, 3), 0);
            Due.is(x.sleeper(0, 0), 5);
            Due.is(x.sleeper(7, 9), 0);
            Due.is(x.sleeper(7, 8), 0);
            Due.is(x.sleeper(7, 1), 0);
            Due.is(x.account(0), 0);
            Due.is(x.account(6), 5);
        }
    }

    private static void backAnswersTheTrains() {
        Due.sentence(14, "Returns the number of trains then;");
        BallastTrack x = new BallastTrack();
        x.trains(1, 1, 7);
        x.keep(0);
        x.begin(10);
        x.keep(1);
        x.trains(1, 1, 30);
        Due.is(x.back(0), 7);
        Due.is(x.back(1), 0);
        Due.is(x.back(0), 7);
        Due.is(x.account(4), 7);
    }

    private static void backRefuses() {
        Due.sentence(14, "INVALID_ARGUMENT if there is no such image;");
        BallastTrack x = new BallastTrack();
        Due.is(x.back(-1), INVALID);
        Due.is(x.back(2), INVALID);
        x.keep(0);
        x.keep(1);
        Due.is(x.back(-1), INVALID);
        Due.is(x.back(2), INVALID);
        Due.is(x.count(13), 0);
    }

    private static void backOfNothing() {
        Due.sentence(14, "ILLEGAL_STATE if it keeps nothing.");
        BallastTrack x = new BallastTrack();
        x.setLevel(0, 9);
        Due.is(x.back(0), ILLEGAL);
        Due.is(x.back(1), ILLEGAL);
        x.keep(0);
        Due.is(x.back(1), ILLEGAL);
        Due.is(x.count(13), 1);
        Due.is(x.sleeper(0, 0), 9);
        BallastTrack y = new BallastTrack();
        y.keep(1);
        Due.is(y.back(0), ILLEGAL);
        Due.is(y.back(1), 0);
    }

    // ---- promise 15

    private static void undoRestoresTheLast() {
        Due.sentence(15, "Restores the most recently saved state and discards it.");
        BallastTrack x = new BallastTrack();
        x.setLevel(0, 1);
        x.setLevel(0, 2);
        x.setLevel(1, 3);
        Due.is(x.undo(), 2);
        Due.is(x.sleeper(0, 0), 2);
        Due.is(x.sleeper(1, 0), 0);
        x.setLevel(1, 4);
        Due.is(x.undo(), 2);
        Due.is(x.sleeper(1, 0), 0);
        Due.is(x.undo(), 1);
        Due.is(x.sleeper(0, 0), 1);
        // undo() itself saves nothing that another undo() could bring back.
        Due.is(x.undo(), 0);
        Due.is(x.sleeper(0, 0), 0);
        Due.is(x.undo(), ILLEGAL);
        Due.is(x.account(6), 0);
    }

    private static void undoAnswersHowManyAreLeft() {
        Due.sentence(15, "Returns the number of states that are still saved;");
        for (int saved = 0; saved <= 9; saved++) {
            BallastTrack x = new BallastTrack();
            for (int time = 0; time < saved; time++) {
                x.setLevel(0, time + 1);
            }
            for (int left = Math.min(saved, 6) - 1; left >= 0; left--) {
                Due.is(x.undo(), left);
                Due.is(x.count(13), left);
            }
            Due.is(x.undo(), ILLEGAL);
        }
    }

    private static void undoOfNothing() {
        Due.sentence(15, "ILLEGAL_STATE if there is none.");
        BallastTrack x = new BallastTrack();
        Due.is(x.undo(), ILLEGAL);
        x.keep(0);
        x.appendCharacter('b');
        Due.is(x.undo(), ILLEGAL);
        x.clearText();
        Due.is(x.undo(), ILLEGAL);
        x.setLevel(0, 10000);
        Due.is(x.undo(), ILLEGAL);
        x.setLevel(0, 1);
        Due.is(x.undo(), 0);
        Due.is(x.undo(), ILLEGAL);
        Due.is(x.sleeper(0, 0), 0);
    }

    // ---- undo and images

    private static void twoImages() {
        Due.sentence(0, "There are 2 images, empty at first;");
        BallastTrack x = new BallastTrack();
        Due.is(x.count(14), 0);
        Due.is(x.back(0), ILLEGAL);
        Due.is(x.back(1), ILLEGAL);
        x.setLevel(5, 1);
        x.keep(0);
        x.setLevel(5, 2);
        x.keep(1);
        Due.is(x.keep(2), INVALID);
        x.setLevel(5, 3);
        Due.is(x.back(0), 0);
        Due.is(x.sleeper(5, 0), 1);
        Due.is(x.back(1), 0);
        Due.is(x.sleeper(5, 0), 2);
    }

    private static void whatIsNoneOfTheState() {
        Due.sentence(0, "an image keeps a state that is everything but the text, the images and the saved states.");
        BallastTrack x = new BallastTrack();
        Due.type(x, "b3=");
        x.setLevel(3, 1);
        x.keep(0);
        Due.type(x, "9;");
        x.setLevel(3, 2);
        x.keep(1);
        Due.is(x.back(0), 0);
        Due.is(x.count(12), 5);
        Due.is(x.count(13), 3);
        Due.is(x.count(14), 3);
        Due.is(x.undo(), 2);
        Due.is(x.undo(), 1);
        Due.is(x.count(12), 5);
        Due.is(x.count(14), 3);
        Due.is(x.sleeper(3, 0), 1);
        Due.is(x.undo(), 0);
        Due.is(x.back(1), 0);
        Due.is(x.sleeper(3, 0), 2);
        Due.is(x.load(), 1);
        Due.is(x.sleeper(3, 0), 9);
        Due.is(x.undo(), 1);
        Due.is(x.sleeper(3, 0), 2);
        Due.is(x.count(12), 0);
    }

    private static void dueSaved(BallastTrack x, int saved, Consumer<BallastTrack> call) {
        int before = x.sleeper(9, 0);
        int jobs = x.count(9);
        int numbers = x.count(1);
        int accounts = x.account(4);
        Due.is(x.count(13), saved);
        call.accept(x);
        Due.is(x.count(13), saved + 1);
        Due.is(x.undo(), saved);
        Due.is(x.sleeper(9, 0), before);
        Due.is(x.count(9), jobs);
        Due.is(x.count(1), numbers);
        Due.is(x.account(4), accounts);
    }

    private static void eachCallSaves() {
        Due.sentence(0, "Every successful call of begin(), setNumber(), setLevel(), load(), renew(), addJob(), cancelJobs(), "
            + "work(), trains() and back() saves the state that preceded it.");
        BallastTrack x = new BallastTrack();
        x.keep(0);
        x.addJob(9, 9, 50);
        x.setLevel(9, 4);
        dueSaved(x, 2, y -> Due.is(y.begin(10), 40));
        dueSaved(x, 2, y -> Due.is(y.setNumber(0, 20), 4));
        dueSaved(x, 2, y -> Due.is(y.setLevel(9, -9999), 4));
        dueSaved(x, 2, y -> Due.is(Due.loaded(y, "b9=0;"), 1));
        dueSaved(x, 2, y -> Due.is(y.renew(9, 9), 0));
        dueSaved(x, 2, y -> Due.is(y.addJob(9, 9, 0), 2));
        dueSaved(x, 2, y -> Due.is(y.cancelJobs(9), 1));
        dueSaved(x, 2, y -> Due.is(y.work(600), 1));
        dueSaved(x, 2, y -> Due.is(y.trains(200, 30, 50), 50));
        dueSaved(x, 2, y -> Due.is(y.back(0), 0));
    }

    private static void callsThatChangeNothingSave() {
        Due.sentence(0, "Every successful call");
        BallastTrack x = new BallastTrack();
        x.keep(1);
        dueSaved(x, 0, y -> Due.is(y.begin(40), 40));
        dueSaved(x, 0, y -> Due.is(y.setNumber(0, 4), 4));
        dueSaved(x, 0, y -> Due.is(y.setLevel(9, 0), 0));
        dueSaved(x, 0, y -> Due.is(y.load(), 0));
        dueSaved(x, 0, y -> Due.is(Due.loaded(y, "b9=0;"), 1));
        dueSaved(x, 0, y -> Due.is(y.renew(0, 39), 0));
        dueSaved(x, 0, y -> Due.is(y.cancelJobs(9), 0));
        dueSaved(x, 0, y -> Due.is(y.back(1), 0));
        x.addJob(9, 9, 50);
        dueSaved(x, 1, y -> Due.is(y.work(1), 0));
    }

    private static void otherCallsSaveNothing() {
        Due.sentence(0, "begin(), setNumber(), setLevel(), load(), renew(), addJob(), cancelJobs(), work(), trains() and back()");
        BallastTrack x = new BallastTrack();
        x.setLevel(0, 5);
        Due.is(x.appendCharacter('b'), 1);
        Due.is(x.clearText(), 1);
        Due.is(x.keep(0), 0);
        Due.is(x.keep(1), 0);
        Due.is(x.count(10), 0);
        Due.is(x.sleeper(0, 3), 0);
        Due.is(x.job(0, 0), BallastTrack.NONE);
        Due.is(x.account(6), 5);
        Due.is(x.rail(0, 0), 5);
        Due.is(x.why(0), BallastTrack.NONE);
        Due.is(x.lifts(0, 10), 0);
        Due.is(x.trainsUntil(1, 1, 1), BallastTrack.NONE);
        Due.is(x.bestRow(1, 0, 0), 0);
        Due.is(x.minutesLeft(), 0);
        Due.is(x.count(13), 1);
        Due.is(x.undo(), 0);
        Due.is(x.sleeper(0, 0), 0);
    }

    private static void seventhState() {
        Due.sentence(0, "At most 6 states are saved;");
        Due.sentence(0, "when a seventh is saved, the oldest one is discarded.");
        Due.sentence(0, "undo() restores the most recently saved state and discards it.");
        for (int calls : new int[] {5, 6, 7, 8, 12, 13, 30}) {
            BallastTrack x = new BallastTrack();
            for (int call = 1; call <= calls; call++) {
                x.setLevel(0, call);
                Due.is(x.count(13), Math.min(call, 6));
            }
            int saved = Math.min(calls, 6);
            for (int time = 1; time <= saved; time++) {
                Due.is(x.undo(), saved - time);
                Due.is(x.sleeper(0, 0), calls - time);
            }
            Due.is(x.undo(), ILLEGAL);
            Due.is(x.sleeper(0, 0), calls - saved);
        }
    }

    /** Saving and undoing go round the six places in all ways. */
    private static void statesGoRound() {
        Due.sentence(0, "At most 6 states are saved");
        for (int run = 0; run < 30; run++) {
            Random dice = new Random(run);
            BallastTrack x = new BallastTrack();
            Deque<Integer> saved = new ArrayDeque<>();
            int level = 0;
            for (int call = 1; call <= 150; call++) {
                if (dice.nextInt(10) < 3 + run % 4) {
                    Due.is(x.undo(), saved.isEmpty() ? ILLEGAL : saved.size() - 1);
                    level = saved.isEmpty() ? level : saved.removeLast();
                } else {
                    Due.is(x.setLevel(0, call), level);
                    saved.addLast(level);
                    level = call;
                    if (saved.size() > 6) {
                        saved.removeFirst();
                    }
                }
                Due.is(x.count(13), saved.size());
                Due.is(x.sleeper(0, 0), level);
            }
        }
    }

    private static void undoOfBeginAndBack() {
        Due.sentence(0, "saves the state that preceded it.");
        BallastTrack x = Tracks.ofSleepers(50);
        x.setLevel(49, 8);
        x.addJob(49, 49, 90);
        x.keep(0);
        x.begin(10);
        x.setNumber(0, 20);
        Due.is(x.back(0), 0);
        Due.is(x.count(0), 50);
        Due.is(x.undo(), 5);
        Due.is(x.count(0), 10);
        Due.is(x.count(1), 20);
        Due.is(x.count(9), 0);
        Due.is(x.sleeper(49, 0), INVALID);
        Due.is(x.undo(), 4);
        Due.is(x.count(1), 4);
        Due.is(x.undo(), 3);
        Due.is(x.count(0), 50);
        Due.is(x.sleeper(49, 0), 8);
        Due.is(x.job(0, 2), 90);
        Due.is(x.account(6), 8);
    }
}
