/** Edges of promise 24. */
public final class BestRowEdgesTest {
    private static final int INVALID = BallastTrack.INVALID_ARGUMENT;

    public static void main(String[] args) {
        length();
        lengthOfAShortTrack();
        target();
        what();
        ofSeveralTheSmallestNumber();
        rowsAtTheEnds();
        voidsOfAllSleepers();
        allTheTime();
        jobsPlayNoPart();
        liftsAsTheMachineWould();
        refuses();
        Due.end();
    }

    private static void length() {
        Due.sentence(24, "`length`: 1 to 20, at most n");
        for (int n : new int[] {20, 21, 40, 60}) {
            BallastTrack x = Tracks.ofSleepers(n);
            Due.refusesOutside(1, 20, length -> x.bestRow(length, 0, 0));
            x.setLevel(n - 1, -50);
            Due.is(x.bestRow(1, 0, 0), n - 1);
            Due.is(x.bestRow(20, 0, 0), n - 20);
        }
    }

    private static void lengthOfAShortTrack() {
        Due.sentence(24, "at most n");
        for (int n = 10; n < 20; n++) {
            BallastTrack x = Tracks.ofSleepers(n);
            Due.refusesOutside(1, n, length -> x.bestRow(length, 0, 1));
            Due.is(x.bestRow(20, 0, 0), INVALID);
            x.setLevel(n - 1, -50);
            x.setLevel(0, -50);
            Due.is(x.bestRow(n, 0, 0), 0);
            Due.is(x.bestRow(n, 0, 1), 0);
            Due.is(x.bestRow(n - 1, 0, 0), 0);
            Due.is(x.bestRow(n - 1, 0, 1), 46);
        }
    }

    private static void target() {
        Due.sentence(24, "`target`: -9999 to 9999");
        BallastTrack x = Tracks.ofSleepers(10);
        Due.refusesOutside(-9999, 9999, target -> x.bestRow(1, target, 0));
        x.setLevel(4, -30);
        Due.is(x.bestRow(1, -9999, 0), 0);
        Due.is(x.bestRow(1, -9999, 1), 26);
        Due.is(x.bestRow(10, 9999, 0), 0);
        Due.is(x.bestRow(10, 9999, 1), 26);
        x.setNumber(6, 500);
        Due.is(Due.loaded(x, "b0-9=9999;b4=9949;"), 2);
        Due.is(x.bestRow(1, 9999, 0), 4);
        Due.is(x.bestRow(1, 9999, 1), 0);
    }

    private static void what() {
        Due.sentence(24, "`what`: 0 the first sleeper of the row, of several the one with the smallest number, "
            + "1 the sum of voids then");
        Due.sentence(24, "Returns the number;");
        BallastTrack x = Tracks.ofSleepers(10);
        x.setLevel(3, -40);
        x.setLevel(7, -30);
        Due.refusesOutside(0, 1, what -> x.bestRow(2, 0, what));
        Due.is(x.bestRow(2, 0, 0), 2);
        Due.is(x.bestRow(2, 0, 1), 26);
        Due.is(x.bestRow(5, 0, 0), 3);
        Due.is(x.bestRow(5, 0, 1), 0);
    }

    private static void ofSeveralTheSmallestNumber() {
        Due.sentence(24, "of several the one with the smallest number");
        BallastTrack x = Tracks.ofSleepers(60);
        Due.is(x.bestRow(1, 0, 0), 0);
        Due.is(x.bestRow(20, 0, 0), 0);
        x.setLevel(30, -20);
        Due.is(x.bestRow(5, 0, 0), 26);
        x.setLevel(50, -20);
        Due.is(x.bestRow(5, 0, 0), 26);
        x.setLevel(50, -21);
        Due.is(x.bestRow(5, 0, 0), 46);
    }

    private static void rowsAtTheEnds() {
        Due.sentence(24, "Finds a row of sleepers");
        for (int n : new int[] {10, 60}) {
            for (int length : new int[] {1, 2, 10}) {
                BallastTrack x = Tracks.ofSleepers(n);
                x.setLevel(n - 1, -60);
                Due.is(x.bestRow(length, 0, 0), n - length);
                Due.is(x.bestRow(length, 0, 1), 0);
                x.setLevel(n - 1, 0);
                x.setLevel(0, -60);
                Due.is(x.bestRow(length, 0, 0), 0);
                Due.is(x.bestRow(length, 0, 1), 0);
            }
        }
    }

    /** A lift by more than k takes the rail off the neighbors: their voids count, too. */
    private static void voidsOfAllSleepers() {
        Due.sentence(24, "with which a job to a target would leave the smallest sum of voids of all sleepers");
        BallastTrack x = Tracks.ofSleepers(10);
        Due.is(x.bestRow(1, 12, 0), 0);
        Due.is(x.bestRow(1, 12, 1), 8 + 4);
        Due.is(x.bestRow(9, 12, 0), 0);
        Due.is(x.bestRow(9, 12, 1), 8);
        Due.is(x.bestRow(10, 12, 1), 0);
        x.setLevel(5, -9);
        // Any other row would leave its void of 5 besides.
        Due.is(x.bestRow(1, 3, 0), 5);
        Due.is(x.bestRow(1, 3, 1), 0);
        x.setLevel(5, 9999);
        Due.is(x.bestRow(1, 0, 0), 0);
        Due.is(x.bestRow(1, 0, 1), 9 * 9999 - 4 * (5 + 4 + 3 + 2 + 1 + 1 + 2 + 3 + 4));
    }

    private static void allTheTime() {
        Due.sentence(24, "if the machine had all the time");
        BallastTrack x = Tracks.ofSleepers(60);
        x.setNumber(6, 500);
        Due.is(Due.loaded(x, "b20-39=-500;"), 1);
        Due.is(x.bestRow(20, 0, 0), 20);
        Due.is(x.bestRow(20, 0, 1), 0);
        Due.is(x.account(3), 0);
        Due.is(x.sleeper(20, 0), -500);
        Due.is(x.sleeper(20, 1), 0);
        Due.is(x.count(13), 3);
    }

    private static void jobsPlayNoPart() {
        Due.sentence(24, "(jobs that there are play no part)");
        BallastTrack x = Tracks.ofSleepers(10);
        x.setLevel(3, -40);
        x.setLevel(7, -30);
        for (int job = 0; job < 6; job++) {
            x.addJob(3, 3, 0);
        }
        Due.is(x.bestRow(1, 0, 0), 3);
        Due.is(x.bestRow(1, 0, 1), 26);
        Due.is(x.count(9), 6);
        x.cancelJobs(3);
        x.addJob(0, 9, 0);
        Due.is(x.work(3), 1);
        Due.is(x.job(0, 3), 7);
        Due.is(x.bestRow(1, 0, 0), 7);
        Due.is(x.bestRow(1, 0, 1), 0);
        Due.is(x.job(0, 3), 7);
    }

    private static void liftsAsTheMachineWould() {
        Due.sentence(24, "a job to a target would leave");
        BallastTrack x = Tracks.ofSleepers(10);
        x.setLevel(3, -12);
        x.setLevel(7, -40);
        x.setNumber(6, 10);
        Due.is(x.bestRow(1, 0, 0), 7);
        Due.is(x.bestRow(1, 0, 1), 8 + 26);
        x.setNumber(7, 10);
        Due.is(x.bestRow(1, 0, 0), 7);
        x.setLevel(7, -9);
        Due.is(x.bestRow(1, 0, 0), 3);
        Due.is(x.bestRow(1, 0, 1), 5);
        x.setNumber(7, 11);
        Due.is(x.bestRow(1, 0, 0), 0);
        Due.is(x.bestRow(1, 0, 1), 8 + 5);
    }

    private static void refuses() {
        Due.sentence(24, "INVALID_ARGUMENT if an argument is out of range.");
        BallastTrack x = Tracks.ofSleepers(10);
        Due.is(x.bestRow(0, 0, 0), INVALID);
        Due.is(x.bestRow(11, 0, 0), INVALID);
        Due.is(x.bestRow(-5, 0, 1), INVALID);
        Due.is(x.bestRow(1, 10000, 0), INVALID);
        Due.is(x.bestRow(1, -10000, 1), INVALID);
        Due.is(x.bestRow(1, 0, 2), INVALID);
        Due.is(x.bestRow(1, 0, -1), INVALID);
        Due.is(x.bestRow(11, 10000, 2), INVALID);
    }
}
