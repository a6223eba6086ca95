/** Promises 9 to 11, 18, 22 and 25: addJob, cancelJobs, work, job, lifts, minutesLeft. */
public final class JobsTest {
    private static final int INVALID = BallastTrack.INVALID_ARGUMENT;

    public static void main(String[] args) {
        addJob();
        cancelJobs();
        cancelJobsOfSeveral();
        workRefuses();
        workLifts();
        workStopsAheadOfASleeper();
        workPassesOverWithoutTime();
        workLiftsOnceInAJob();
        workFouls();
        minutesOfLifts();
        job();
        lifts();
        minutesLeft();
        Due.end();
    }

    private static void addJob() {
        BallastTrack x = new BallastTrack();
        Due.is(x.addJob(-1, 0, 0), INVALID);
        Due.is(x.addJob(0, 40, 0), INVALID);
        Due.is(x.addJob(40, 40, 0), INVALID);
        Due.is(x.addJob(3, 2, 0), INVALID);
        Due.is(x.addJob(0, 0, -10000), INVALID);
        Due.is(x.addJob(0, 0, 10000), INVALID);
        Due.is(x.count(13), 0);
        for (int job = 0; job < 6; job++) {
            Due.is(x.addJob(job, 39, job % 2 == 0 ? 9999 : -9999), job + 1);
        }
        Due.is(x.addJob(0, 0, 0), BallastTrack.CAPACITY_EXCEEDED);
        Due.is(x.addJob(3, 2, 0), INVALID);
        Due.is(x.count(9), 6);
        Due.is(x.count(13), 6);
        Due.is(x.undo(), 5);
        Due.is(x.count(9), 5);
        Due.is(x.job(4, 0), 4);
    }

    private static void cancelJobs() {
        BallastTrack x = new BallastTrack();
        Due.is(x.cancelJobs(-1), INVALID);
        Due.is(x.cancelJobs(40), INVALID);
        Due.is(x.count(13), 0);
        Due.is(x.cancelJobs(0), 0);
        Due.is(x.count(13), 1);
        x.addJob(5, 9, 50);
        Due.is(x.cancelJobs(4), 0);
        Due.is(x.cancelJobs(10), 0);
        Due.is(x.work(6), 2);
        Due.is(x.cancelJobs(5), 0);
        Due.is(x.cancelJobs(6), 0);
        Due.is(x.count(9), 1);
        Due.is(x.cancelJobs(7), 1);
        Due.is(x.count(9), 0);
        Due.is(x.undo(), 5);
        Due.is(x.job(0, 3), 7);
        Due.is(x.cancelJobs(9), 1);
    }

    private static void cancelJobsOfSeveral() {
        BallastTrack x = new BallastTrack();
        x.addJob(0, 5, 1);
        x.addJob(6, 9, 2);
        x.addJob(5, 6, 3);
        x.addJob(7, 7, 4);
        x.addJob(5, 5, 5);
        x.addJob(30, 39, 6);
        Due.is(x.cancelJobs(5), 3);
        int[][] due = {{6, 9, 2, 6}, {7, 7, 4, 7}, {30, 39, 6, 30}};
        for (int job = 0; job < 3; job++) {
            for (int what = 0; what < 4; what++) {
                Due.is(x.job(job, what), due[job][what]);
            }
        }
        Due.is(x.job(3, 0), BallastTrack.NONE);
    }

    private static void workRefuses() {
        BallastTrack x = new BallastTrack();
        Due.is(x.work(0), INVALID);
        Due.is(x.work(601), INVALID);
        Due.is(x.work(1), BallastTrack.ILLEGAL_STATE);
        Due.is(x.work(600), BallastTrack.ILLEGAL_STATE);
        Due.is(x.count(13), 0);
        x.addJob(0, 0, 10);
        Due.is(x.work(0), INVALID);
        Due.is(x.work(601), INVALID);
        Due.is(x.work(600), 1);
        Due.is(x.work(1), BallastTrack.ILLEGAL_STATE);
    }

    private static void workLifts() {
        BallastTrack x = new BallastTrack();
        x.setLevel(2, -300);
        x.addJob(1, 3, 60);
        Due.is(x.work(600), 3);
        Due.is(x.sleeper(0, 0), 0);
        Due.is(x.sleeper(1, 0), 60);
        Due.is(x.sleeper(2, 0), -100);
        Due.is(x.sleeper(3, 0), 60);
        Due.is(x.sleeper(4, 0), 0);
        Due.is(x.sleeper(1, 9), 60);
        Due.is(x.sleeper(2, 9), 200);
        Due.is(x.sleeper(2, 8), 0);
        Due.is(x.account(1), 320);
        Due.is(x.account(3), 14);
        Due.is(x.account(6), -300);
        Due.is(x.count(9), 0);
        Due.is(x.undo(), 2);
        Due.is(x.sleeper(2, 9), 0);
        Due.is(x.account(3), 0);
        Due.is(x.job(0, 3), 1);
    }

    private static void workStopsAheadOfASleeper() {
        BallastTrack x = new BallastTrack();
        x.addJob(0, 2, 100);
        Due.is(x.work(7), 1);
        Due.is(x.account(3), 4);
        Due.is(x.job(0, 3), 1);
        Due.is(x.work(3), 0);
        Due.is(x.account(3), 4);
        Due.is(x.count(13), 3);
        x.setLevel(1, 70);
        Due.is(x.work(3), 1);
        Due.is(x.sleeper(1, 0), 100);
        Due.is(x.account(3), 7);
        Due.is(x.work(4), 1);
        Due.is(x.count(9), 0);
    }

    private static void workPassesOverWithoutTime() {
        BallastTrack x = new BallastTrack();
        Due.is(Due.loaded(x, "b1-3=46;b5=45;b6=46;b7=100;"), 4);
        x.addJob(0, 3, 50);
        x.addJob(6, 7, 50);
        x.addJob(4, 6, 50);
        x.addJob(0, 0, -9999);
        Due.is(x.work(3), 1);
        Due.is(x.count(9), 2);
        Due.is(x.job(0, 0), 4);
        Due.is(x.job(0, 3), 4);
        Due.is(x.work(2), 0);
        Due.is(x.work(6), 2);
        Due.is(x.sleeper(5, 0), 50);
        Due.is(x.sleeper(6, 0), 46);
        Due.is(x.sleeper(6, 1), 0);
        Due.is(x.count(9), 0);
        Due.is(x.account(3), 9);
    }

    private static void workLiftsOnceInAJob() {
        BallastTrack x = new BallastTrack();
        x.setNumber(6, 10);
        x.addJob(0, 0, 25);
        x.addJob(0, 0, 25);
        x.addJob(0, 0, 25);
        Due.is(x.minutesLeft(), 9);
        Due.is(x.work(3), 1);
        Due.is(x.sleeper(0, 0), 10);
        Due.is(x.count(9), 2);
        Due.is(x.work(600), 2);
        Due.is(x.sleeper(0, 0), 25);
        Due.is(x.sleeper(0, 9), 25);
        Due.is(x.account(3), 9);
    }

    private static void workFouls() {
        BallastTrack x = new BallastTrack();
        Due.is(Due.loaded(x, "f0=96;f1=97;f2=98;f3=100;"), 4);
        x.addJob(0, 4, 10);
        Due.is(x.work(600), 5);
        int[] due = {99, 100, 100, 100, 3, 0};
        for (int sleeper = 0; sleeper < due.length; sleeper++) {
            Due.is(x.sleeper(sleeper, 1), due[sleeper]);
        }
    }

    private static void minutesOfLifts() {
        int[] lifts = {1, 49, 50, 51, 100, 101, 499, 500};
        int[] minutes = {3, 3, 3, 4, 4, 5, 12, 12};
        for (int i = 0; i < lifts.length; i++) {
            BallastTrack x = new BallastTrack();
            x.setNumber(6, 500);
            x.setNumber(7, 1);
            x.addJob(0, 0, lifts[i]);
            Due.is(x.minutesLeft(), minutes[i]);
            Due.is(x.work(minutes[i] - 1), 0);
            Due.is(x.work(minutes[i]), 1);
            Due.is(x.account(3), minutes[i]);
            Due.is(x.sleeper(0, 0), lifts[i]);
        }
    }

    private static void job() {
        BallastTrack x = new BallastTrack();
        Due.is(x.job(-1, 0), INVALID);
        Due.is(x.job(0, -1), INVALID);
        Due.is(x.job(0, 4), INVALID);
        Due.is(x.job(0, 0), BallastTrack.NONE);
        Due.is(x.job(Integer.MAX_VALUE, 3), BallastTrack.NONE);
        Due.is(x.job(Integer.MAX_VALUE, 4), INVALID);
        x.addJob(3, 8, -70);
        x.addJob(0, 39, 80);
        int[][] due = {{3, 8, -70, 3}, {0, 39, 80, 0}};
        for (int job = 0; job < 2; job++) {
            for (int what = 0; what < 4; what++) {
                Due.is(x.job(job, what), due[job][what]);
            }
        }
        Due.is(x.job(2, 0), BallastTrack.NONE);
        Due.is(x.job(-1, 0), INVALID);
        Due.is(x.job(1, 4), INVALID);
        Due.is(x.work(4), 1);
        Due.is(x.job(0, 3), 1);
        Due.is(x.job(0, 0), 0);
    }

    private static void lifts() {
        BallastTrack x = new BallastTrack();
        Due.is(x.lifts(-1, 0), INVALID);
        Due.is(x.lifts(40, 0), INVALID);
        Due.is(x.lifts(0, -10000), INVALID);
        Due.is(x.lifts(0, 10000), INVALID);
        x.setLevel(1, -9999);
        Due.is(x.lifts(0, 0), 2);
        Due.is(x.lifts(0, 1), 3);
        Due.is(x.lifts(0, -9999), 2);
        Due.is(x.lifts(0, 4), 3);
        Due.is(x.lifts(0, 5), 0);
        Due.is(x.lifts(0, 200), 0);
        Due.is(x.lifts(0, 201), 1);
        Due.is(x.lifts(1, -9999), 2);
        Due.is(x.lifts(1, 9999), 1);
        x.setNumber(6, 10);
        x.setNumber(7, 11);
        Due.is(x.lifts(0, 5), 3);
        Due.is(x.lifts(0, 9999), 3);
        Due.is(x.lifts(0, -1), 2);
        x.setNumber(7, 10);
        Due.is(x.lifts(0, 10), 0);
        Due.is(x.lifts(0, 11), 1);
        Due.is(x.count(13), 4);
    }

    private static void minutesLeft() {
        BallastTrack x = new BallastTrack();
        Due.is(x.minutesLeft(), 0);
        x.begin(60);
        x.setNumber(6, 500);
        x.setLevel(0, -9999);
        for (int job = 0; job < 6; job++) {
            x.addJob(0, 59, 9999);
        }
        Due.is(x.minutesLeft(), 4320);
        Due.is(x.count(9), 6);
        Due.is(x.account(3), 0);
        Due.is(x.work(600), 50);
        Due.is(x.minutesLeft(), 3720);
        Due.is(x.count(13), 6);
        x.begin(10);
        x.addJob(0, 9, -9999);
        Due.is(x.minutesLeft(), 0);
        Due.is(x.count(9), 1);
        x.addJob(2, 4, 50);
        x.addJob(3, 5, 100);
        Due.is(x.minutesLeft(), 9 + 3 + 3 + 4);
    }
}
