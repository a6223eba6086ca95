/** Edges of tamping, and of promises 9 to 11, 18, 22 and 25. */
public final class JobsEdgesTest {
    private static final int INVALID = BallastTrack.INVALID_ARGUMENT;
    private static final int ILLEGAL = BallastTrack.ILLEGAL_STATE;
    private static final int CAPACITY = BallastTrack.CAPACITY_EXCEEDED;
    private static final int NONE = BallastTrack.NONE;

    public static void main(String[] args) {
        addJobFrom();
        addJobTo();
        addJobTarget();
        addJobAnswersTheNumber();
        addJobRefuses();
        addJobToAFullRow();
        cancelSleeper();
        cancelOnTheWayStill();
        cancelOfTheMachinesJob();
        cancelAnswersTheNumber();
        cancelRefuses();
        workMinutes();
        workAnswersTheLifted();
        workRefuses();
        workWithoutJobs();
        jobNumber();
        jobWhat();
        jobRefuses();
        jobsThatAreNotThere();
        atMostSixJobs();
        jobOfOneSleeper();
        ascendingOrder();
        liftIsAtMostM();
        leastLift();
        passedOverWithoutMinutes();
        minutesOfALift();
        onceInAJob();
        foulingOfLifts();
        stopsAhead();
        leftMinutesAreNotUsed();
        doneBehindTheLast();
        nextJob();
        liftsSleeper();
        liftsTarget();
        liftsAnswers();
        liftsRefuses();
        noMinutesLeft();
        minutesOneAfterTheOther();
        Due.end();
    }

    private static void dueJob(BallastTrack x, int job, int first, int last, int target, int next) {
        Due.is(x.job(job, 0), first);
        Due.is(x.job(job, 1), last);
        Due.is(x.job(job, 2), target);
        Due.is(x.job(job, 3), next);
    }

    // ---- promise 9

    private static void addJobFrom() {
        Due.sentence(9, "`from`: a sleeper");
        for (int n : new int[] {10, 60}) {
            BallastTrack x = Tracks.ofSleepers(n);
            Due.refusesOutside(0, n - 1, from -> x.addJob(from, n - 1, 5));
            Due.is(x.addJob(n, n, 5), INVALID);
            Due.is(x.addJob(-1, -1, 5), INVALID);
            Due.is(x.addJob(0, n - 1, 5), 1);
            Due.is(x.addJob(n - 1, n - 1, 5), 2);
            dueJob(x, 0, 0, n - 1, 5, 0);
            dueJob(x, 1, n - 1, n - 1, 5, n - 1);
        }
    }

    private static void addJobTo() {
        Due.sentence(9, "`to`: from or a later sleeper");
        BallastTrack x = Tracks.ofSleepers(10);
        Due.refusesOutside(4, 9, to -> x.addJob(4, to, 5));
        Due.refusesOutside(0, 9, to -> x.addJob(0, to, 5));
        Due.is(x.count(13), 1);
        Due.is(x.addJob(4, 4, 5), 1);
        Due.is(x.addJob(4, 9, 5), 2);
        Due.is(x.addJob(9, 8, 5), INVALID);
        Due.is(x.count(9), 2);
    }

    private static void addJobTarget() {
        Due.sentence(9, "`target`: -9999 to 9999");
        BallastTrack x = new BallastTrack();
        Due.refusesOutside(-9999, 9999, target -> x.addJob(0, 0, target));
        Due.is(x.addJob(0, 0, -9999), 1);
        Due.is(x.addJob(0, 0, 9999), 2);
        dueJob(x, 0, 0, 0, -9999, 0);
        dueJob(x, 1, 0, 0, 9999, 0);
    }

    private static void addJobAnswersTheNumber() {
        Due.sentence(9, "Adds a job behind the others.");
        Due.sentence(9, "Returns the number of jobs then;");
        BallastTrack x = new BallastTrack();
        for (int job = 0; job < 6; job++) {
            Due.is(x.addJob(job, job + 1, job + 10), job + 1);
            dueJob(x, job, job, job + 1, job + 10, job);
            dueJob(x, 0, 0, 1, 10, 0);
        }
        x.cancelJobs(0);
        Due.is(x.addJob(30, 31, 40), 6);
        dueJob(x, 5, 30, 31, 40, 30);
        dueJob(x, 0, 1, 2, 11, 1);
    }

    private static void addJobRefuses() {
        Due.sentence(9, "INVALID_ARGUMENT if an argument is out of range;");
        BallastTrack x = new BallastTrack();
        Due.is(x.addJob(-1, 3, 0), INVALID);
        Due.is(x.addJob(3, 40, 0), INVALID);
        Due.is(x.addJob(3, 2, 0), INVALID);
        Due.is(x.addJob(3, 3, 10000), INVALID);
        Due.is(x.count(9), 0);
        Due.is(x.count(13), 0);
    }

    private static BallastTrack withSixJobs() {
        BallastTrack x = new BallastTrack();
        for (int job = 0; job < 6; job++) {
            Due.is(x.addJob(job, job, 50), job + 1);
        }
        return x;
    }

    private static void addJobToAFullRow() {
        Due.sentence(9, "CAPACITY_EXCEEDED if there are 6 jobs.");
        BallastTrack x = withSixJobs();
        Due.is(x.addJob(20, 21, 0), CAPACITY);
        Due.is(x.addJob(20, 19, 0), INVALID);
        Due.is(x.addJob(20, 40, 0), INVALID);
        Due.is(x.addJob(20, 21, -10000), INVALID);
        Due.is(x.count(9), 6);
        Due.is(x.count(13), 6);
        for (int job = 0; job < 6; job++) {
            dueJob(x, job, job, job, 50, job);
        }
        Due.is(x.undo(), 5);
        Due.is(x.addJob(20, 21, 0), 6);
        Due.is(x.addJob(20, 21, 0), CAPACITY);
        Due.is(x.work(3), 1);
        Due.is(x.addJob(22, 23, 1), 6);
        dueJob(x, 5, 22, 23, 1, 22);
    }

    // ---- promise 10

    private static void cancelSleeper() {
        Due.sentence(10, "`sleeper`: a sleeper");
        for (int n : new int[] {10, 60}) {
            BallastTrack x = Tracks.ofSleepers(n);
            x.addJob(0, n - 1, 5);
            Due.refusesOutside(0, n - 1, x::cancelJobs);
            Due.is(x.count(9), 1);
            Due.is(x.cancelJobs(0), 1);
            x.addJob(0, n - 1, 5);
            Due.is(x.cancelJobs(n - 1), 1);
        }
    }

    private static void cancelOnTheWayStill() {
        Due.sentence(10, "Cancels all jobs on whose way a sleeper lies still: it is one of their sleepers, "
            + "and the machine has neither lifted it nor passed over it in this job.");
        BallastTrack x = new BallastTrack();
        x.setLevel(6, 60);
        x.addJob(5, 8, 50);
        Due.is(x.cancelJobs(4), 0);
        Due.is(x.cancelJobs(9), 0);
        Due.is(x.work(3), 1);
        // Sleeper 5 is lifted and 6 passed over; 7 is the one that the machine stands ahead of.
        dueJob(x, 0, 5, 8, 50, 7);
        Due.is(x.cancelJobs(5), 0);
        Due.is(x.cancelJobs(6), 0);
        Due.is(x.cancelJobs(7), 1);
        x.undo();
        Due.is(x.cancelJobs(8), 1);
        Due.is(x.count(9), 0);
        Due.is(x.cancelJobs(8), 0);
    }

    private static void cancelOfTheMachinesJob() {
        Due.sentence(10, "in this job");
        BallastTrack x = new BallastTrack();
        x.addJob(5, 8, 50);
        x.addJob(4, 6, 90);
        x.addJob(1, 2, 30);
        Due.is(x.work(6), 2);
        // In the second job sleeper 5 has been neither lifted nor passed over.
        Due.is(x.cancelJobs(5), 1);
        dueJob(x, 0, 5, 8, 50, 7);
        dueJob(x, 1, 1, 2, 30, 1);
        Due.is(x.job(2, 0), NONE);
        Due.is(x.cancelJobs(7), 1);
        dueJob(x, 0, 1, 2, 30, 1);
        Due.is(x.work(600), 2);
        Due.is(x.sleeper(7, 0), 0);
        Due.is(x.sleeper(2, 0), 30);
    }

    private static void cancelAnswersTheNumber() {
        Due.sentence(10, "Returns the number of jobs that were cancelled;");
        BallastTrack x = new BallastTrack();
        Due.is(x.cancelJobs(0), 0);
        Due.is(x.count(13), 1);
        for (int job = 0; job < 6; job++) {
            x.addJob(job, 10 - job, 50);
        }
        Due.is(x.cancelJobs(5), 6);
        Due.is(x.count(9), 0);
        Due.is(x.work(1), ILLEGAL);
        x.undo();
        Due.is(x.cancelJobs(2), 3);
        dueJob(x, 0, 3, 7, 50, 3);
        dueJob(x, 2, 5, 5, 50, 5);
        Due.is(x.job(3, 0), NONE);
        Due.is(x.cancelJobs(7), 1);
        dueJob(x, 0, 4, 6, 50, 4);
    }

    private static void cancelRefuses() {
        Due.sentence(10, "INVALID_ARGUMENT if there is no such sleeper.");
        BallastTrack x = Tracks.ofSleepers(10);
        x.addJob(0, 9, 50);
        Due.is(x.cancelJobs(10), INVALID);
        Due.is(x.cancelJobs(-1), INVALID);
        Due.is(x.count(9), 1);
        Due.is(x.count(13), 2);
    }

    // ---- promise 11

    private static void workMinutes() {
        Due.sentence(11, "`minutes`: 1 to 600");
        BallastTrack x = new BallastTrack();
        x.addJob(0, 39, 50);
        Due.refusesOutside(1, 600, x::work);
        Due.is(x.account(3), 0);
        Due.is(x.work(1), 0);
        Due.is(x.work(2), 0);
        Due.is(x.work(3), 1);
        Due.is(x.work(600), 39);
        Due.is(x.account(3), 120);
    }

    private static void workAnswersTheLifted() {
        Due.sentence(11, "Lets the machine work.");
        Due.sentence(11, "Returns the number of sleepers that were lifted;");
        BallastTrack x = Tracks.ofSleepers(60);
        for (int job = 1; job <= 6; job++) {
            x.addJob(0, 59, 10 * job);
        }
        // A lift of 10 takes 3 minutes, in each of the jobs.
        Due.is(x.work(600), 200);
        Due.is(x.count(9), 3);
        Due.is(x.job(0, 3), 20);
        Due.is(x.account(3), 600);
        Due.is(x.work(600), 160);
        Due.is(x.account(3), 1080);
        Due.is(x.account(1), 3600);
        x.addJob(0, 59, 64);
        Due.is(x.work(600), 0);
        Due.is(x.count(9), 0);
    }

    private static void workRefuses() {
        Due.sentence(11, "INVALID_ARGUMENT if minutes is out of range;");
        BallastTrack x = new BallastTrack();
        Due.is(x.work(0), INVALID);
        Due.is(x.work(601), INVALID);
        x.addJob(0, 0, 50);
        Due.is(x.work(0), INVALID);
        Due.is(x.work(601), INVALID);
        Due.is(x.sleeper(0, 0), 0);
        Due.is(x.count(13), 1);
    }

    private static void workWithoutJobs() {
        Due.sentence(11, "ILLEGAL_STATE if there are no jobs.");
        BallastTrack x = new BallastTrack();
        Due.is(x.work(1), ILLEGAL);
        Due.is(x.work(600), ILLEGAL);
        Due.is(x.count(13), 0);
        x.addJob(0, 0, 0);
        Due.is(x.work(1), 0);
        Due.is(x.work(1), ILLEGAL);
        Due.is(x.work(601), INVALID);
        Due.is(x.count(13), 2);
        x.addJob(0, 0, 50);
        x.begin(40);
        Due.is(x.work(1), ILLEGAL);
    }

    // ---- promise 18

    private static void jobNumber() {
        Due.sentence(18, "`job`: 0 for the first one");
        BallastTrack x = new BallastTrack();
        x.addJob(1, 2, 3);
        x.addJob(4, 5, 6);
        dueJob(x, 0, 1, 2, 3, 1);
        dueJob(x, 1, 4, 5, 6, 4);
        Due.is(x.work(600), 2);
        x.addJob(7, 8, 9);
        dueJob(x, 0, 7, 8, 9, 7);
    }

    private static void jobWhat() {
        Due.sentence(18, "Returns a property of a job.");
        Due.sentence(18, "`what`: 0 its first sleeper, 1 its last one, 2 its target, 3 the next sleeper on its way");
        Due.sentence(18, "Returns the property;");
        BallastTrack x = new BallastTrack();
        x.addJob(11, 14, -77);
        Due.refusesOutside(0, 3, what -> x.job(0, what));
        dueJob(x, 0, 11, 14, -77, 11);
        x.cancelJobs(12);
        x.addJob(11, 14, 50);
        Due.is(x.work(9), 3);
        dueJob(x, 0, 11, 14, 50, 14);
        Due.is(x.work(3), 1);
        Due.is(x.job(0, 3), NONE);
    }

    private static void jobRefuses() {
        Due.sentence(18, "INVALID_ARGUMENT if job is negative or what is out of range;");
        BallastTrack x = new BallastTrack();
        for (int jobs = 0; jobs < 2; jobs++) {
            Due.is(x.job(-1, 0), INVALID);
            Due.is(x.job(Integer.MIN_VALUE, 3), INVALID);
            Due.is(x.job(0, -1), INVALID);
            Due.is(x.job(0, 4), INVALID);
            Due.is(x.job(6, 4), INVALID);
            Due.is(x.job(1000000, -1), INVALID);
            x.addJob(0, 0, 0);
        }
    }

    private static void jobsThatAreNotThere() {
        Due.sentence(18, "NONE if there are not so many.");
        BallastTrack x = new BallastTrack();
        for (int jobs = 0; jobs <= 6; jobs++) {
            for (int what = 0; what < 4; what++) {
                Due.is(x.job(jobs, what), NONE);
            }
            if (jobs < 6) {
                x.addJob(jobs, 30, 40 + jobs);
                Due.is(x.job(jobs, 2), 40 + jobs);
            }
        }
        Due.is(x.job(7, 0), NONE);
        Due.is(x.job(Integer.MAX_VALUE, 0), NONE);
        // 2 to the power of 30, times four, is 0 in an int.
        Due.is(x.job(1073741824, 0), NONE);
    }

    // ---- tamping

    private static void atMostSixJobs() {
        Due.sentence(0, "There are at most 6 jobs, in the order in which they were added.");
        BallastTrack x = withSixJobs();
        Due.is(x.addJob(9, 9, 50), CAPACITY);
        Due.is(x.work(9), 3);
        for (int job = 10; job < 13; job++) {
            Due.is(x.addJob(job, job, 50), job - 6);
        }
        Due.is(x.addJob(9, 9, 50), CAPACITY);
        int[] due = {3, 4, 5, 10, 11, 12};
        for (int job = 0; job < 6; job++) {
            Due.is(x.job(job, 0), due[job]);
        }
        Due.is(x.work(600), 6);
        Due.is(x.sleeper(12, 0), 50);
    }

    private static void jobOfOneSleeper() {
        Due.sentence(0, "A job has a first and a last sleeper (not less than the first one), and a target level, -9999 to 9999.");
        BallastTrack x = Tracks.ofSleepers(10);
        Due.is(x.addJob(9, 8, 50), INVALID);
        Due.is(x.addJob(9, 9, 50), 1);
        Due.is(x.work(600), 1);
        Due.is(x.sleeper(9, 0), 50);
        Due.is(x.sleeper(8, 0), 0);
        x.setNumber(6, 500);
        x.setLevel(0, 9990);
        x.addJob(0, 0, 9999);
        Due.is(x.work(600), 1);
        Due.is(x.sleeper(0, 0), 9999);
        x.setLevel(1, -9999);
        x.addJob(1, 1, -9999);
        Due.is(x.work(600), 0);
        x.addJob(1, 1, -9994);
        Due.is(x.work(600), 1);
        Due.is(x.sleeper(1, 0), -9994);
    }

    private static void ascendingOrder() {
        Due.sentence(0, "The machine works on the first job, sleeper by sleeper, in ascending order.");
        BallastTrack x = new BallastTrack();
        x.addJob(20, 22, 50);
        x.addJob(10, 12, 50);
        int[] order = {20, 21, 22, 10, 11, 12};
        for (int i = 0; i < order.length; i++) {
            Due.is(x.job(0, 3), order[i]);
            Due.is(x.sleeper(order[i], 0), 0);
            Due.is(x.work(3), 1);
            Due.is(x.sleeper(order[i], 0), 50);
        }
        Due.is(x.count(9), 0);
    }

    private static void liftIsAtMostM() {
        Due.sentence(0, "The lift of a sleeper is the target less its level, but at most m, 10 to 500 (at first 200).");
        int[] greatest = {200, 10, 500};
        for (int m : greatest) {
            BallastTrack x = new BallastTrack();
            x.setNumber(6, m);
            x.setLevel(1, 1);
            x.setLevel(2, -9999);
            x.addJob(0, 0, m - 1);
            x.addJob(1, 1, m + 1);
            x.addJob(2, 2, 9999);
            x.addJob(3, 3, m + 1);
            Due.is(x.work(600), 4);
            Due.is(x.sleeper(0, 9), m - 1);
            Due.is(x.sleeper(1, 9), m);
            Due.is(x.sleeper(1, 0), m + 1);
            Due.is(x.sleeper(2, 9), m);
            Due.is(x.sleeper(2, 0), m - 9999);
            Due.is(x.sleeper(3, 0), m);
        }
    }

    private static void leastLift() {
        Due.sentence(0, "If the lift is less than the least lift, 1 to 50 (at first 5), the sleeper is passed over");
        int[] least = {5, 1, 50};
        for (int lift : least) {
            BallastTrack x = new BallastTrack();
            x.setNumber(7, lift);
            x.addJob(0, 0, lift);
            x.addJob(1, 1, lift - 1);
            x.addJob(2, 2, -9999);
            Due.is(x.work(600), 1);
            Due.is(x.sleeper(0, 0), lift);
            Due.is(x.sleeper(0, 1), 3);
            Due.is(x.sleeper(1, 0), 0);
            Due.is(x.sleeper(1, 1), 0);
            Due.is(x.sleeper(2, 0), 0);
            Due.is(x.account(3), 3);
            Due.is(x.count(9), 0);
        }
        // If m is less than the least lift, each sleeper is passed over.
        BallastTrack x = new BallastTrack();
        x.setNumber(7, 50);
        x.setNumber(6, 49);
        x.addJob(0, 39, 9999);
        Due.is(x.minutesLeft(), 0);
        Due.is(x.work(1), 0);
        Due.is(x.count(9), 0);
        Due.is(x.account(1), 0);
    }

    private static void passedOverWithoutMinutes() {
        Due.sentence(0, "the sleeper is passed over, which takes no time (also if no minutes are left)");
        BallastTrack x = new BallastTrack();
        x.setLevel(3, -50);
        x.addJob(0, 2, 0);
        x.addJob(3, 9, 0);
        x.addJob(20, 39, 4);
        x.addJob(10, 12, 0);
        x.addJob(4, 4, 0);
        // The one lift takes all three minutes; all that is behind it is passed over all the same.
        Due.is(x.work(3), 1);
        Due.is(x.count(9), 0);
        Due.is(x.account(3), 3);
        Due.is(x.sleeper(20, 1), 0);
        x.setLevel(9, -50);
        x.addJob(0, 9, 0);
        x.addJob(0, 9, 0);
        Due.is(x.work(2), 0);
        Due.is(x.count(9), 2);
        Due.is(x.job(0, 3), 9);
        Due.is(x.work(3), 1);
        Due.is(x.count(9), 0);
    }

    private static void minutesOfALift() {
        Due.sentence(0, "Otherwise, it takes 2 minutes, and 1 minute for each 50 of the lift, or part of 50;");
        for (int lift = 1; lift <= 500; lift++) {
            BallastTrack x = new BallastTrack();
            x.setNumber(6, 500);
            x.setNumber(7, 1);
            x.addJob(0, 0, lift);
            int minutes = 2;
            for (int part = lift; part > 0; part -= 50) {
                minutes++;
            }
            Due.is(x.minutesLeft(), minutes);
            Due.is(x.work(minutes - 1), 0);
            Due.is(x.work(minutes), 1);
            Due.is(x.account(3), minutes);
        }
    }

    private static void onceInAJob() {
        Due.sentence(0, "then the level increases by the lift (once in a job), and the fouling by 3");
        BallastTrack x = new BallastTrack();
        x.addJob(0, 1, 500);
        x.addJob(1, 2, 500);
        Due.is(x.work(600), 4);
        Due.is(x.sleeper(0, 0), 200);
        Due.is(x.sleeper(1, 0), 400);
        Due.is(x.sleeper(2, 0), 200);
        Due.is(x.sleeper(0, 1), 3);
        Due.is(x.sleeper(1, 1), 6);
        Due.is(x.sleeper(1, 9), 400);
        Due.is(x.account(1), 800);
        Due.is(x.count(9), 0);
    }

    private static void foulingOfLifts() {
        Due.sentence(0, "and the fouling by 3, but not above 100.");
        BallastTrack x = new BallastTrack();
        Due.is(Due.loaded(x, "f1=96;f2=97;f3=98;f4=99;f5=100;b6=48;f6=50;"), 7);
        x.addJob(0, 6, 50);
        Due.is(x.work(600), 6);
        int[] due = {3, 99, 100, 100, 100, 100, 50, 0};
        for (int sleeper = 0; sleeper < due.length; sleeper++) {
            Due.is(x.sleeper(sleeper, 1), due[sleeper]);
        }
    }

    private static void stopsAhead() {
        Due.sentence(0, "If there are not so many minutes left, the machine stops ahead of this sleeper, "
            + "and goes on with it the next time (with as many minutes as there are then);");
        BallastTrack x = new BallastTrack();
        x.addJob(0, 2, 100);
        x.addJob(10, 10, 10);
        Due.is(x.work(3), 0);
        dueJob(x, 0, 0, 2, 100, 0);
        // The shorter lift of the second job is not drawn ahead.
        Due.is(x.sleeper(10, 0), 0);
        Due.is(x.work(3), 0);
        Due.is(x.work(4), 1);
        Due.is(x.work(7), 1);
        dueJob(x, 0, 0, 2, 100, 2);
        Due.is(x.sleeper(2, 0), 0);
        Due.is(x.sleeper(2, 1), 0);
        Due.is(x.account(3), 8);
        Due.is(x.work(6), 1);
        Due.is(x.sleeper(2, 0), 100);
        dueJob(x, 0, 10, 10, 10, 10);
        Due.is(x.account(3), 12);
    }

    private static void leftMinutesAreNotUsed() {
        Due.sentence(0, "the minutes that are left are not used.");
        BallastTrack x = new BallastTrack();
        x.setNumber(6, 500);
        x.addJob(0, 0, 500);
        for (int time = 0; time < 5; time++) {
            Due.is(x.work(11), 0);
        }
        Due.is(x.account(3), 0);
        Due.is(x.work(600), 1);
        Due.is(x.account(3), 12);
        x.addJob(1, 1, 500);
        Due.is(x.work(11), 0);
        Due.is(x.account(3), 12);
    }

    private static void doneBehindTheLast() {
        Due.sentence(0, "Behind the last sleeper of a job, the job is done, and not there any more;");
        BallastTrack x = Tracks.ofSleepers(10);
        x.addJob(8, 9, 50);
        Due.is(x.work(3), 1);
        Due.is(x.count(9), 1);
        Due.is(x.work(3), 1);
        Due.is(x.count(9), 0);
        Due.is(x.job(0, 0), NONE);
        x.addJob(9, 9, 50);
        Due.is(x.work(1), 0);
        Due.is(x.count(9), 0);
        // Its last sleeper is passed over, so the job is done though no minute is left.
        x.addJob(7, 8, 50);
        Due.is(x.work(3), 1);
        Due.is(x.count(9), 0);
    }

    private static void nextJob() {
        Due.sentence(0, "the machine goes on with the next one.");
        BallastTrack x = new BallastTrack();
        for (int job = 0; job < 6; job++) {
            x.addJob(job, job, 50);
        }
        Due.is(x.work(17), 5);
        Due.is(x.count(9), 1);
        dueJob(x, 0, 5, 5, 50, 5);
        Due.is(x.work(3), 1);
        Due.is(x.count(9), 0);
        Due.is(x.account(3), 18);
    }

    // ---- promise 22

    private static void liftsSleeper() {
        Due.sentence(22, "`sleeper`: a sleeper");
        for (int n : new int[] {10, 60}) {
            BallastTrack x = Tracks.ofSleepers(n);
            Due.refusesOutside(0, n - 1, sleeper -> x.lifts(sleeper, 50));
            x.setLevel(0, 50);
            Due.is(x.lifts(0, 50), 2);
            Due.is(x.lifts(n - 1, 50), 0);
        }
    }

    private static void liftsTarget() {
        Due.sentence(22, "`target`: -9999 to 9999");
        BallastTrack x = new BallastTrack();
        Due.refusesOutside(-9999, 9999, target -> x.lifts(0, target));
        Due.is(x.lifts(0, -9999), 2);
        Due.is(x.lifts(0, 9999), 1);
        x.setLevel(0, 9999);
        Due.is(x.lifts(0, 9999), 2);
        x.setLevel(0, -9999);
        Due.is(x.lifts(0, -9999), 2);
    }

    private static void liftsAnswers() {
        Due.sentence(22, "Tells what a job would do with a sleeper as it is now.");
        Due.sentence(22, "Returns 0 if it would be lifted to the target, 1 if it would be lifted by m alone, 2 if it would "
            + "be passed over as its level is not less than the target, 3 if it would be passed over as the lift is less "
            + "than the least lift (also if m is less than that);");
        BallastTrack x = new BallastTrack();
        x.setLevel(7, 100);
        int[] targets = {99, 100, 101, 104, 105, 299, 300, 301, 9999};
        int[] due = {2, 2, 3, 3, 0, 0, 0, 1, 1};
        for (int i = 0; i < targets.length; i++) {
            Due.is(x.lifts(7, targets[i]), due[i]);
        }
        x.setNumber(7, 50);
        x.setNumber(6, 49);
        for (int target : new int[] {101, 149, 150, 151, 9999}) {
            Due.is(x.lifts(7, target), 3);
        }
        Due.is(x.lifts(7, 100), 2);
        x.setNumber(6, 50);
        Due.is(x.lifts(7, 149), 3);
        Due.is(x.lifts(7, 150), 0);
        Due.is(x.lifts(7, 151), 1);
        Due.is(x.count(9), 0);
        Due.is(x.sleeper(7, 0), 100);
        Due.is(x.sleeper(7, 1), 0);
        Due.is(x.count(13), 4);
    }

    private static void liftsRefuses() {
        Due.sentence(22, "INVALID_ARGUMENT if an argument is out of range.");
        BallastTrack x = Tracks.ofSleepers(10);
        Due.is(x.lifts(10, 0), INVALID);
        Due.is(x.lifts(-1, 0), INVALID);
        Due.is(x.lifts(0, 10000), INVALID);
        Due.is(x.lifts(0, -10000), INVALID);
        Due.is(x.lifts(10, -10000), INVALID);
    }

    // ---- promise 25

    private static void noMinutesLeft() {
        Due.sentence(25, "Returns the minutes, 0 without jobs.");
        BallastTrack x = new BallastTrack();
        Due.is(x.minutesLeft(), 0);
        x.addJob(0, 39, 4);
        Due.is(x.minutesLeft(), 0);
        x.addJob(0, 0, 5);
        Due.is(x.minutesLeft(), 3);
        Due.is(x.work(600), 1);
        Due.is(x.account(3), 3);
        Due.is(x.minutesLeft(), 0);
        // Each of six jobs on sixty sleepers lifts by 500, which takes 12 minutes.
        x.begin(60);
        x.setNumber(6, 500);
        for (int job = 0; job < 6; job++) {
            x.addJob(0, 59, 9999);
        }
        Due.is(x.minutesLeft(), 6 * 60 * 12);
        Due.is(x.account(3), 0);
        Due.is(x.count(9), 6);
        Due.is(x.sleeper(0, 0), 0);
    }

    private static void minutesOneAfterTheOther() {
        Due.sentence(25, "Tells how many minutes the machine would work for all jobs, one after the other, "
            + "each with the levels that those ahead of it leave.");
        BallastTrack x = new BallastTrack();
        x.addJob(0, 3, 300);
        x.addJob(2, 5, 320);
        x.addJob(0, 0, 100);
        int first = 4 * 6;
        int second = 2 * 5 + 2 * 6;
        Due.is(x.minutesLeft(), first + second);
        Due.is(x.work(13), 2);
        Due.is(x.minutesLeft(), first + second - 12);
        // Only what is still on the way counts.
        x.setLevel(0, -100);
        Due.is(x.minutesLeft(), first + second - 12 + 6);
        x.setLevel(2, 320);
        Due.is(x.minutesLeft(), 6 + 5 + 12 + 6);
        Due.is(x.work(600), 5);
        Due.is(x.account(3), 12 + 29);
    }
}
