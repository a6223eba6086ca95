import java.util.Random;

/** Edges of the accounts, and of promises 16, 17, 19 and 20. */
public final class LookingEdgesTest {
    private static final int INVALID = BallastTrack.INVALID_ARGUMENT;

    public static void main(String[] args) {
        countWhat();
        countOfNumbers();
        countOfJobs();
        countOfHangingSleepers();
        countOfOrders();
        countOfTheText();
        countOfSavedStates();
        countOfImages();
        countRefuses();
        sleeperNumber();
        sleeperWhat();
        loadOfAHangingSleeper();
        settlementsAndLiftsAddUp();
        sleeperRefuses();
        accountWhat();
        accountOfEach();
        accountRefuses();
        accountsOfChanges();
        sumOfTheLevels();
        railSleeper();
        railWay();
        railWaysAgree();
        railRefuses();
        Due.end();
    }

    // ---- promise 16

    private static void countWhat() {
        Due.sentence(16, "`what`: 0 n, 1 to 8 the numbers of setNumber(), 9 the number of jobs, 10 of sleepers that hang, "
            + "11 the order of the track, 12 the length of the text, 13 the number of saved states, "
            + "14 the images that keep something, as a bit mask");
        BallastTrack x = Tracks.ofSleepers(20);
        Due.refusesOutside(0, 14, x::count);
        x.setNumber(0, 20);
        x.setLevel(10, 12);
        x.setLevel(15, -31);
        x.addJob(1, 2, 3);
        x.addJob(1, 2, 3);
        Due.type(x, "b12");
        x.keep(1);
        int[] due = {20, 20, 10, 3, 20, 40, 80, 200, 5, 2, 1, 1, 3, 6, 2};
        for (int what = 0; what < due.length; what++) {
            Due.is(x.count(what), due[what]);
        }
    }

    private static void countOfNumbers() {
        Due.sentence(16, "1 to 8 the numbers of setNumber()");
        Due.sentence(16, "Returns a number.");
        Due.sentence(16, "Returns the number;");
        int[][] values = {{1, 0, 1, 1, 21, 41, 10, 1}, {20, 99, 5, 39, 79, 2000, 500, 50}};
        for (int[] row : values) {
            for (int what = 0; what < 8; what++) {
                BallastTrack x = new BallastTrack();
                x.setNumber(what, row[what]);
                Due.is(x.count(what + 1), row[what]);
                x.undo();
                Due.is(x.count(what + 1), new BallastTrack().count(what + 1));
            }
        }
    }

    private static void countOfJobs() {
        Due.sentence(16, "9 the number of jobs");
        BallastTrack x = new BallastTrack();
        for (int jobs = 0; jobs < 6; jobs++) {
            Due.is(x.count(9), jobs);
            x.addJob(jobs, jobs, 50);
        }
        Due.is(x.count(9), 6);
        x.addJob(7, 7, 50);
        Due.is(x.count(9), 6);
        for (int jobs = 6; jobs > 0; jobs--) {
            Due.is(x.count(9), jobs);
            Due.is(x.work(3), 1);
        }
        Due.is(x.count(9), 0);
    }

    private static void countOfHangingSleepers() {
        Due.sentence(16, "10 of sleepers that hang");
        for (int n : new int[] {10, 60}) {
            BallastTrack x = Tracks.ofSleepers(n);
            Due.is(x.count(10), 0);
            x.setLevel(0, -15);
            Due.is(x.count(10), 1);
            x.setLevel(n - 1, -15);
            Due.is(x.count(10), 2);
            x.setLevel(n - 1, 9999);
            Due.is(x.count(10), n - 1);
        }
    }

    private static void countOfOrders() {
        Due.sentence(16, "11 the order of the track");
        BallastTrack x = Tracks.ofSleepers(20);
        x.setNumber(0, 20);
        int[] levels = {0, 10, 11, 20, 21, 40, 41, 60, -10, -11};
        int[] due = {0, 0, 1, 1, 2, 2, 3, 3, 0, 1};
        for (int i = 0; i < levels.length; i++) {
            x.setLevel(10, levels[i]);
            Due.is(x.count(11), due[i]);
        }
    }

    private static void countOfTheText() {
        Due.sentence(16, "12 the length of the text");
        BallastTrack x = new BallastTrack();
        for (int length = 0; length < 100; length++) {
            Due.is(x.count(12), length);
            Due.is(x.appendCharacter('?'), length + 1);
        }
        Due.is(x.count(12), 100);
        x.appendCharacter('?');
        Due.is(x.count(12), 100);
        x.load();
        Due.is(x.count(12), 100);
        x.clearText();
        Due.is(x.count(12), 0);
    }

    private static void countOfSavedStates() {
        Due.sentence(16, "13 the number of saved states");
        BallastTrack x = new BallastTrack();
        for (int time = 0; time < 10; time++) {
            Due.is(x.count(13), Math.min(time, 6));
            x.setLevel(time, 1);
        }
        for (int left = 5; left >= 0; left--) {
            Due.is(x.undo(), left);
            Due.is(x.count(13), left);
        }
        x.undo();
        Due.is(x.count(13), 0);
    }

    private static void countOfImages() {
        Due.sentence(16, "14 the images that keep something, as a bit mask");
        BallastTrack x = new BallastTrack();
        Due.is(x.count(14), 0);
        x.keep(0);
        Due.is(x.count(14), 1);
        x.keep(0);
        Due.is(x.count(14), 1);
        x.keep(1);
        Due.is(x.count(14), 3);
        x.begin(10);
        x.back(0);
        x.undo();
        Due.is(x.count(14), 3);
        BallastTrack y = new BallastTrack();
        y.keep(2);
        Due.is(y.count(14), 0);
        y.keep(1);
        Due.is(y.count(14), 2);
    }

    private static void countRefuses() {
        Due.sentence(16, "INVALID_ARGUMENT if what is out of range.");
        BallastTrack x = new BallastTrack();
        Due.is(x.count(-1), INVALID);
        Due.is(x.count(15), INVALID);
        Due.is(x.count(Integer.MAX_VALUE), INVALID);
        Due.is(x.count(Integer.MIN_VALUE), INVALID);
    }

    // ---- promise 17

    private static void sleeperNumber() {
        Due.sentence(17, "`sleeper`: a sleeper");
        BallastTrack x = new BallastTrack();
        int[] numbers = {40, 10, 60, 11};
        for (int n : numbers) {
            x.begin(n);
            for (int i = 0; i < 10; i++) {
                int what = i;
                Due.refusesOutside(0, n - 1, sleeper -> x.sleeper(sleeper, what));
                Due.is(x.sleeper(0, what), what == 5 ? 2 : 0);
                Due.is(x.sleeper(n - 1, what), what == 5 ? 2 : 0);
            }
        }
        x.undo();
        Due.is(x.sleeper(59, 0), 0);
        x.undo();
        Due.is(x.sleeper(9, 0), 0);
        Due.is(x.sleeper(10, 0), INVALID);
    }

    private static void sleeperWhat() {
        Due.sentence(17, "Returns a property of a sleeper.");
        Due.sentence(17, "`what`: 0 the level of its ballast, 1 its fouling, 2 the level of the rail, 3 its void, "
            + "4 1 if it hangs and 0 if it carries, 5 its load when a train passes (0 if it hangs), 6 its defect, "
            + "7 its order, 8 all its settlements by trains, 9 all its lifts");
        Due.sentence(17, "Returns the property;");
        BallastTrack x = Tracks.ofSleepers(10);
        Due.is(Due.loaded(x, "b4=-50;f4=7;f5=100;"), 3);
        x.addJob(4, 4, -20);
        Due.is(x.work(3), 1);
        Due.is(x.trains(200, 20, 1), 1);
        x.setNumber(3, 5);
        Due.refusesOutside(0, 9, what -> x.sleeper(4, what));
        int[] four = {-20, 11, -20, 0, 0, 3, 0, 0, 0, 30};
        int[] five = {-60, 100, -24, 36, 1, 0, -8, 1, 60, 0};
        int[] zero = {-20, 0, -20, 0, 0, 2, 0, 0, 20, 0};
        for (int what = 0; what < 10; what++) {
            Due.is(x.sleeper(4, what), four[what]);
            Due.is(x.sleeper(5, what), five[what]);
            Due.is(x.sleeper(0, what), zero[what]);
        }
    }

    private static void loadOfAHangingSleeper() {
        Due.sentence(17, "5 its load when a train passes (0 if it hangs)");
        BallastTrack x = Tracks.ofSleepers(10);
        x.setLevel(5, -14);
        Due.is(x.sleeper(5, 5), 2);
        Due.is(x.sleeper(4, 5), 2);
        x.setLevel(5, -15);
        Due.is(x.sleeper(5, 5), 0);
        Due.is(x.sleeper(4, 5), 3);
        Due.is(x.sleeper(6, 5), 3);
        // The load is told even when no train can pass.
        x.setNumber(3, 1);
        x.setNumber(4, 2);
        x.setNumber(5, 3);
        Due.is(x.count(11), 3);
        Due.is(x.sleeper(4, 5), 3);
    }

    private static void settlementsAndLiftsAddUp() {
        Due.sentence(17, "8 all its settlements by trains, 9 all its lifts");
        BallastTrack x = Tracks.ofSleepers(10);
        for (int time = 1; time <= 4; time++) {
            Due.is(x.trains(200, 20, 2), 2);
            x.addJob(0, 9, -30);
            Due.is(x.work(600), 10);
            Due.is(x.renew(0, 9), 30);
            Due.is(x.sleeper(9, 8), 40 * time);
            Due.is(x.sleeper(9, 9), 40 * time - 30);
        }
        x.setLevel(9, 0);
        Due.is(x.sleeper(9, 8), 160);
        Due.is(x.sleeper(9, 9), 130);
    }

    private static void sleeperRefuses() {
        Due.sentence(17, "INVALID_ARGUMENT if an argument is out of range.");
        BallastTrack x = Tracks.ofSleepers(10);
        for (int what = -1; what <= 10; what++) {
            Due.is(x.sleeper(-1, what), INVALID);
            Due.is(x.sleeper(10, what), INVALID);
        }
        for (int sleeper = 0; sleeper < 10; sleeper++) {
            Due.is(x.sleeper(sleeper, -1), INVALID);
            Due.is(x.sleeper(sleeper, 10), INVALID);
        }
    }

    // ---- promise 19, and the accounts

    private static void accountWhat() {
        Due.sentence(19, "`what`: 0 to 6");
        BallastTrack x = new BallastTrack();
        Due.refusesOutside(0, 6, x::account);
        Due.is(x.account(0), 0);
        Due.is(x.account(6), 0);
        x.setLevel(0, -3);
        Due.is(x.account(6), -3);
        Due.refusesOutside(0, 6, x::account);
    }

    private static void accountOfEach() {
        Due.sentence(19, "Returns an account.");
        Due.sentence(19, "Returns the sum;");
        Due.sentence(0, "The accounts are: 0 all settlements by trains, 1 all lifts, 2 the minutes lost, 3 the minutes worked "
            + "by the machine, 4 the trains, 5 the tons, 6 the sum of all changes of levels by setLevel() and load().");
        BallastTrack x = Tracks.ofSleepers(10);
        x.setNumber(0, 20);
        x.setNumber(3, 5);
        x.setLevel(0, 20);
        x.setNumber(3, 15);
        Due.is(x.trains(100, 20, 3), 3);
        x.addJob(2, 3, 30);
        Due.is(x.work(600), 2);
        Due.is(Due.loaded(x, "b9=-100;"), 1);
        // At order 1 a train of 2000 tons settles each sleeper by 7.
        int[] due = {210, 102, 6, 8, 3, 6000, 20 - 79};
        for (int what = 0; what < 7; what++) {
            Due.is(x.account(what), due[what]);
        }
    }

    private static void accountRefuses() {
        Due.sentence(19, "INVALID_ARGUMENT if what is out of range.");
        BallastTrack x = new BallastTrack();
        Due.is(x.account(-1), INVALID);
        Due.is(x.account(7), INVALID);
        Due.is(x.account(Integer.MAX_VALUE), INVALID);
        Due.is(x.account(Integer.MIN_VALUE), INVALID);
    }

    private static void accountsOfChanges() {
        Due.sentence(0, "6 the sum of all changes of levels by setLevel() and load()");
        BallastTrack x = Tracks.ofSleepers(60);
        x.setLevel(0, 9999);
        x.setLevel(0, -9999);
        Due.is(x.account(6), -9999);
        x.setLevel(0, 0);
        Due.is(x.account(6), 0);
        Due.is(Due.loaded(x, "b0-59=-9999;"), 1);
        Due.is(x.account(6), -60 * 9999);
        Due.is(Due.loaded(x, "b0-59=9999;b5=0;b5=9999;f0-59=50;"), 4);
        Due.is(x.account(6), 60 * 9999);
        Due.is(x.renew(0, 59), 3000);
        Due.is(x.account(6), 60 * 9999);
        x.addJob(0, 59, 0);
        Due.is(x.work(600), 0);
        Due.is(x.trains(200, 30, 50), 50);
        Due.is(x.account(6), 60 * 9999);
        // What trains have settled in between is no change by load().
        Due.is(Due.loaded(x, "b0-59=9999;"), 1);
        Due.is(x.account(6), 60 * (9999 + 1500));
    }

    private static void dueSum(BallastTrack x) {
        int n = x.count(0);
        int sum = 0;
        for (int sleeper = 0; sleeper < n; sleeper++) {
            sum += x.sleeper(sleeper, 0);
        }
        Due.is(sum, x.account(6) + x.account(1) - x.account(0));
    }

    private static void sumOfTheLevels() {
        Due.sentence(0, "So the sum of all levels is always 6 plus 1 less 0.");
        for (int run = 0; run < 40; run++) {
            Random dice = new Random(run);
            int n = 10 + dice.nextInt(11);
            BallastTrack x = Tracks.ofSleepers(n);
            Due.is(Due.loaded(x, "b0-" + (n - 1) + "=" + (run % 2 == 0 ? -9950 : 40) + ";"), 1);
            for (int time = 0; time < 14; time++) {
                int sleeper = dice.nextInt(n);
                x.setLevel(sleeper, x.sleeper(sleeper, 0) + dice.nextInt(30));
                x.addJob(sleeper, n - 1, x.sleeper(sleeper, 0) + dice.nextInt(90) - 20);
                x.work(1 + dice.nextInt(60));
                x.trains(1 + dice.nextInt(200), 1 + dice.nextInt(30), 1 + dice.nextInt(3));
                if (dice.nextInt(4) == 0) {
                    x.undo();
                }
                dueSum(x);
            }
        }
    }

    // ---- promise 20

    private static void railSleeper() {
        Due.sentence(20, "`sleeper`: a sleeper");
        for (int n : new int[] {10, 60}) {
            BallastTrack x = Tracks.ofSleepers(n);
            x.setLevel(n - 1, 9);
            for (int i = 0; i < 2; i++) {
                int way = i;
                Due.refusesOutside(0, n - 1, sleeper -> x.rail(sleeper, way));
                Due.is(x.rail(0, way), 0);
                Due.is(x.rail(n - 2, way), 5);
                Due.is(x.rail(n - 1, way), 9);
            }
        }
    }

    private static void railWay() {
        Due.sentence(20, "`way`: 0 by going over the sleepers once from the left and once from the right, "
            + "1 by the greatest of all that is told above");
        BallastTrack x = new BallastTrack();
        Due.refusesOutside(0, 1, way -> x.rail(0, way));
        Due.is(Due.loaded(x, "b0-39=-9999;b0=0;b39=20;"), 3);
        for (int sleeper = 0; sleeper < 40; sleeper++) {
            int due = Math.max(-4 * sleeper, 20 - 4 * (39 - sleeper));
            Due.is(x.rail(sleeper, 0), due);
            Due.is(x.rail(sleeper, 1), due);
        }
    }

    private static void railWaysAgree() {
        Due.sentence(20, "Returns the level of the rail at a sleeper, found in one of two ways, which agree.");
        Due.sentence(20, "Returns the level;");
        for (int run = 0; run < 60; run++) {
            Random dice = new Random(run);
            int n = run % 3 == 0 ? 10 : run % 3 == 1 ? 60 : 10 + dice.nextInt(51);
            int k = 1 + dice.nextInt(20);
            int height = run % 2 == 0 ? 9999 : 60;
            int[] levels = new int[n];
            BallastTrack x = Tracks.ofSleepers(n);
            x.setNumber(0, k);
            for (int sleeper = 0; sleeper < n; sleeper++) {
                levels[sleeper] = dice.nextInt(2 * height + 1) - height;
                x.setLevel(sleeper, levels[sleeper]);
            }
            for (int sleeper = 0; sleeper < n; sleeper++) {
                int due = Integer.MIN_VALUE;
                for (int from = 0; from < n; from++) {
                    due = Math.max(due, levels[from] - k * Math.abs(sleeper - from));
                }
                Due.is(x.rail(sleeper, 0), due);
                Due.is(x.rail(sleeper, 1), due);
                Due.is(x.sleeper(sleeper, 2), due);
            }
        }
    }

    private static void railRefuses() {
        Due.sentence(20, "INVALID_ARGUMENT if an argument is out of range.");
        BallastTrack x = Tracks.ofSleepers(10);
        Due.is(x.rail(10, 0), INVALID);
        Due.is(x.rail(10, 1), INVALID);
        Due.is(x.rail(-1, 0), INVALID);
        Due.is(x.rail(-1, 1), INVALID);
        Due.is(x.rail(0, -1), INVALID);
        Due.is(x.rail(9, 2), INVALID);
        Due.is(x.rail(10, 2), INVALID);
    }
}
