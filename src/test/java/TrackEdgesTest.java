/** Edges of the track, its rail, strings and orders, and of promises 1 to 4 and 8. */
public final class TrackEdgesTest {
    private static final int INVALID = BallastTrack.INVALID_ARGUMENT;
    private static final int ILLEGAL = BallastTrack.ILLEGAL_STATE;

    public static void main(String[] args) {
        newTrack();
        newTrackHasNothing();
        objectsAreApart();
        beginSleepers();
        beginAnswersTheOldNumber();
        beginMakesNew();
        beginLeaves();
        beginRefuses();
        sleepersAreNumbered();
        levelAndFouling();
        whatIsSet();
        valueInItsRange();
        limitsAscend();
        setNumberAnswersTheOldOne();
        setNumberRefuses();
        sleeperOfSetLevel();
        levelOfSetLevel();
        setLevelAnswersTheOldOne();
        setLevelRefuses();
        renewFrom();
        renewTo();
        renewLeavesLevels();
        renewAnswersTheSum();
        renewRefuses();
        railFallsByK();
        railIsTheGreatest();
        railHasTwoEnds();
        voids();
        hangsOrCarries();
        stringsAreTwoA();
        stringsOfTheShortestTrack();
        defectsAtTheEnds();
        ordersAtTheLimits();
        limitsAtTheirEdges();
        orderOfTheTrack();
        Due.end();
    }

    // ---- promise 1

    private static void newTrack() {
        Due.sentence(1, "Creates a track of 40 sleepers, without jobs and images, with an empty text.");
        BallastTrack x = new BallastTrack();
        Due.is(x.count(0), 40);
        Due.is(x.sleeper(39, 0), 0);
        Due.is(x.sleeper(40, 0), INVALID);
        Due.is(x.setLevel(40, 0), INVALID);
        Due.is(x.setLevel(39, 0), 0);
        Due.is(new BallastTrack().begin(40), 40);
    }

    private static void newTrackHasNothing() {
        Due.sentence(1, "without jobs and images, with an empty text");
        BallastTrack x = new BallastTrack();
        Due.is(x.count(9), 0);
        Due.is(x.job(0, 0), BallastTrack.NONE);
        Due.is(x.minutesLeft(), 0);
        Due.is(x.work(600), ILLEGAL);
        Due.is(x.count(14), 0);
        Due.is(x.back(0), ILLEGAL);
        Due.is(x.back(1), ILLEGAL);
        Due.is(x.count(13), 0);
        Due.is(x.undo(), ILLEGAL);
        Due.is(x.count(12), 0);
        Due.is(x.clearText(), 0);
        Due.is(x.load(), 0);
        Due.is(x.count(13), 1);
    }

    private static void objectsAreApart() {
        Due.sentence(1, "Creates a track");
        BallastTrack x = new BallastTrack();
        x.setNumber(0, 20);
        x.setLevel(0, 7);
        x.addJob(0, 0, 9);
        x.keep(0);
        x.appendCharacter('b');
        BallastTrack y = new BallastTrack();
        int[] due = {40, 4, 10, 3, 20, 40, 80, 200, 5, 0, 0, 0, 0, 0, 0};
        for (int what = 0; what < due.length; what++) {
            Due.is(y.count(what), due[what]);
        }
        Due.is(y.sleeper(0, 0), 0);
        y.setLevel(0, 8);
        Due.is(x.sleeper(0, 0), 7);
    }

    // ---- promise 2

    private static void beginSleepers() {
        Due.sentence(2, "`sleepers`: 10 to 60");
        BallastTrack x = new BallastTrack();
        Due.refusesOutside(10, 60, x::begin);
        Due.is(x.begin(0), INVALID);
        Due.is(x.begin(-40), INVALID);
        Due.is(x.count(0), 40);
        Due.is(x.begin(10), 40);
        Due.is(x.count(0), 10);
        Due.is(x.sleeper(9, 2), 0);
        Due.is(x.sleeper(10, 2), INVALID);
        Due.is(x.begin(60), 10);
        Due.is(x.count(0), 60);
        Due.is(x.sleeper(59, 2), 0);
        Due.is(x.sleeper(60, 2), INVALID);
    }

    private static void beginAnswersTheOldNumber() {
        Due.sentence(2, "Returns the previous number of sleepers;");
        BallastTrack x = new BallastTrack();
        Due.is(x.begin(60), 40);
        Due.is(x.begin(60), 60);
        Due.is(x.begin(11), 60);
        x.undo();
        Due.is(x.begin(12), 60);
        x.keep(0);
        x.begin(13);
        x.back(0);
        Due.is(x.begin(14), 12);
    }

    private static void beginMakesNew() {
        Due.sentence(2, "Makes the track new: all levels, foulings, settlements and lifts 0, no jobs, all accounts 0.");
        BallastTrack x = Tracks.ofSleepers(60);
        Due.is(Due.loaded(x, "b0-59=40;f0-59=50;b59=20;"), 3);
        x.setNumber(0, 20);
        x.setNumber(1, 0);
        x.addJob(58, 59, 100);
        x.addJob(0, 0, 100);
        Due.is(x.work(5), 1);
        Due.is(x.trains(200, 30, 1), 1);
        Due.is(x.account(2), 6);
        Due.is(x.begin(10), 60);
        Due.is(x.begin(60), 10);
        for (int sleeper : new int[] {0, 9, 10, 58, 59}) {
            for (int what : new int[] {0, 1, 8, 9}) {
                Due.is(x.sleeper(sleeper, what), 0);
            }
        }
        for (int what = 0; what < 7; what++) {
            Due.is(x.account(what), 0);
        }
        Due.is(x.count(9), 0);
        Due.is(x.job(0, 3), BallastTrack.NONE);
        Due.is(x.addJob(5, 6, 7), 1);
        Due.is(x.job(0, 3), 5);
    }

    private static void beginLeaves() {
        Due.sentence(2, "Numbers and images stay.");
        BallastTrack x = new BallastTrack();
        int[] numbers = {20, 99, 5, 1998, 1999, 2000, 500, 50};
        for (int what : new int[] {0, 1, 2, 5, 4, 3, 6, 7}) {
            x.setNumber(what, numbers[what]);
        }
        x.setLevel(39, 5);
        x.keep(0);
        x.begin(10);
        x.keep(1);
        Due.is(x.begin(60), 10);
        for (int what = 0; what < 8; what++) {
            Due.is(x.count(what + 1), numbers[what]);
        }
        Due.is(x.count(14), 3);
        Due.is(x.back(0), 0);
        Due.is(x.count(0), 40);
        Due.is(x.sleeper(39, 0), 5);
        Due.is(x.account(6), 5);
        Due.is(x.back(1), 0);
        Due.is(x.count(0), 10);
        Due.is(x.account(6), 0);
    }

    private static void beginRefuses() {
        Due.sentence(2, "INVALID_ARGUMENT if sleepers is out of range.");
        BallastTrack x = new BallastTrack();
        x.setLevel(3, 4);
        x.addJob(0, 1, 2);
        Due.is(x.begin(9), INVALID);
        Due.is(x.begin(61), INVALID);
        Due.is(x.count(0), 40);
        Due.is(x.sleeper(3, 0), 4);
        Due.is(x.count(9), 1);
        Due.is(x.count(13), 2);
    }

    private static void sleepersAreNumbered() {
        Due.sentence(0, "There are n sleepers, 10 to 60 (at first 40), numbered from 0.");
        int[] numbers = {10, 11, 40, 59, 60};
        for (int n : numbers) {
            BallastTrack x = Tracks.ofSleepers(n);
            Due.is(x.count(0), n);
            Due.refusesOutside(0, n - 1, sleeper -> x.sleeper(sleeper, 0));
            Due.is(x.sleeper(0, 0), 0);
            Due.is(x.sleeper(n - 1, 0), 0);
        }
        Due.is(new BallastTrack().count(0), 40);
    }

    private static void levelAndFouling() {
        Due.sentence(0, "Under each of them the ballast has a level, -9999 to 9999 (at first 0), "
            + "and a fouling, 0 to 100 percent (at first 0).");
        BallastTrack x = new BallastTrack();
        for (int sleeper = 0; sleeper < 40; sleeper++) {
            Due.is(x.sleeper(sleeper, 0), 0);
            Due.is(x.sleeper(sleeper, 1), 0);
        }
        Due.is(Due.loaded(x, "b0=-9999;b39=9999;f0=100;f39=0;"), 4);
        Due.is(x.sleeper(0, 0), -9999);
        Due.is(x.sleeper(39, 0), 9999);
        Due.is(x.sleeper(0, 1), 100);
        Due.is(x.sleeper(39, 1), 0);
    }

    // ---- promise 3

    private static void whatIsSet() {
        Due.sentence(3, "Sets a number.");
        Due.sentence(3, "`what`: 0 k, 1 h, 2 a, 3 to 5 the limits "
            + "(less than the next one, greater than the one ahead), 6 m, 7 the least lift");
        BallastTrack x = new BallastTrack();
        for (int value : new int[] {1, 5, 10, 30}) {
            Due.refusesOutside(0, 7, what -> x.setNumber(what, value));
        }
        int[] values = {7, 8, 2, 19, 41, 90, 100, 9};
        int[] due = {4, 10, 3, 20, 40, 80, 200, 5};
        for (int what = 0; what < 8; what++) {
            Due.is(x.setNumber(what, values[what]), due[what]);
            due[what] = values[what];
            for (int other = 0; other < 8; other++) {
                Due.is(x.count(other + 1), due[other]);
            }
        }
    }

    private static void valueInItsRange() {
        Due.sentence(3, "`value`: in its range");
        int[] least = {1, 0, 1, 1, 21, 41, 10, 1};
        int[] greatest = {20, 99, 5, 39, 79, 2000, 500, 50};
        for (int i = 0; i < 8; i++) {
            BallastTrack x = new BallastTrack();
            int what = i;
            Due.refusesOutside(least[i], greatest[i], value -> x.setNumber(what, value));
            Due.is(x.count(13), 0);
            x.setNumber(i, greatest[i]);
            Due.is(x.count(i + 1), greatest[i]);
            x.setNumber(i, least[i]);
            Due.is(x.count(i + 1), least[i]);
            Due.is(x.count(13), 2);
        }
    }

    private static void limitsAscend() {
        Due.sentence(3, "3 to 5 the limits (less than the next one, greater than the one ahead)");
        BallastTrack x = new BallastTrack();
        Due.is(x.setNumber(3, 1), 20);
        Due.is(x.setNumber(4, 1), INVALID);
        Due.is(x.setNumber(4, 2), 40);
        Due.is(x.setNumber(5, 2), INVALID);
        Due.is(x.setNumber(5, 3), 80);
        Due.is(x.setNumber(3, 0), INVALID);
        Due.is(x.setNumber(3, 2), INVALID);
        Due.is(x.setNumber(4, 3), INVALID);
        Due.is(x.setNumber(5, 2001), INVALID);
        Due.is(x.setNumber(5, 2000), 3);
        Due.is(x.setNumber(4, 2000), INVALID);
        Due.is(x.setNumber(4, 1999), 2);
        Due.is(x.setNumber(3, 1999), INVALID);
        Due.is(x.setNumber(3, 1998), 1);
        Due.is(x.setNumber(4, 1998), INVALID);
        Due.is(x.setNumber(5, 1999), INVALID);
    }

    private static void setNumberAnswersTheOldOne() {
        Due.sentence(3, "Returns the previous number;");
        BallastTrack x = new BallastTrack();
        Due.is(x.setNumber(1, 0), 10);
        Due.is(x.setNumber(1, 0), 0);
        Due.is(x.setNumber(1, 99), 0);
        x.begin(10);
        Due.is(x.setNumber(1, 98), 99);
        x.undo();
        Due.is(x.setNumber(1, 97), 99);
    }

    private static void setNumberRefuses() {
        Due.sentence(3, "INVALID_ARGUMENT if what or value is out of range.");
        BallastTrack x = new BallastTrack();
        Due.is(x.setNumber(-1, 1), INVALID);
        Due.is(x.setNumber(8, 1), INVALID);
        Due.is(x.setNumber(0, 0), INVALID);
        Due.is(x.setNumber(-1, -1), INVALID);
        Due.is(x.setNumber(8, 5000), INVALID);
        Due.is(x.count(1), 4);
        Due.is(x.count(13), 0);
    }

    // ---- promise 4

    private static void sleeperOfSetLevel() {
        Due.sentence(4, "`sleeper`: a sleeper");
        int[] numbers = {10, 40, 60};
        for (int n : numbers) {
            BallastTrack x = Tracks.ofSleepers(n);
            Due.refusesOutside(0, n - 1, sleeper -> x.setLevel(sleeper, 3));
            Due.is(x.setLevel(0, 3), 0);
            Due.is(x.setLevel(n - 1, 4), 0);
            Due.is(x.sleeper(0, 0), 3);
            Due.is(x.sleeper(n - 1, 0), 4);
            Due.is(x.sleeper(1, 0), 0);
        }
    }

    private static void levelOfSetLevel() {
        Due.sentence(4, "`level`: -9999 to 9999");
        BallastTrack x = new BallastTrack();
        Due.refusesOutside(-9999, 9999, level -> x.setLevel(5, level));
        Due.is(x.setLevel(5, -9999), 0);
        Due.is(x.sleeper(5, 0), -9999);
        Due.is(x.setLevel(5, 9999), -9999);
        Due.is(x.sleeper(5, 0), 9999);
        Due.is(x.account(6), 9999);
    }

    private static void setLevelAnswersTheOldOne() {
        Due.sentence(4, "Sets the level of the ballast of a sleeper.");
        Due.sentence(4, "Returns the previous level;");
        BallastTrack x = Tracks.ofSleepers(10);
        Due.is(x.setLevel(2, -7), 0);
        Due.is(x.setLevel(2, -7), -7);
        Due.is(x.trains(200, 20, 1), 1);
        Due.is(x.setLevel(2, -26), -27);
        x.addJob(2, 2, 0);
        Due.is(x.work(3), 1);
        Due.is(x.setLevel(2, 5), 0);
        Due.is(x.account(6), -7 + 1 + 5);
        Due.is(x.sleeper(2, 8), 20);
        Due.is(x.sleeper(2, 9), 26);
    }

    private static void setLevelRefuses() {
        Due.sentence(4, "INVALID_ARGUMENT if an argument is out of range.");
        BallastTrack x = new BallastTrack();
        Due.is(x.setLevel(40, 0), INVALID);
        Due.is(x.setLevel(0, 10000), INVALID);
        Due.is(x.setLevel(-1, -10000), INVALID);
        Due.is(x.account(6), 0);
        Due.is(x.count(13), 0);
    }

    // ---- promise 8

    private static BallastTrack fouled(int n) {
        BallastTrack x = Tracks.ofSleepers(n);
        Due.is(Due.loaded(x, "b0-9=12;f0-9=100;f0=3;f9=5;"), 4);
        return x;
    }

    private static void renewFrom() {
        Due.sentence(8, "`from`: a sleeper");
        BallastTrack x = fouled(10);
        Due.refusesOutside(0, 9, from -> x.renew(from, 9));
        Due.is(x.renew(10, 10), INVALID);
        Due.is(x.renew(-1, -1), INVALID);
        Due.is(x.renew(0, 0), 3);
        Due.is(x.renew(9, 9), 5);
        Due.is(x.sleeper(1, 1), 100);
        Due.is(x.sleeper(8, 1), 100);
    }

    private static void renewTo() {
        Due.sentence(8, "`to`: from or a later sleeper");
        BallastTrack x = fouled(10);
        Due.refusesOutside(4, 9, to -> x.renew(4, to));
        Due.refusesOutside(0, 9, to -> x.renew(0, to));
        Due.is(x.count(13), 2);
        Due.is(x.renew(4, 4), 100);
        Due.is(x.renew(4, 5), 100);
        Due.is(x.renew(4, 9), 305);
        Due.is(x.sleeper(3, 1), 100);
        BallastTrack y = fouled(60);
        Due.is(y.renew(59, 60), INVALID);
        Due.is(y.renew(9, 59), 5);
    }

    private static void renewLeavesLevels() {
        Due.sentence(8, "Renews the ballast of some sleepers: their fouling becomes 0 (levels stay).");
        BallastTrack x = fouled(10);
        Due.is(x.renew(0, 9), 808);
        for (int sleeper = 0; sleeper < 10; sleeper++) {
            Due.is(x.sleeper(sleeper, 1), 0);
            Due.is(x.sleeper(sleeper, 0), 12);
        }
        Due.is(x.account(6), 120);
    }

    private static void renewAnswersTheSum() {
        Due.sentence(8, "Returns the sum of the foulings that they had;");
        BallastTrack x = Tracks.ofSleepers(60);
        Due.is(x.renew(0, 59), 0);
        Due.is(x.count(13), 2);
        Due.is(Due.loaded(x, "f0-59=100;"), 1);
        Due.is(x.renew(0, 59), 6000);
        Due.is(x.renew(0, 59), 0);
        x.undo();
        x.undo();
        Due.is(x.renew(59, 59), 100);
    }

    private static void renewRefuses() {
        Due.sentence(8, "INVALID_ARGUMENT if an argument is out of range.");
        BallastTrack x = fouled(10);
        Due.is(x.renew(5, 4), INVALID);
        Due.is(x.renew(5, 10), INVALID);
        Due.is(x.renew(-1, 4), INVALID);
        Due.is(x.sleeper(4, 1), 100);
        Due.is(x.sleeper(5, 1), 100);
        Due.is(x.count(13), 2);
    }

    // ---- the rail

    private static void railFallsByK() {
        Due.sentence(0, "The rail is stiff: from a sleeper to a neighbor its level falls by at most k, 1 to 20 (at first 4).");
        BallastTrack x = Tracks.ofSleepers(60);
        x.setLevel(30, 9999);
        int[] stiffness = {4, 1, 20};
        for (int k : stiffness) {
            x.setNumber(0, k);
            for (int sleeper : new int[] {0, 29, 30, 31, 59}) {
                Due.is(x.sleeper(sleeper, 2), 9999 - k * Math.abs(sleeper - 30));
            }
        }
        x.setNumber(0, 4);
        // A fall of k is no bridge yet, one more is.
        x.setLevel(30, 4);
        Due.is(x.sleeper(31, 3), 0);
        x.setLevel(30, 5);
        Due.is(x.sleeper(31, 3), 1);
        Due.is(x.sleeper(29, 3), 1);
        Due.is(x.sleeper(32, 3), 0);
    }

    private static void railIsTheGreatest() {
        Due.sentence(0, "So the level of the rail at a sleeper is the greatest of all (level of the ballast at some "
            + "sleeper) - k * (number of sleepers from there to here).");
        BallastTrack x = Tracks.ofSleepers(10);
        Due.is(Due.loaded(x, "b0-9=-9999;"), 1);
        for (int sleeper = 0; sleeper < 10; sleeper++) {
            Due.is(x.sleeper(sleeper, 2), -9999);
        }
        x.setLevel(0, -9000);
        x.setLevel(9, -8990);
        int[] due = {-9000, -9004, -9008, -9012, -9010, -9006, -9002, -8998, -8994, -8990};
        for (int sleeper = 0; sleeper < 10; sleeper++) {
            Due.is(x.sleeper(sleeper, 2), due[sleeper]);
        }
    }

    /** The last sleeper is no neighbor of the first one, and there is nothing behind the ends. */
    private static void railHasTwoEnds() {
        Due.sentence(0, "(number of sleepers from there to here)");
        BallastTrack x = Tracks.ofSleepers(10);
        x.setLevel(9, 30);
        Due.is(x.sleeper(0, 2), 0);
        Due.is(x.sleeper(2, 2), 2);
        Due.is(x.sleeper(1, 2), 0);
        x.setLevel(9, -30);
        Due.is(x.sleeper(9, 2), -4);
        x.setLevel(0, -30);
        Due.is(x.sleeper(0, 2), -4);
        x.begin(60);
        x.setLevel(59, 9999);
        x.begin(10);
        Due.is(x.sleeper(9, 2), 0);
    }

    private static void voids() {
        Due.sentence(0, "The void of a sleeper is the level of the rail there less that of its ballast.");
        BallastTrack x = Tracks.ofSleepers(10);
        x.setLevel(0, -9999);
        x.setLevel(9, 9999);
        Due.is(x.sleeper(9, 3), 0);
        Due.is(x.sleeper(8, 3), 9995);
        Due.is(x.sleeper(0, 3), 9999 - 36 + 9999);
    }

    private static void hangsOrCarries() {
        Due.sentence(0, "A sleeper hangs if its void is greater than h, 0 to 99 (at first 10);");
        Due.sentence(0, "otherwise it carries.");
        int[] greatest = {10, 0, 99};
        for (int h : greatest) {
            BallastTrack x = new BallastTrack();
            x.setNumber(1, h);
            x.setLevel(7, -4 - h);
            Due.is(x.sleeper(7, 3), h);
            Due.is(x.sleeper(7, 4), 0);
            Due.is(x.count(10), 0);
            x.setLevel(7, -4 - h - 1);
            Due.is(x.sleeper(7, 3), h + 1);
            Due.is(x.sleeper(7, 4), 1);
            Due.is(x.count(10), 1);
        }
        BallastTrack x = new BallastTrack();
        x.setNumber(1, 0);
        Due.is(x.count(10), 0);
    }

    // ---- strings and orders

    private static void stringsAreTwoA() {
        Due.sentence(0, "A survey string is 2 * a sleepers long, a from 1 to 5 (at first 3).");
        BallastTrack x = Tracks.ofSleepers(20);
        x.setNumber(0, 20);
        x.setLevel(10, 8);
        int[] lengths = {3, 1, 5};
        for (int a : lengths) {
            x.setNumber(2, a);
            for (int i = 0; i < 20; i++) {
                // With a of 5, sleeper 15 is too near to the end for a string.
                int due = i == 10 ? 16 : Math.abs(i - 10) == a && i < 20 - a ? -8 : 0;
                Due.is(x.sleeper(i, 6), due);
            }
        }
    }

    private static void stringsOfTheShortestTrack() {
        Due.sentence(0, "The defect at a sleeper i with a <= i < n - a is "
            + "2 * (rail at i) - (rail at i - a) - (rail at i + a);");
        BallastTrack x = Tracks.ofSleepers(10);
        x.setNumber(0, 20);
        Due.is(Due.loaded(x, "b0=1;b1=2;b2=4;b3=8;b4=16;b5=-1;b6=-2;b7=-4;b8=-8;b9=-16;"), 10);
        x.setNumber(2, 5);
        for (int i = 0; i < 10; i++) {
            Due.is(x.sleeper(i, 6), 0);
        }
        x.setNumber(2, 4);
        Due.is(x.sleeper(3, 6), 0);
        Due.is(x.sleeper(4, 6), 32 - 1 + 8);
        Due.is(x.sleeper(5, 6), -2 - 2 + 16);
        Due.is(x.sleeper(6, 6), 0);
        x.begin(11);
        x.setNumber(2, 5);
        x.setLevel(5, 9);
        Due.is(x.sleeper(4, 6), 0);
        Due.is(x.sleeper(5, 6), 18);
        Due.is(x.sleeper(6, 6), 0);
    }

    private static void defectsAtTheEnds() {
        Due.sentence(0, "at all other sleepers it is 0.");
        for (int a = 1; a <= 5; a++) {
            for (int n : new int[] {12, 60}) {
                BallastTrack x = Tracks.ofSleepers(n);
                x.setNumber(0, 20);
                x.setNumber(2, a);
                x.setLevel(a - 1, 15);
                Due.is(x.sleeper(a - 1, 6), 0);
                x.setLevel(a, 15);
                Due.is(x.sleeper(a, 6), a == 1 ? 15 : 30);
                x.setLevel(a - 1, 0);
                x.setLevel(a, 0);
                x.setLevel(n - a, -15);
                Due.is(x.sleeper(n - a, 6), 0);
                x.setLevel(n - a - 1, -15);
                Due.is(x.sleeper(n - a - 1, 6), a == 1 ? -15 : -30);
                Due.is(x.sleeper(0, 6), 0);
                Due.is(x.sleeper(n - 1, 6), 0);
            }
        }
    }

    /** With k 20, a level of s at the first sleeper alone is a defect of -s at sleeper 3, and no other. */
    private static void ordersAtTheLimits() {
        Due.sentence(0, "The order at a sleeper is 0 if the size of its defect is at most the first limit, 1 if it is at "
            + "most the second one, 2 if it is at most the third one, and 3 (closed) otherwise.");
        BallastTrack x = Tracks.ofSleepers(10);
        x.setNumber(0, 20);
        x.setNumber(3, 5);
        x.setNumber(4, 10);
        x.setNumber(5, 15);
        int[] sizes = {0, 5, 6, 10, 11, 15, 16, 20};
        int[] orders = {0, 0, 1, 1, 2, 2, 3, 3};
        for (int i = 0; i < sizes.length; i++) {
            x.setLevel(0, sizes[i]);
            Due.is(x.sleeper(3, 6), -sizes[i]);
            Due.is(x.sleeper(3, 7), orders[i]);
            x.setLevel(0, -sizes[i]);
            Due.is(x.sleeper(3, 6), sizes[i]);
            Due.is(x.sleeper(3, 7), orders[i]);
            Due.is(x.sleeper(0, 7), 0);
            Due.is(x.count(11), orders[i]);
        }
    }

    private static void limitsAtTheirEdges() {
        Due.sentence(0, "The limits are 1 to 2000, ascending, at first 20, 40 and 80.");
        BallastTrack x = Tracks.ofSleepers(20);
        Due.is(x.count(4), 20);
        Due.is(x.count(5), 40);
        Due.is(x.count(6), 80);
        x.setNumber(0, 20);
        x.setNumber(3, 1);
        x.setNumber(4, 2);
        x.setNumber(5, 3);
        for (int size = 0; size < 6; size++) {
            x.setLevel(0, size);
            Due.is(x.count(11), Math.min(3, Math.max(0, size - 1)));
        }
        // No defect is greater than 2 * 5 * 20.
        x.setNumber(2, 5);
        x.setLevel(0, 0);
        x.setLevel(10, 9999);
        Due.is(x.sleeper(10, 6), 200);
        x.setNumber(5, 2000);
        x.setNumber(4, 1999);
        x.setNumber(3, 200);
        Due.is(x.count(11), 0);
        x.setNumber(3, 199);
        Due.is(x.count(11), 1);
        x.setNumber(4, 200);
        Due.is(x.count(11), 1);
    }

    private static void orderOfTheTrack() {
        Due.sentence(0, "The order of the track is the greatest order at a sleeper.");
        BallastTrack x = Tracks.ofSleepers(60);
        x.setNumber(0, 20);
        Due.is(x.count(11), 0);
        x.setLevel(56, -11);
        Due.is(x.sleeper(56, 7), 1);
        Due.is(x.count(11), 1);
        x.setLevel(3, 41);
        Due.is(x.sleeper(3, 7), 3);
        Due.is(x.count(11), 3);
        x.setLevel(3, 21);
        Due.is(x.count(11), 2);
        x.setLevel(3, 0);
        Due.is(x.count(11), 1);
        x.setLevel(56, -10);
        Due.is(x.count(11), 0);
    }
}
