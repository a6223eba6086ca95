/** Promises 16, 17, 19 and 20: count, sleeper, account, rail. */
public final class LookingTest {
    private static final int INVALID = BallastTrack.INVALID_ARGUMENT;

    public static void main(String[] args) {
        count();
        sleeper();
        railBridges();
        loadsAreHandedOn();
        defects();
        ordersOfSleepers();
        account();
        rail();
        Due.end();
    }

    private static void count() {
        BallastTrack x = new BallastTrack();
        Due.is(x.count(-1), INVALID);
        Due.is(x.count(15), INVALID);
        Due.is(x.count(Integer.MIN_VALUE), INVALID);
        x.begin(30);
        x.setNumber(0, 20);
        x.setNumber(1, 9);
        x.setNumber(2, 1);
        x.setNumber(3, 11);
        x.setNumber(4, 22);
        x.setNumber(5, 33);
        x.setNumber(6, 99);
        x.setNumber(7, 8);
        x.addJob(0, 0, 0);
        x.setLevel(0, -40);
        x.setLevel(20, 6);
        x.appendCharacter('b');
        x.keep(1);
        int[] due = {30, 20, 9, 1, 11, 22, 33, 99, 8, 1, 1, 1, 1, 6, 2};
        for (int what = 0; what < due.length; what++) {
            Due.is(x.count(what), due[what]);
        }
        x.keep(0);
        Due.is(x.count(14), 3);
        x.setNumber(1, 0);
        Due.is(x.count(10), 1);
        x.setLevel(29, -1);
        Due.is(x.count(10), 1);
        x.setLevel(29, -21);
        Due.is(x.count(10), 2);
    }

    private static void sleeper() {
        BallastTrack x = new BallastTrack();
        Due.is(x.sleeper(-1, 0), INVALID);
        Due.is(x.sleeper(40, 0), INVALID);
        Due.is(x.sleeper(0, -1), INVALID);
        Due.is(x.sleeper(0, 10), INVALID);
        x.begin(10);
        Due.is(x.sleeper(10, 0), INVALID);
        Due.is(Due.loaded(x, "b0-9=100;b4=50;f4=7;f3=100;"), 4);
        x.addJob(4, 4, 55);
        x.work(3);
        x.trains(200, 20, 1);
        int[] three = {40, 100, 76, 36, 1, 0, -8, 0, 60, 0};
        int[] four = {55, 11, 72, 17, 1, 0, -16, 0, 0, 5};
        int[] nine = {80, 0, 80, 0, 0, 2, 0, 0, 20, 0};
        for (int what = 0; what < 10; what++) {
            Due.is(x.sleeper(3, what), three[what]);
            Due.is(x.sleeper(4, what), four[what]);
            Due.is(x.sleeper(9, what), nine[what]);
        }
    }

    private static void railBridges() {
        BallastTrack x = new BallastTrack();
        x.begin(10);
        x.setLevel(2, 10);
        x.setLevel(7, -30);
        int[] rails = {2, 6, 10, 6, 2, 0, 0, -4, 0, 0};
        int[] voids = {2, 6, 0, 6, 2, 0, 0, 26, 0, 0};
        for (int sleeper = 0; sleeper < 10; sleeper++) {
            Due.is(x.sleeper(sleeper, 2), rails[sleeper]);
            Due.is(x.sleeper(sleeper, 3), voids[sleeper]);
            Due.is(x.sleeper(sleeper, 4), sleeper == 7 ? 1 : 0);
        }
        x.setNumber(1, 6);
        Due.is(x.count(10), 1);
        x.setNumber(1, 5);
        Due.is(x.count(10), 3);
        Due.is(x.sleeper(1, 4), 1);
        Due.is(x.sleeper(3, 4), 1);
        x.setNumber(1, 0);
        Due.is(x.count(10), 5);
        x.setNumber(1, 26);
        Due.is(x.count(10), 0);
    }

    private static void loadsAreHandedOn() {
        BallastTrack x = new BallastTrack();
        x.begin(12);
        Due.is(Due.loaded(x, "b0-1=-99;b4=-99;b6-7=-99;b11=-99;"), 4);
        int[] due = {0, 0, 6, 3, 0, 5, 0, 0, 4, 2, 4, 0};
        int sum = 0;
        for (int sleeper = 0; sleeper < 12; sleeper++) {
            Due.is(x.sleeper(sleeper, 5), due[sleeper]);
            sum += x.sleeper(sleeper, 5);
        }
        Due.is(sum, 24);
        x.setLevel(5, 9999);
        for (int sleeper = 0; sleeper < 12; sleeper++) {
            Due.is(x.sleeper(sleeper, 5), sleeper == 5 ? 24 : 0);
        }
    }

    private static void defects() {
        BallastTrack x = new BallastTrack();
        x.begin(10);
        x.setNumber(0, 20);
        Due.is(Due.loaded(x, "b0=3;b1=5;b2=-4;b3=9;b4=12;b5=-1;b6=0;b7=8;b8=2;b9=-7;"), 10);
        int[] levels = {3, 5, -4, 9, 12, -1, 0, 8, 2, -7};
        for (int a = 1; a <= 5; a++) {
            x.setNumber(2, a);
            for (int i = 0; i < 10; i++) {
                int due = i >= a && i < 10 - a ? 2 * levels[i] - levels[i - a] - levels[i + a] : 0;
                Due.is(x.sleeper(i, 6), due);
            }
        }
    }

    private static void ordersOfSleepers() {
        BallastTrack x = new BallastTrack();
        x.setNumber(0, 20);
        Due.is(Due.loaded(x, "b10=10;b20=11;b30=21;b36=41;"), 4);
        Due.is(x.sleeper(10, 7), 0);
        Due.is(x.sleeper(20, 7), 1);
        Due.is(x.sleeper(30, 7), 2);
        Due.is(x.sleeper(36, 7), 3);
        Due.is(x.sleeper(37, 7), 0);
        Due.is(x.count(11), 3);
        x.setLevel(36, 0);
        Due.is(x.count(11), 2);
        x.setLevel(30, 0);
        Due.is(x.count(11), 1);
        x.setLevel(20, -11);
        Due.is(x.sleeper(20, 6), -22);
        Due.is(x.sleeper(20, 7), 1);
        x.setLevel(20, -10);
        Due.is(x.count(11), 0);
    }

    private static void account() {
        BallastTrack x = new BallastTrack();
        Due.is(x.account(-1), INVALID);
        Due.is(x.account(7), INVALID);
        x.setNumber(0, 20);
        x.setLevel(20, 15);
        x.addJob(0, 1, 60);
        Due.is(x.work(8), 2);
        Due.is(x.count(11), 2);
        Due.is(x.trains(200, 20, 1), 1);
        Due.is(x.account(1), 120);
        Due.is(x.account(2), 6);
        Due.is(x.account(3), 8);
        Due.is(x.account(4), 1);
        Due.is(x.account(5), 4000);
        Due.is(x.account(6), 15);
        int sum = 0;
        for (int sleeper = 0; sleeper < 40; sleeper++) {
            sum += x.sleeper(sleeper, 0);
        }
        Due.is(sum, x.account(6) + x.account(1) - x.account(0));
        Due.isTrue("trains settle the ballast", x.account(0) > 0);
    }

    private static void rail() {
        BallastTrack x = new BallastTrack();
        Due.is(x.rail(-1, 0), INVALID);
        Due.is(x.rail(40, 1), INVALID);
        Due.is(x.rail(0, -1), INVALID);
        Due.is(x.rail(0, 2), INVALID);
        Due.is(Due.loaded(x, "b0-39=-9999;b11=7;b13=1;b30=-60;b39=-20;"), 5);
        for (int sleeper = 0; sleeper < 40; sleeper++) {
            int due = Math.max(7 - 4 * Math.abs(sleeper - 11), 1 - 4 * Math.abs(sleeper - 13));
            due = Math.max(due, -60 - 4 * Math.abs(sleeper - 30));
            due = Math.max(due, -20 - 4 * Math.abs(sleeper - 39));
            Due.is(x.rail(sleeper, 0), due);
            Due.is(x.rail(sleeper, 1), due);
            Due.is(x.sleeper(sleeper, 2), due);
        }
        x.begin(10);
        Due.is(x.rail(10, 0), INVALID);
        Due.is(x.rail(9, 1), 0);
        x.setLevel(0, 100);
        Due.is(x.rail(9, 0), 64);
        Due.is(x.rail(9, 1), 64);
        x.begin(60);
        x.setLevel(59, 300);
        Due.is(x.rail(0, 0), 64);
        Due.is(x.rail(0, 1), 64);
    }
}
