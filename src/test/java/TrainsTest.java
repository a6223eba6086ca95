/** Promises 12, 21 and 23: trains, why, trainsUntil. */
public final class TrainsTest {
    private static final int INVALID = BallastTrack.INVALID_ARGUMENT;

    public static void main(String[] args) {
        trainsRefuse();
        trainsSettle();
        settlementIsRoundedDown();
        levelsHaveAFloor();
        greatestSettlement();
        greatestSettlementsOfSlowTrains();
        hangingSleepersFoul();
        ordersSlowAndCost();
        trainsStopWhenClosed();
        why();
        trainsUntil();
        trainsUntilAgreesWithTrains();
        Due.end();
    }

    private static void trainsRefuse() {
        BallastTrack x = new BallastTrack();
        int[][] wrong = {{0, 1, 1}, {201, 1, 1}, {1, 0, 1}, {1, 31, 1}, {1, 1, 0}, {1, 1, 51}};
        for (int[] row : wrong) {
            Due.is(x.trains(row[0], row[1], row[2]), INVALID);
        }
        Due.is(x.count(13), 0);
        Tracks.close(x);
        Due.is(x.count(11), 3);
        for (int[] row : wrong) {
            Due.is(x.trains(row[0], row[1], row[2]), INVALID);
        }
        int saved = x.count(13);
        Due.is(x.trains(1, 1, 1), BallastTrack.ILLEGAL_STATE);
        Due.is(x.count(13), saved);
        Due.is(x.account(4), 0);
    }

    private static void trainsSettle() {
        BallastTrack x = new BallastTrack();
        x.begin(10);
        x.setLevel(3, -50);
        x.setLevel(4, -50);
        x.setLevel(9, -50);
        Due.is(Due.loaded(x, "f2=50;f0=100;"), 1 + 1);
        Due.is(x.trains(200, 20, 1), 1);
        int[] due = {40, 20, 60, 0, 0, 40, 20, 20, 40, 0};
        for (int sleeper = 0; sleeper < 10; sleeper++) {
            Due.is(x.sleeper(sleeper, 8), due[sleeper]);
            Due.is(x.sleeper(sleeper, 0), (sleeper == 3 || sleeper == 4 || sleeper == 9 ? -50 : 0) - due[sleeper]);
        }
        Due.is(x.account(0), 240);
        Due.is(x.account(1), 0);
        Due.is(x.account(2), 0);
        Due.is(x.account(4), 1);
        Due.is(x.account(5), 4000);
        Due.is(x.account(6), -150);
        Due.is(x.sleeper(3, 1), 1);
        Due.is(x.sleeper(0, 1), 100);
        Due.is(x.count(13), 6);
        x.undo();
        Due.is(x.account(0), 0);
        Due.is(x.account(5), 0);
        Due.is(x.sleeper(3, 1), 0);
        Due.is(x.sleeper(0, 0), 0);
    }

    private static void settlementIsRoundedDown() {
        BallastTrack x = new BallastTrack();
        Due.is(x.trains(199, 1, 50), 50);
        Due.is(x.account(0), 0);
        Due.is(x.account(4), 50);
        Due.is(x.account(5), 9950);
        Due.is(x.trains(200, 1, 1), 1);
        Due.is(x.account(0), 40);
        Due.is(x.trains(133, 3, 1), 1);
        Due.is(x.account(0), 80);
        x.begin(12);
        x.setNumber(0, 1);
        Due.is(Due.loaded(x, "b4-8=-99;f3=63;"), 2);
        Due.is(x.sleeper(3, 5), 7);
        // 191 * 29 * 7 * 163 * 100 is 100 less than 158 times 4000000.
        Due.is(x.trains(191, 29, 1), 1);
        Due.is(x.sleeper(3, 8), 157);
    }

    private static void levelsHaveAFloor() {
        BallastTrack x = new BallastTrack();
        x.begin(10);
        Due.is(Due.loaded(x, "b0-9=-9990;b9=-9999;"), 2);
        Due.is(x.trains(200, 30, 2), 2);
        Due.is(x.sleeper(0, 0), -9999);
        Due.is(x.sleeper(0, 8), 9);
        Due.is(x.sleeper(9, 8), 0);
        Due.is(x.account(0), 81);
        Due.is(x.account(5), 12000);
        Due.is(x.account(6), -9 * 9990 - 9999);
    }

    private static void greatestSettlement() {
        BallastTrack x = new BallastTrack();
        x.begin(60);
        x.setNumber(0, 1);
        x.setLevel(0, 9999);
        Due.is(Due.loaded(x, "f0-59=100;"), 1);
        Due.is(x.sleeper(0, 5), 120);
        Due.is(x.trains(200, 30, 1), 1);
        Due.is(x.sleeper(0, 8), 3600);
        Due.is(x.sleeper(0, 0), 6399);
    }

    /** One sleeper carries the whole track, with a defect of 40 at it. */
    private static void greatestSettlementsOfSlowTrains() {
        int[] secondLimits = {40, 39};
        int[] settlements = {1260, 720};
        for (int i = 0; i < 2; i++) {
            BallastTrack x = new BallastTrack();
            x.begin(60);
            x.setNumber(0, 20);
            x.setNumber(2, 1);
            x.setNumber(4, secondLimits[i]);
            x.setLevel(30, 9999);
            Due.is(x.count(11), i + 1);
            Due.is(x.trains(200, 30, 1), 1);
            Due.is(x.sleeper(30, 8), settlements[i]);
            Due.is(x.account(0), settlements[i]);
        }
    }

    private static void hangingSleepersFoul() {
        BallastTrack x = new BallastTrack();
        x.begin(10);
        x.setLevel(0, -14);
        x.setLevel(1, -9999);
        x.setLevel(2, -9999);
        Due.is(Due.loaded(x, "f1=99;f2=100;f3=30;"), 3);
        Due.is(x.sleeper(0, 3), 2);
        Due.is(x.trains(1, 1, 1), 1);
        int[] due = {0, 100, 100, 30};
        for (int sleeper = 0; sleeper < due.length; sleeper++) {
            Due.is(x.sleeper(sleeper, 1), due[sleeper]);
        }
        Due.is(x.trains(1, 1, 1), 1);
        Due.is(x.sleeper(1, 1), 100);
    }

    private static void ordersSlowAndCost() {
        int[] heights = {10, 11, 20, 21, 40, 41};
        int[] orders = {0, 1, 1, 2, 2, 3};
        int[] settlements = {20, 14, 14, 8, 8, 0};
        int[] lost = {0, 2, 2, 6, 6, 0};
        for (int i = 0; i < heights.length; i++) {
            BallastTrack x = new BallastTrack();
            x.begin(20);
            x.setNumber(0, 20);
            x.setNumber(1, 99);
            x.setLevel(10, heights[i]);
            Due.is(x.sleeper(10, 6), 2 * heights[i]);
            Due.is(x.sleeper(10, 7), orders[i]);
            Due.is(x.count(11), orders[i]);
            Due.is(x.trains(200, 20, 1), orders[i] == 3 ? BallastTrack.ILLEGAL_STATE : 1);
            Due.is(x.sleeper(0, 8), settlements[i]);
            Due.is(x.account(2), lost[i]);
        }
    }

    private static void trainsStopWhenClosed() {
        BallastTrack x = Tracks.dipping();
        Due.is(x.trains(200, 20, 1), 1);
        Due.is(x.sleeper(10, 6), -40);
        Due.is(x.count(11), 1);
        Due.is(x.trains(200, 20, 50), 2);
        Due.is(x.count(11), 3);
        Due.is(x.sleeper(10, 6), -2 * 42);
        Due.is(x.sleeper(10, 0), -40 - 28 - 16);
        Due.is(x.sleeper(0, 0), -20 - 14 - 8);
        Due.is(x.account(4), 3);
        Due.is(x.account(2), 2 + 6);
        Due.is(x.trains(1, 1, 1), BallastTrack.ILLEGAL_STATE);
        Due.is(x.undo(), 5);
        Due.is(x.account(4), 1);
    }

    private static void why() {
        BallastTrack x = new BallastTrack();
        Due.is(x.why(-1), INVALID);
        Due.is(x.why(2), INVALID);
        Due.is(x.why(0), BallastTrack.NONE);
        Due.is(x.why(1), BallastTrack.NONE);
        x.setNumber(0, 20);
        x.setLevel(20, 10);
        Due.is(x.why(0), BallastTrack.NONE);
        x.setLevel(20, 12);
        Due.is(x.why(0), 20);
        Due.is(x.why(1), 24);
        x.setLevel(30, 12);
        Due.is(x.why(0), 20);
        x.setLevel(10, 12);
        Due.is(x.why(0), 10);
        x.setLevel(30, 13);
        Due.is(x.why(0), 30);
        Due.is(x.why(1), 26);
        Due.is(Due.loaded(x, "b0-39=60;b10=48;b20=47;b30=48;"), 4);
        Due.is(x.why(0), 20);
        Due.is(x.why(1), 26);
        Due.is(x.why(2), INVALID);
    }

    private static void trainsUntil() {
        BallastTrack x = Tracks.dipping();
        int saved = x.count(13);
        int[][] wrong = {{0, 1, 1}, {201, 1, 1}, {1, 0, 1}, {1, 31, 1}, {1, 1, 0}, {1, 1, 4}};
        for (int[] row : wrong) {
            Due.is(x.trainsUntil(row[0], row[1], row[2]), INVALID);
        }
        Due.is(x.trainsUntil(200, 20, 1), 1);
        Due.is(x.trainsUntil(200, 20, 2), 2);
        Due.is(x.trainsUntil(200, 20, 3), 3);
        Due.is(x.trainsUntil(1, 1, 1), BallastTrack.NONE);
        Due.is(x.sleeper(10, 0), 0);
        Due.is(x.account(4), 0);
        Due.is(x.count(13), saved);
        x = new BallastTrack();
        Tracks.close(x);
        for (int order = 1; order <= 3; order++) {
            Due.is(x.trainsUntil(1, 1, order), 0);
        }
        x = new BallastTrack();
        Due.is(x.trainsUntil(200, 30, 1), BallastTrack.NONE);
    }

    private static void trainsUntilAgreesWithTrains() {
        int[] starts = {-100, -99, 0, 99, 100, 101};
        int[] due = {0, 1, 100, 199, 200, BallastTrack.NONE};
        for (int i = 0; i < starts.length; i++) {
            BallastTrack x = Tracks.sinkingEnd(starts[i]);
            Due.is(x.trainsUntil(66, 1, 1), due[i]);
            Due.is(x.trainsUntil(66, 1, 2), BallastTrack.NONE);
            int passed = 0;
            while (x.count(11) == 0 && passed < 200) {
                Due.is(x.trains(66, 1, 1), 1);
                passed++;
            }
            Due.is(x.count(11) == 0 ? BallastTrack.NONE : passed, due[i]);
        }
    }
}
