/** Promise 24: bestRow. */
public final class BestRowTest {
    private static final int INVALID = BallastTrack.INVALID_ARGUMENT;

    public static void main(String[] args) {
        refuses();
        finds();
        smallestOfSeveral();
        liftsLikeTheMachine();
        aRowMayMakeItWorse();
        wholeTrack();
        Due.end();
    }

    private static void refuses() {
        BallastTrack x = new BallastTrack();
        int[][] wrong = {{0, 0, 0}, {21, 0, 0}, {1, -10000, 0}, {1, 10000, 0}, {1, 0, -1}, {1, 0, 2}};
        for (int[] row : wrong) {
            Due.is(x.bestRow(row[0], row[1], row[2]), INVALID);
        }
        Due.is(x.bestRow(20, 0, 0), 0);
        x.begin(15);
        Due.is(x.bestRow(16, 0, 0), INVALID);
        Due.is(x.bestRow(15, 0, 0), 0);
        Due.is(x.bestRow(15, 0, 1), 0);
        Due.is(x.count(13), 1);
    }

    private static void finds() {
        BallastTrack x = new BallastTrack();
        Due.is(Due.loaded(x, "b10=-30;b11=-20;b20=-40;"), 3);
        Due.is(x.bestRow(1, 0, 0), 20);
        Due.is(x.bestRow(1, 0, 1), 26 + 16);
        Due.is(x.bestRow(2, 0, 0), 10);
        Due.is(x.bestRow(2, 0, 1), 36);
        Due.is(x.bestRow(12, 0, 0), 9);
        Due.is(x.bestRow(12, 0, 1), 0);
        Due.is(x.sleeper(10, 0), -30);
        Due.is(x.sleeper(10, 1), 0);
        Due.is(x.count(13), 1);
    }

    private static void smallestOfSeveral() {
        BallastTrack x = new BallastTrack();
        x.setLevel(39, -50);
        Due.is(x.bestRow(3, 0, 0), 37);
        x.setLevel(0, -50);
        Due.is(x.bestRow(3, 0, 0), 0);
        Due.is(x.bestRow(3, 0, 1), 46);
        Due.is(x.bestRow(3, -9999, 0), 0);
        Due.is(x.bestRow(3, -9999, 1), 92);
        x.setLevel(0, -49);
        Due.is(x.bestRow(1, 0, 0), 39);
    }

    private static void liftsLikeTheMachine() {
        BallastTrack x = new BallastTrack();
        x.setNumber(6, 10);
        Due.is(Due.loaded(x, "b10=-8;b20=-50;"), 2);
        Due.is(x.bestRow(1, 0, 0), 20);
        Due.is(x.bestRow(1, 0, 1), 4 + 36);
        x.setNumber(7, 10);
        x.addJob(20, 20, 0);
        Due.is(x.bestRow(20, 0, 0), 1);
        Due.is(x.bestRow(20, 0, 1), 40);
        x.setNumber(7, 11);
        Due.is(x.bestRow(20, 0, 0), 0);
        Due.is(x.bestRow(20, 0, 1), 50);
    }

    private static void aRowMayMakeItWorse() {
        BallastTrack x = new BallastTrack();
        x.begin(10);
        // A single sleeper that is lifted by 5 takes the rail off its neighbors by 1 each.
        Due.is(x.bestRow(1, 5, 1), 1);
        Due.is(x.bestRow(1, 5, 0), 0);
        Due.is(x.bestRow(3, 12, 1), 8 + 4);
    }

    private static void wholeTrack() {
        BallastTrack x = new BallastTrack();
        x.begin(10);
        x.setLevel(4, -30);
        Due.is(x.bestRow(10, 50, 0), 0);
        Due.is(x.bestRow(10, 50, 1), 0);
        x.setNumber(6, 50);
        Due.is(x.bestRow(10, 50, 1), 26);
        x.begin(60);
        x.setLevel(59, -40);
        Due.is(x.bestRow(20, 0, 0), 40);
        Due.is(x.bestRow(20, 0, 1), 0);
        Due.is(x.bestRow(20, -9999, 1), 36);
        x.begin(10);
        Due.is(x.bestRow(10, -9999, 1), 0);
    }
}
