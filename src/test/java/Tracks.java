/** Tracks that several tests begin with. */
final class Tracks {
    private Tracks() {
    }

    static BallastTrack ofSleepers(int sleepers) {
        BallastTrack x = new BallastTrack();
        Due.is(x.begin(sleepers), 40);
        return x;
    }

    /** A peak of the greatest steepness, whose defect is 2 * 3 * 20. */
    static void close(BallastTrack x) {
        x.setNumber(0, 20);
        x.setLevel(20, 60);
    }

    /** The fouled sleepers settle twice as fast; their dip grows until the track is closed. */
    static BallastTrack dipping() {
        BallastTrack x = ofSleepers(20);
        x.setNumber(0, 20);
        x.setNumber(1, 99);
        Due.is(Due.loaded(x, "f8-12=100;"), 1);
        return x;
    }

    /**
     * Only sleeper 0 settles, by 1 a train: it is fouled by 2, and it and sleeper 5 have the loads of
     * those between them. The defect at 5 grows by 1 a train from 1 - start, and 101 is order 1.
     */
    static BallastTrack sinkingEnd(int start) {
        BallastTrack x = ofSleepers(20);
        x.setNumber(0, 20);
        x.setNumber(2, 5);
        x.setNumber(5, 2000);
        x.setNumber(4, 1999);
        x.setNumber(3, 100);
        x.setLevel(0, start);
        Due.is(Due.loaded(x, "b1-4=-9999;b10=-1;f0=2;"), 3);
        return x;
    }
}
