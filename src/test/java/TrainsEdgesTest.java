/** Edges of the trains, and of promises 12, 21 and 23. */
public final class TrainsEdgesTest {
    private static final int INVALID = BallastTrack.INVALID_ARGUMENT;
    private static final int ILLEGAL = BallastTrack.ILLEGAL_STATE;
    private static final int NONE = BallastTrack.NONE;

    public static void main(String[] args) {
        axlesOfTrains();
        tonsOfTrains();
        countOfTrains();
        trainsAnswerHowManyPassed();
        trainsRefuse();
        theFirstOneCannotPass();
        lightestAndHeaviestTrain();
        closedTrack();
        asItIsAheadOfTheTrain();
        loadOfTwo();
        loadsToTheNearest();
        loadsToTheOtherSide();
        settlementIsRounded();
        settlementOfFouledBallast();
        settlementOfSlowTrains();
        greatestSettlement();
        floorOfTheLevels();
        foulingOfHangingSleepers();
        minutesLost();
        trainsAndTons();
        whyWhat();
        whyOfSeveral();
        whyAtTheEndsOfTheStrings();
        whyRefuses();
        whyOfNoOrder();
        axlesOfTheForecast();
        tonsOfTheForecast();
        orderOfTheForecast();
        atMostTwoHundred();
        isSoNow();
        atLeastTheOrder();
        Due.end();
    }

    /** With limits 5, 10 and 15, a level of s at sleeper 0 alone makes the order, and no void. */
    private static BallastTrack ofOrder(int order) {
        BallastTrack x = Tracks.ofSleepers(10);
        x.setNumber(0, 20);
        x.setNumber(3, 5);
        x.setNumber(4, 10);
        x.setNumber(5, 15);
        x.setLevel(0, 5 * order + 1 - (order == 0 ? 1 : 0));
        Due.is(x.count(11), order);
        Due.is(x.count(10), 0);
        return x;
    }

    // ---- promise 12

    private static void axlesOfTrains() {
        Due.sentence(12, "`axles`: 1 to 200");
        BallastTrack x = new BallastTrack();
        Due.refusesOutside(1, 200, axles -> x.trains(axles, 1, 1));
        Due.is(x.account(4), 0);
        Due.is(x.trains(1, 1, 1), 1);
        Due.is(x.trains(200, 1, 1), 1);
        Due.is(x.account(5), 201);
    }

    private static void tonsOfTrains() {
        Due.sentence(12, "`tons`: 1 to 30");
        BallastTrack x = new BallastTrack();
        Due.refusesOutside(1, 30, tons -> x.trains(1, tons, 1));
        Due.is(x.account(4), 0);
        Due.is(x.trains(1, 1, 1), 1);
        Due.is(x.trains(1, 30, 1), 1);
        Due.is(x.account(5), 31);
    }

    private static void countOfTrains() {
        Due.sentence(12, "`count`: 1 to 50");
        BallastTrack x = new BallastTrack();
        Due.refusesOutside(1, 50, count -> x.trains(1, 1, count));
        Due.is(x.account(4), 0);
        Due.is(x.trains(1, 1, 1), 1);
        Due.is(x.account(4), 1);
        Due.is(x.trains(1, 1, 50), 50);
        Due.is(x.account(4), 51);
        Due.is(x.count(13), 2);
    }

    private static void trainsAnswerHowManyPassed() {
        Due.sentence(12, "Lets trains pass, one after the other, until one of them cannot.");
        Due.sentence(12, "Returns the number of trains that passed;");
        for (int count = 1; count <= 50; count++) {
            BallastTrack x = Tracks.dipping();
            Due.is(x.trains(200, 20, count), Math.min(count, 3));
            Due.is(x.account(4), Math.min(count, 3));
            Due.is(x.account(5), 4000 * Math.min(count, 3));
            Due.is(x.count(11), Math.min(count, 3));
            Due.is(x.sleeper(0, 8), count == 1 ? 20 : count == 2 ? 34 : 42);
            Due.is(x.sleeper(10, 8), count == 1 ? 40 : count == 2 ? 68 : 84);
        }
    }

    private static void trainsRefuse() {
        Due.sentence(12, "INVALID_ARGUMENT if an argument is out of range;");
        BallastTrack closed = ofOrder(3);
        for (BallastTrack x : new BallastTrack[] {new BallastTrack(), closed}) {
            int saved = x.count(13);
            Due.is(x.trains(0, 1, 1), INVALID);
            Due.is(x.trains(201, 1, 1), INVALID);
            Due.is(x.trains(1, 0, 1), INVALID);
            Due.is(x.trains(1, 31, 1), INVALID);
            Due.is(x.trains(1, 1, 0), INVALID);
            Due.is(x.trains(1, 1, 51), INVALID);
            Due.is(x.count(13), saved);
        }
    }

    private static void theFirstOneCannotPass() {
        Due.sentence(12, "ILLEGAL_STATE if the first one cannot pass.");
        BallastTrack x = ofOrder(3);
        int saved = x.count(13);
        Due.is(x.trains(1, 1, 1), ILLEGAL);
        Due.is(x.trains(200, 30, 50), ILLEGAL);
        Due.is(x.count(13), saved);
        Due.is(x.account(4), 0);
        Due.is(x.account(2), 0);
        x.setLevel(0, 15);
        Due.is(x.trains(1, 1, 50), 50);
        // If a later one cannot pass, those ahead of it have passed all the same.
        BallastTrack y = Tracks.dipping();
        Due.is(y.trains(200, 20, 4), 3);
        Due.is(y.trains(200, 20, 1), ILLEGAL);
    }

    // ---- trains

    private static void lightestAndHeaviestTrain() {
        Due.sentence(0, "A train has axles, 1 to 200, of some tons each, 1 to 30.");
        BallastTrack x = new BallastTrack();
        Due.is(x.trains(1, 1, 50), 50);
        Due.is(x.account(0), 0);
        Due.is(x.account(5), 50);
        Due.is(x.trains(200, 30, 50), 50);
        Due.is(x.sleeper(0, 0), -1500);
        Due.is(x.account(0), 40 * 1500);
        Due.is(x.account(5), 300050);
    }

    private static void closedTrack() {
        Due.sentence(0, "It cannot pass if the order of the track is 3.");
        for (int order = 0; order <= 3; order++) {
            BallastTrack x = ofOrder(order);
            Due.is(x.trains(1, 1, 7), order == 3 ? ILLEGAL : 7);
            Due.is(x.account(4), order == 3 ? 0 : 7);
        }
    }

    /** The first train puts sleeper 1, which hung, above its neighbors. */
    private static void asItIsAheadOfTheTrain() {
        Due.sentence(0, "When it passes, these things happen one after the other, by the voids and the order as they are ahead of it:");
        BallastTrack x = Tracks.ofSleepers(10);
        Due.is(Due.loaded(x, "b0=100;b1=85;b2=92;b3=88;b4=84;b5=80;b6=76;b7=72;b8=68;b9=64;"), 10);
        Due.is(x.count(10), 1);
        Due.is(x.trains(200, 20, 1), 1);
        int[] settled = {30, 0, 30, 20, 20, 20, 20, 20, 20, 20};
        for (int sleeper = 0; sleeper < 10; sleeper++) {
            Due.is(x.sleeper(sleeper, 8), settled[sleeper]);
            Due.is(x.sleeper(sleeper, 1), sleeper == 1 ? 1 : 0);
        }
        Due.is(x.sleeper(0, 4), 1);
        Due.is(x.sleeper(1, 4), 0);
        Due.is(x.sleeper(2, 4), 1);
        Due.is(x.trains(200, 20, 1), 1);
        int[] then = {30, 50, 30, 50, 40, 40, 40, 40, 40, 40};
        int[] foulings = {1, 1, 1, 0};
        for (int sleeper = 0; sleeper < 10; sleeper++) {
            Due.is(x.sleeper(sleeper, 8), then[sleeper]);
            Due.is(x.sleeper(sleeper, 1), foulings[Math.min(sleeper, 3)]);
        }
        // The train that brings order 1 loses no minutes; the next one does.
        BallastTrack y = Tracks.dipping();
        Due.is(y.trains(200, 20, 1), 1);
        Due.is(y.count(11), 1);
        Due.is(y.account(2), 0);
        Due.is(y.trains(200, 20, 1), 1);
        Due.is(y.account(2), 2);
        Due.is(y.sleeper(0, 8), 20 + 14);
    }

    private static void loadOfTwo() {
        Due.sentence(0, "Each sleeper has a load of 2.");
        BallastTrack x = Tracks.ofSleepers(60);
        for (int sleeper = 0; sleeper < 60; sleeper++) {
            Due.is(x.sleeper(sleeper, 5), 2);
        }
    }

    private static void loadsToTheNearest() {
        Due.sentence(0, "Each one that hangs hands it on: 1 to the nearest one to the left that carries, "
            + "1 to the nearest one to the right that carries;");
        BallastTrack x = Tracks.ofSleepers(20);
        Due.is(Due.loaded(x, "b1=-99;b3=-99;b6-8=-99;b12-17=-99;"), 4);
        int[] due = {3, 0, 4, 0, 3, 5, 0, 0, 0, 5, 2, 8, 0, 0, 0, 0, 0, 0, 8, 2};
        for (int sleeper = 0; sleeper < 20; sleeper++) {
            Due.is(x.sleeper(sleeper, 5), due[sleeper]);
        }
        Due.is(Due.loaded(x, "b0-19=-999;b0=0;b19=0;"), 3);
        for (int sleeper = 0; sleeper < 20; sleeper++) {
            Due.is(x.sleeper(sleeper, 5), sleeper == 0 || sleeper == 19 ? 20 : 0);
        }
    }

    private static void loadsToTheOtherSide() {
        Due.sentence(0, "if there is none on one side, both go to the other side.");
        for (int n : new int[] {10, 60}) {
            for (int one : new int[] {0, 4, n - 1}) {
                BallastTrack x = Tracks.ofSleepers(n);
                x.setNumber(0, 1);
                x.setNumber(1, 0);
                x.setLevel(one, 9999);
                Due.is(x.count(10), n - 1);
                for (int sleeper = 0; sleeper < n; sleeper++) {
                    Due.is(x.sleeper(sleeper, 5), sleeper == one ? 2 * n : 0);
                }
            }
        }
        BallastTrack x = Tracks.ofSleepers(10);
        Due.is(Due.loaded(x, "b0-2=-99;b9=-99;"), 2);
        int[] due = {0, 0, 0, 8, 2, 2, 2, 2, 4, 0};
        for (int sleeper = 0; sleeper < 10; sleeper++) {
            Due.is(x.sleeper(sleeper, 5), due[sleeper]);
        }
    }

    /** What a train of so many axles and tons settles sleeper 9 by, at an order and with a fouling. */
    private static void dueSettlement(int order, int fouling, int axles, int tons, int due) {
        BallastTrack x = ofOrder(order);
        Due.is(Due.loaded(x, "f0-9=" + fouling + ";"), 1);
        Due.is(x.trains(axles, tons, 1), 1);
        Due.is(x.sleeper(9, 8), due);
        Due.is(x.sleeper(9, 0), -due);
        Due.is(x.account(0), 10 * due);
    }

    private static void settlementIsRounded() {
        Due.sentence(0, "All numbers are whole;");
        Due.sentence(0, "levels are told in tenths of a millimeter;");
        Due.sentence(0, "\"/\" is the division rounded toward 0.");
        // 200 tons settle a load of 2 by 1.
        dueSettlement(0, 0, 199, 1, 0);
        dueSettlement(0, 0, 200, 1, 1);
        dueSettlement(0, 0, 133, 3, 1);
        dueSettlement(0, 0, 200, 2, 2);
        // Each train is rounded alone.
        BallastTrack x = Tracks.ofSleepers(10);
        Due.is(x.trains(199, 1, 50), 50);
        Due.is(x.account(0), 0);
        Due.is(x.trains(133, 3, 50), 50);
        Due.is(x.sleeper(3, 8), 50);
    }

    private static void settlementOfFouledBallast() {
        Due.sentence(0, "Each sleeper that carries settles by axles * tons * load * (100 + fouling) * f / 4000000");
        dueSettlement(0, 1, 198, 1, 0);
        dueSettlement(0, 1, 199, 1, 1);
        dueSettlement(0, 100, 99, 1, 0);
        dueSettlement(0, 100, 100, 1, 1);
        dueSettlement(0, 50, 133, 1, 0);
        dueSettlement(0, 50, 134, 1, 1);
        // 191 * 29 * 7 * 163 * 100 is 100 less than 158 times 4000000.
        BallastTrack x = Tracks.ofSleepers(12);
        x.setNumber(0, 1);
        Due.is(Due.loaded(x, "b4-8=-99;f3=63;"), 2);
        Due.is(x.sleeper(3, 5), 7);
        Due.is(x.trains(191, 29, 1), 1);
        Due.is(x.sleeper(3, 8), 157);
    }

    private static void settlementOfSlowTrains() {
        Due.sentence(0, "where f is 100, 70 or 40 for the order of the track 0, 1 or 2;");
        dueSettlement(0, 0, 200, 30, 30);
        dueSettlement(1, 0, 95, 3, 0);
        dueSettlement(1, 0, 143, 2, 1);
        dueSettlement(1, 0, 200, 30, 21);
        dueSettlement(2, 0, 166, 3, 0);
        dueSettlement(2, 0, 100, 5, 1);
        dueSettlement(2, 0, 200, 30, 12);
        dueSettlement(1, 100, 200, 30, 42);
        dueSettlement(2, 100, 200, 30, 24);
    }

    /** 6000 tons * a load of 120 * 200 * 100 is more than an int holds. */
    private static void greatestSettlement() {
        Due.sentence(0, "axles * tons * load * (100 + fouling) * f / 4000000");
        for (int one : new int[] {0, 30, 59}) {
            BallastTrack x = Tracks.ofSleepers(60);
            x.setNumber(0, 1);
            x.setLevel(one, 9999);
            x.setNumber(3, 2);
            Due.is(Due.loaded(x, "f0-59=100;"), 1);
            Due.is(x.sleeper(one, 5), 120);
            Due.is(x.count(11), one == 30 ? 1 : 0);
            Due.is(x.trains(200, 30, 1), 1);
            Due.is(x.sleeper(one, 8), one == 30 ? 2520 : 3600);
            Due.is(x.account(0), one == 30 ? 2520 : 3600);
        }
    }

    private static void floorOfTheLevels() {
        Due.sentence(0, "but its level becomes not less than -9999 (the accounts and the settlements tell what it really falls by).");
        int[] levels = {-9978, -9979, -9980, -9998, -9999};
        int[] due = {20, 20, 19, 1, 0};
        for (int i = 0; i < levels.length; i++) {
            BallastTrack x = Tracks.ofSleepers(10);
            Due.is(Due.loaded(x, "b0-9=" + levels[i] + ";"), 1);
            Due.is(x.trains(200, 20, 1), 1);
            Due.is(x.sleeper(4, 8), due[i]);
            Due.is(x.sleeper(4, 0), levels[i] - due[i]);
            Due.is(x.account(0), 10 * due[i]);
            Due.is(x.account(4), 1);
            Due.is(x.account(5), 4000);
            Due.is(x.trains(200, 30, 50), 50);
            Due.is(x.sleeper(9, 0), -9999);
            Due.is(x.sleeper(9, 8), levels[i] + 9999);
            Due.is(x.account(0), 10 * (levels[i] + 9999));
        }
    }

    private static void foulingOfHangingSleepers() {
        Due.sentence(0, "The fouling of each sleeper that hangs increases by 1, but not above 100.");
        BallastTrack x = Tracks.ofSleepers(10);
        Due.is(Due.loaded(x, "b1-4=-999;b6=-14;b8=-15;f1=98;f2=99;f3=100;f6=7;f8=7;f9=99;"), 9);
        Due.is(x.sleeper(6, 3), 10);
        Due.is(x.sleeper(8, 3), 11);
        Due.is(x.trains(1, 1, 1), 1);
        int[] due = {0, 99, 100, 100, 1, 0, 7, 0, 8, 99};
        for (int sleeper = 0; sleeper < 10; sleeper++) {
            Due.is(x.sleeper(sleeper, 1), due[sleeper]);
        }
        Due.is(x.trains(1, 1, 50), 50);
        int[] then = {0, 100, 100, 100, 51, 0, 7, 0, 58, 99};
        for (int sleeper = 0; sleeper < 10; sleeper++) {
            Due.is(x.sleeper(sleeper, 1), then[sleeper]);
        }
        Due.is(x.trains(1, 1, 50), 50);
        Due.is(x.sleeper(4, 1), 100);
        Due.is(x.sleeper(8, 1), 100);
    }

    private static void minutesLost() {
        Due.sentence(0, "The minutes lost increase by 0, 2 or 6 for the order of the track 0, 1 or 2;");
        int[] minutes = {0, 2, 6};
        for (int order = 0; order < 3; order++) {
            BallastTrack x = ofOrder(order);
            Due.is(x.trains(1, 1, 1), 1);
            Due.is(x.account(2), minutes[order]);
            Due.is(x.trains(1, 1, 50), 50);
            Due.is(x.account(2), 51 * minutes[order]);
        }
    }

    private static void trainsAndTons() {
        Due.sentence(0, "the trains by 1;");
        Due.sentence(0, "the tons by axles * tons.");
        BallastTrack x = new BallastTrack();
        Due.is(x.trains(7, 11, 1), 1);
        Due.is(x.account(4), 1);
        Due.is(x.account(5), 77);
        Due.is(x.trains(200, 30, 50), 50);
        Due.is(x.account(4), 51);
        Due.is(x.account(5), 300077);
        for (int time = 0; time < 500; time++) {
            x.trains(200, 30, 50);
        }
        Due.is(x.account(4), 25051);
        Due.is(x.account(5), 150300077);
        Due.is(x.account(0), 40 * 9999);
    }

    // ---- promise 21

    private static void whyWhat() {
        Due.sentence(21, "Tells why the track has its order.");
        Due.sentence(21, "`what`: 0 the sleeper with the greatest order, of several the one with the greatest size of its "
            + "defect, then the one with the smallest number; 1 the size of its defect");
        Due.sentence(21, "Returns the number;");
        BallastTrack x = Tracks.ofSleepers(60);
        x.setNumber(0, 20);
        x.setLevel(20, 11);
        Due.refusesOutside(0, 1, x::why);
        Due.is(x.why(0), 20);
        Due.is(x.why(1), 22);
        x.setLevel(40, -21);
        Due.is(x.sleeper(40, 6), -40);
        x.setLevel(40, -20);
        Due.is(x.why(0), 40);
        Due.is(x.why(1), 40);
        x.setLevel(50, 50);
        Due.is(x.count(11), 3);
        Due.is(x.why(0), 50);
        Due.is(x.why(1), 100);
    }

    private static void whyOfSeveral() {
        Due.sentence(21, "of several the one with the greatest size of its defect, then the one with the smallest number");
        BallastTrack x = Tracks.ofSleepers(60);
        x.setNumber(0, 20);
        int[] sleepers = {30, 50, 40, 10};
        int[] levels = {11, -12, -13, 13};
        int[] due = {30, 50, 40, 10};
        for (int i = 0; i < sleepers.length; i++) {
            x.setLevel(sleepers[i], levels[i]);
            Due.is(x.count(11), 1);
            Due.is(x.why(0), due[i]);
        }
        Due.is(x.why(1), 26);
        x.setLevel(20, -13);
        Due.is(x.why(0), 10);
        x.setLevel(10, 12);
        Due.is(x.why(0), 20);
        x.setLevel(50, -14);
        Due.is(x.why(0), 50);
        Due.is(x.why(1), 28);
    }

    private static void whyAtTheEndsOfTheStrings() {
        Due.sentence(21, "the sleeper with the greatest order");
        for (int n : new int[] {10, 60}) {
            BallastTrack x = Tracks.ofSleepers(n);
            x.setNumber(0, 20);
            x.setNumber(3, 5);
            x.setLevel(0, 6);
            Due.is(x.why(0), 3);
            Due.is(x.why(1), 6);
            x.setLevel(0, 0);
            x.setLevel(n - 1, 6);
            Due.is(x.why(0), n - 4);
            Due.is(x.why(1), 6);
        }
    }

    private static void whyRefuses() {
        Due.sentence(21, "INVALID_ARGUMENT if what is out of range;");
        BallastTrack x = new BallastTrack();
        Due.is(x.why(-1), INVALID);
        Due.is(x.why(2), INVALID);
        Tracks.close(x);
        Due.is(x.why(-1), INVALID);
        Due.is(x.why(2), INVALID);
    }

    private static void whyOfNoOrder() {
        Due.sentence(21, "NONE if the order of the track is 0.");
        BallastTrack x = Tracks.ofSleepers(10);
        Due.is(x.why(0), NONE);
        Due.is(x.why(1), NONE);
        x.setNumber(0, 20);
        x.setLevel(0, 20);
        Due.is(x.sleeper(3, 6), -20);
        Due.is(x.why(0), NONE);
        Due.is(x.why(1), NONE);
        x.setNumber(3, 19);
        Due.is(x.why(0), 3);
        Due.is(x.why(1), 20);
        x.setNumber(2, 5);
        Due.is(x.why(0), NONE);
    }

    // ---- promise 23

    private static void axlesOfTheForecast() {
        Due.sentence(23, "`axles`: 1 to 200");
        BallastTrack x = Tracks.dipping();
        Due.refusesOutside(1, 200, axles -> x.trainsUntil(axles, 20, 1));
        Due.is(x.trainsUntil(1, 20, 1), NONE);
        Due.is(x.trainsUntil(200, 20, 1), 1);
    }

    private static void tonsOfTheForecast() {
        Due.sentence(23, "`tons`: 1 to 30");
        BallastTrack x = Tracks.dipping();
        Due.refusesOutside(1, 30, tons -> x.trainsUntil(200, tons, 1));
        Due.is(x.trainsUntil(200, 1, 1), 11);
        Due.is(x.trainsUntil(200, 30, 1), 1);
    }

    private static void orderOfTheForecast() {
        Due.sentence(23, "`order`: 1 to 3");
        Due.sentence(23, "INVALID_ARGUMENT if an argument is out of range;");
        BallastTrack x = Tracks.dipping();
        Due.refusesOutside(1, 3, order -> x.trainsUntil(200, 20, order));
        for (int order = 1; order <= 3; order++) {
            Due.is(x.trainsUntil(200, 20, order), order);
            Due.is(x.trainsUntil(0, 20, order), INVALID);
            Due.is(x.trainsUntil(200, 31, order), INVALID);
        }
        Due.is(x.trainsUntil(1, 1, 0), INVALID);
        Due.is(x.trainsUntil(1, 1, 4), INVALID);
        Due.is(x.account(4), 0);
        Due.is(x.count(11), 0);
    }

    private static void atMostTwoHundred() {
        Due.sentence(23, "at most 200;");
        Due.sentence(23, "NONE if it is not so behind 200 trains.");
        int[] starts = {-99, 98, 99, 100, 101, 102};
        int[] due = {1, 198, 199, 200, NONE, NONE};
        for (int i = 0; i < starts.length; i++) {
            BallastTrack x = Tracks.sinkingEnd(starts[i]);
            Due.is(x.trainsUntil(66, 1, 1), due[i]);
        }
        BallastTrack x = Tracks.sinkingEnd(101);
        Due.is(x.trains(66, 1, 1), 1);
        Due.is(x.trainsUntil(66, 1, 1), 200);
        Due.is(x.trainsUntil(66, 1, 2), NONE);
        Due.is(new BallastTrack().trainsUntil(200, 30, 1), NONE);
    }

    private static void isSoNow() {
        Due.sentence(23, "Returns the number, 0 if it is so now");
        for (int now = 0; now <= 3; now++) {
            BallastTrack x = ofOrder(now);
            for (int order = 1; order <= 3; order++) {
                Due.is(x.trainsUntil(1, 1, order), now >= order ? 0 : NONE);
            }
        }
    }

    /** One train settles the fouled sleepers by 60, the others by 30: a defect of 60. */
    private static void atLeastTheOrder() {
        Due.sentence(23, "Tells how many trains can pass until the order of the track is at least a given one.");
        BallastTrack x = Tracks.dipping();
        x.setNumber(5, 59);
        for (int order = 1; order <= 3; order++) {
            Due.is(x.trainsUntil(200, 30, order), 1);
        }
        x.setNumber(5, 60);
        Due.is(x.trainsUntil(200, 30, 1), 1);
        Due.is(x.trainsUntil(200, 30, 2), 1);
        Due.is(x.trainsUntil(200, 30, 3), 2);
        Due.is(x.trains(200, 30, 50), 2);
        Due.is(x.trainsUntil(200, 30, 3), 0);
    }
}
