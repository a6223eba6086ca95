import java.util.ArrayList;
import java.util.List;
import java.util.function.Supplier;
import java.util.function.ToIntFunction;

/**
 * The errors: each call that is refused, and each call that only looks, leaves an object that answers all
 * that comes then as one does that hasn't had the call.
 */
public final class RefusedTest {
    private static final int INVALID = BallastTrack.INVALID_ARGUMENT;
    private static final int ILLEGAL = BallastTrack.ILLEGAL_STATE;
    private static final int CAPACITY = BallastTrack.CAPACITY_EXCEEDED;
    private static final int NONE = BallastTrack.NONE;

    public static void main(String[] args) {
        argumentsOfTheTrack();
        argumentsOfJobsTrainsAndImages();
        argumentsOfLooking();
        notPossibleNow();
        noRoom();
        noSuchValue();
        textsWithErrors();
        callsThatLook();
        theFirstNamedError();
        noneIsTheLast();
        Due.end();
    }

    // ---- objects to refuse something

    /** Ten sleepers, six jobs, both images, six saved states and a full text. */
    private static BallastTrack full() {
        BallastTrack x = Tracks.ofSleepers(12);
        x.setLevel(11, 44);
        x.keep(1);
        x.begin(10);
        x.setNumber(3, 10);
        Due.is(Due.loaded(x, "b0-9=30;b4=-5;b8=0;f2-7=40;"), 4);
        Due.is(x.trains(200, 20, 2), 2);
        Due.is(x.keep(0), 2);
        for (int job = 0; job < 6; job++) {
            Due.is(x.addJob(job, job + 4, 40 + job), job + 1);
        }
        Due.is(x.work(10), 3);
        x.setLevel(0, 33);
        Due.type(x, "b1=1;".repeat(19) + "f5=9;");
        return x;
    }

    private static BallastTrack closed() {
        BallastTrack x = new BallastTrack();
        Tracks.close(x);
        Due.is(x.count(11), 3);
        return x;
    }

    private static BallastTrack withText(String text) {
        BallastTrack x = new BallastTrack();
        x.setLevel(1, 5);
        Due.type(x, text);
        return x;
    }

    // ---- what an object answers then

    private static List<Integer> answers(BallastTrack x) {
        List<Integer> answers = new ArrayList<>();
        for (int what = 0; what < 15; what++) {
            answers.add(x.count(what));
        }
        for (int sleeper = 0; sleeper < 10; sleeper++) {
            for (int what = 0; what < 10; what++) {
                answers.add(x.sleeper(sleeper, what));
            }
        }
        for (int job = 0; job < 6; job++) {
            for (int what = 0; what < 4; what++) {
                answers.add(x.job(job, what));
            }
        }
        answers.add(x.load());
        addSome(answers, x);
        for (int time = 0; time < 7; time++) {
            answers.add(x.undo());
            addSome(answers, x);
        }
        for (int image = 0; image < 2; image++) {
            answers.add(x.back(image));
            addSome(answers, x);
        }
        return answers;
    }

    private static void addSome(List<Integer> answers, BallastTrack x) {
        for (int what = 0; what < 7; what++) {
            answers.add(x.account(what));
        }
        for (int what : new int[] {0, 1, 4, 9, 12}) {
            answers.add(x.count(what));
        }
        answers.add(x.sleeper(1, 0));
        answers.add(x.sleeper(4, 0));
        answers.add(x.sleeper(5, 1));
        answers.add(x.job(0, 3));
    }

    private static void refused(Supplier<BallastTrack> made, int due, ToIntFunction<BallastTrack> call) {
        BallastTrack x = made.get();
        Due.is(call.applyAsInt(x), due);
        Due.isTrue("the call has changed nothing", answers(x).equals(answers(made.get())));
    }

    private static void invalid(ToIntFunction<BallastTrack> call) {
        refused(RefusedTest::full, INVALID, call);
        refused(BallastTrack::new, INVALID, call);
        refused(RefusedTest::closed, INVALID, call);
    }

    // ---- the errors

    private static void constants() {
        Due.sentence(0, "The constants: `INVALID_ARGUMENT = -100001`: "
            + "An argument is out of range, or names something that does not exist.");
        Due.is(BallastTrack.INVALID_ARGUMENT, -100001);
        Due.sentence(0, "`ILLEGAL_STATE = -100002`: The call is not possible in the present state.");
        Due.is(BallastTrack.ILLEGAL_STATE, -100002);
        Due.sentence(0, "`CAPACITY_EXCEEDED = -100003`: There is no room.");
        Due.is(BallastTrack.CAPACITY_EXCEEDED, -100003);
        Due.sentence(0, "`NONE = -100009`: There is no such value.");
        Due.is(BallastTrack.NONE, -100009);
    }

    private static void argumentsOfTheTrack() {
        constants();
        Due.sentence(0, "A method that returns an error code changes nothing.");
        invalid(x -> x.begin(9));
        invalid(x -> x.begin(61));
        invalid(x -> x.setNumber(-1, 5));
        invalid(x -> x.setNumber(8, 5));
        invalid(x -> x.setNumber(0, 21));
        invalid(x -> x.setNumber(1, 100));
        invalid(x -> x.setNumber(2, 0));
        invalid(x -> x.setNumber(3, 40));
        invalid(x -> x.setNumber(4, 80));
        invalid(x -> x.setNumber(5, 40));
        invalid(x -> x.setNumber(6, 9));
        invalid(x -> x.setNumber(7, 51));
        invalid(x -> x.setLevel(x.count(0), 5));
        invalid(x -> x.setLevel(-1, 5));
        invalid(x -> x.setLevel(4, 10000));
        invalid(x -> x.setLevel(4, -10000));
        invalid(x -> x.appendCharacter(-1));
        invalid(x -> x.appendCharacter(256));
        invalid(x -> x.renew(-1, 5));
        invalid(x -> x.renew(5, 4));
        invalid(x -> x.renew(5, x.count(0)));
    }

    private static void argumentsOfJobsTrainsAndImages() {
        Due.sentence(0, "A method that returns an error code changes nothing.");
        invalid(x -> x.addJob(-1, 5, 5));
        invalid(x -> x.addJob(5, 4, 5));
        invalid(x -> x.addJob(5, x.count(0), 5));
        invalid(x -> x.addJob(5, 5, 10000));
        invalid(x -> x.addJob(5, 5, -10000));
        invalid(x -> x.cancelJobs(-1));
        invalid(x -> x.cancelJobs(x.count(0)));
        invalid(x -> x.work(0));
        invalid(x -> x.work(601));
        invalid(x -> x.trains(0, 1, 1));
        invalid(x -> x.trains(201, 1, 1));
        invalid(x -> x.trains(1, 0, 1));
        invalid(x -> x.trains(1, 31, 1));
        invalid(x -> x.trains(1, 1, 0));
        invalid(x -> x.trains(1, 1, 51));
        invalid(x -> x.keep(-1));
        invalid(x -> x.keep(2));
        invalid(x -> x.back(-1));
        invalid(x -> x.back(2));
    }

    private static void argumentsOfLooking() {
        Due.sentence(0, "A method that returns an error code changes nothing.");
        invalid(x -> x.count(-1));
        invalid(x -> x.count(15));
        invalid(x -> x.sleeper(-1, 0));
        invalid(x -> x.sleeper(x.count(0), 0));
        invalid(x -> x.sleeper(0, 10));
        invalid(x -> x.job(-1, 0));
        invalid(x -> x.job(0, 4));
        invalid(x -> x.account(-1));
        invalid(x -> x.account(7));
        invalid(x -> x.rail(-1, 0));
        invalid(x -> x.rail(x.count(0), 1));
        invalid(x -> x.rail(0, 2));
        invalid(x -> x.why(-1));
        invalid(x -> x.why(2));
        invalid(x -> x.lifts(-1, 0));
        invalid(x -> x.lifts(x.count(0), 0));
        invalid(x -> x.lifts(0, 10000));
        invalid(x -> x.trainsUntil(0, 1, 1));
        invalid(x -> x.trainsUntil(201, 1, 1));
        invalid(x -> x.trainsUntil(1, 31, 1));
        invalid(x -> x.trainsUntil(1, 1, 0));
        invalid(x -> x.trainsUntil(1, 1, 4));
        invalid(x -> x.bestRow(0, 0, 0));
        invalid(x -> x.bestRow(21, 0, 0));
        invalid(x -> x.bestRow(5, -10000, 0));
        invalid(x -> x.bestRow(5, 0, 2));
        refused(RefusedTest::full, INVALID, x -> x.bestRow(11, 0, 0));
    }

    private static void notPossibleNow() {
        Due.sentence(0, "The call is not possible in the present state.");
        refused(BallastTrack::new, ILLEGAL, x -> x.work(600));
        refused(BallastTrack::new, ILLEGAL, x -> x.back(0));
        refused(BallastTrack::new, ILLEGAL, x -> x.back(1));
        refused(BallastTrack::new, ILLEGAL, BallastTrack::undo);
        refused(RefusedTest::closed, ILLEGAL, x -> x.trains(1, 1, 1));
        refused(RefusedTest::closed, ILLEGAL, x -> x.trains(200, 30, 50));
        refused(RefusedTest::closed, ILLEGAL, x -> x.work(1));
    }

    private static void noRoom() {
        Due.sentence(0, "There is no room.");
        refused(RefusedTest::full, CAPACITY, x -> x.appendCharacter('b'));
        refused(RefusedTest::full, CAPACITY, x -> x.appendCharacter(0));
        refused(RefusedTest::full, CAPACITY, x -> x.addJob(0, 0, 0));
        refused(RefusedTest::full, CAPACITY, x -> x.addJob(0, 9, 9999));
    }

    private static void noSuchValue() {
        Due.sentence(0, "There is no such value.");
        refused(BallastTrack::new, NONE, x -> x.job(0, 0));
        refused(RefusedTest::full, NONE, x -> x.job(6, 3));
        refused(BallastTrack::new, NONE, x -> x.why(0));
        refused(BallastTrack::new, NONE, x -> x.why(1));
        refused(BallastTrack::new, NONE, x -> x.trainsUntil(200, 30, 1));
        refused(RefusedTest::full, NONE, x -> x.trainsUntil(1, 1, 3));
    }

    private static void textsWithErrors() {
        Due.sentence(0, "A method that returns an error code changes nothing.");
        String[] texts = {"x", "b", "b1=2;f5=7;b", "b0-39=9;f0-39=9;b40=1;", "b1=7;b1=8;b1=10000;", "f5=1;f5=101;"};
        int[] positions = {0, 1, 11, 17, 17, 8};
        for (int i = 0; i < texts.length; i++) {
            String text = texts[i];
            refused(() -> withText(text), -200000 - positions[i], BallastTrack::load);
        }
    }

    private static void callsThatLook() {
        Due.sentence(25, "Tells how many minutes the machine would work");
        List<ToIntFunction<BallastTrack>> calls = List.of(
            x -> x.count(10), x -> x.count(11), x -> x.sleeper(5, 5), x -> x.sleeper(5, 6), x -> x.job(0, 3),
            x -> x.account(6), x -> x.rail(5, 0), x -> x.rail(5, 1), x -> x.why(0), x -> x.why(1),
            x -> x.lifts(5, 200), x -> x.trainsUntil(200, 30, 1), x -> x.trainsUntil(200, 30, 3),
            x -> x.bestRow(3, 200, 0), x -> x.bestRow(10, 9999, 1), BallastTrack::minutesLeft);
        List<Supplier<BallastTrack>> objects = List.of(RefusedTest::full, RefusedTest::closed, BallastTrack::new);
        for (Supplier<BallastTrack> made : objects) {
            for (ToIntFunction<BallastTrack> call : calls) {
                BallastTrack x = made.get();
                int first = call.applyAsInt(x);
                Due.is(call.applyAsInt(x), first);
                Due.isTrue("looking has changed nothing", answers(x).equals(answers(made.get())));
            }
        }
    }

    private static void theFirstNamedError() {
        Due.sentence(0, "If several error codes apply, the one that is named first in the description of the method is returned;");
        Due.is(full().appendCharacter(256), INVALID);
        Due.is(full().appendCharacter(-1), INVALID);
        Due.is(full().addJob(5, 4, 0), INVALID);
        Due.is(full().addJob(0, 10, 0), INVALID);
        Due.is(full().addJob(0, 0, 10000), INVALID);
        Due.is(new BallastTrack().work(0), INVALID);
        Due.is(new BallastTrack().work(601), INVALID);
        Due.is(closed().trains(0, 1, 1), INVALID);
        Due.is(closed().trains(1, 31, 1), INVALID);
        Due.is(closed().trains(1, 1, 51), INVALID);
        Due.is(new BallastTrack().back(2), INVALID);
        Due.is(new BallastTrack().back(-1), INVALID);
    }

    private static void noneIsTheLast() {
        Due.sentence(0, "NONE is no error, and it is returned only if no error code applies.");
        BallastTrack x = new BallastTrack();
        Due.is(x.job(0, 4), INVALID);
        Due.is(x.job(-1, 0), INVALID);
        Due.is(x.job(0, 3), NONE);
        Due.is(x.why(2), INVALID);
        Due.is(x.why(0), NONE);
        Due.is(x.trainsUntil(200, 30, 4), INVALID);
        Due.is(x.trainsUntil(201, 30, 1), INVALID);
        Due.is(x.trainsUntil(200, 30, 1), NONE);
    }
}
