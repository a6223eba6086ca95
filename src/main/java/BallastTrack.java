import java.util.Arrays;

/** A test rail on ballast; ../shared/DOC.md says what each call answers. */
public final class BallastTrack {
    public static final int INVALID_ARGUMENT = -100001;
    public static final int ILLEGAL_STATE = -100002;
    public static final int CAPACITY_EXCEEDED = -100003;
    public static final int NONE = -100009;

    private static final int FEWEST_SLEEPERS = 10;
    private static final int MOST_SLEEPERS = 60;
    private static final int FIRST_SLEEPERS = 40;
    private static final int LOWEST = -9999;
    private static final int HIGHEST = 9999;
    private static final int MOST_FOULING = 100;

    private static final int NUMBERS = 8;
    private static final int K = 0;
    private static final int H = 1;
    private static final int A = 2;
    private static final int LIMIT_1 = 3;
    private static final int LIMIT_2 = 4;
    private static final int LIMIT_3 = 5;
    private static final int MOST_LIFT = 6;
    private static final int LEAST_LIFT = 7;
    private static final int[] FIRST_NUMBERS = {4, 10, 3, 20, 40, 80, 200, 5};
    private static final int[] LEAST_NUMBERS = {1, 0, 1, 1, 1, 1, 10, 1};
    private static final int[] GREATEST_NUMBERS = {20, 99, 5, 2000, 2000, 2000, 500, 50};

    private static final int MOST_JOBS = 6;
    private static final int JOB_WIDTH = 4;
    private static final int JOB_FIRST = 0;
    private static final int JOB_LAST = 1;
    private static final int JOB_TARGET = 2;
    private static final int JOB_NEXT = 3;
    private static final int MOST_MINUTES = 600;
    private static final int ALL_THE_TIME = 1000000;

    private static final int ACCOUNTS = 7;
    private static final int SETTLED = 0;
    private static final int LIFTED = 1;
    private static final int MINUTES_LOST = 2;
    private static final int MINUTES_WORKED = 3;
    private static final int TRAINS = 4;
    private static final int TONS = 5;
    private static final int CHANGED = 6;

    private static final int MOST_AXLES = 200;
    private static final int MOST_TONS = 30;
    private static final int MOST_TRAINS = 50;
    private static final int MOST_FORECAST = 200;
    private static final int CLOSED = 3;

    private static final int LONGEST_ROW = 20;
    private static final int LONGEST_TEXT = 100;
    private static final int TEXT_ERROR = -200000;
    private static final int IMAGES = 2;
    private static final int MOST_SAVED = 6;

    private final State now = new State();
    private final Survey survey = new Survey(now);
    // The forecasts and the text change this one, so that the present state stays as it is.
    private final State trial = new State();
    private final Survey trialSurvey = new Survey(trial);
    private final History history = new History();
    private final Text text = new Text();
    private final State[] images = new State[IMAGES];
    private final boolean[] kept = new boolean[IMAGES];

    public BallastTrack() {
        for (int image = 0; image < IMAGES; image++) {
            images[image] = new State();
        }
    }

    // ---- track

    public int begin(int sleepers) {
        if (!isWithin(sleepers, FEWEST_SLEEPERS, MOST_SLEEPERS)) {
            return INVALID_ARGUMENT;
        }
        int before = now.sleepers;
        history.save(now);
        now.makeNew(sleepers);
        return before;
    }

    public int setNumber(int what, int value) {
        if (!isWithin(what, 0, NUMBERS - 1)
                || !isWithin(value, leastNumber(what), greatestNumber(what))) {
            return INVALID_ARGUMENT;
        }
        int before = now.numbers[what];
        history.save(now);
        now.numbers[what] = value;
        return before;
    }

    public int setLevel(int sleeper, int level) {
        if (!now.has(sleeper) || !isLevel(level)) {
            return INVALID_ARGUMENT;
        }
        int before = now.levels[sleeper];
        history.save(now);
        now.putLevel(sleeper, level);
        return before;
    }

    public int appendCharacter(int character) {
        if (!isWithin(character, 0, 255)) {
            return INVALID_ARGUMENT;
        }
        if (text.length >= LONGEST_TEXT) {
            return CAPACITY_EXCEEDED;
        }
        text.characters[text.length] = character;
        text.length++;
        return text.length;
    }

    public int clearText() {
        int before = text.length;
        text.length = 0;
        return before;
    }

    public int load() {
        trial.copyFrom(now);
        int items = text.readInto(trial);
        if (items < 0) {
            return TEXT_ERROR - text.errorPosition;
        }
        history.save(now);
        now.copyFrom(trial);
        text.length = 0;
        return items;
    }

    public int renew(int from, int to) {
        if (!isStretch(from, to)) {
            return INVALID_ARGUMENT;
        }
        history.save(now);
        int sum = 0;
        for (int i = from; i <= to; i++) {
            sum += now.foulings[i];
            now.foulings[i] = 0;
        }
        return sum;
    }

    // ---- jobs and trains

    public int addJob(int from, int to, int target) {
        if (!isStretch(from, to) || !isLevel(target)) {
            return INVALID_ARGUMENT;
        }
        if (now.jobs >= MOST_JOBS) {
            return CAPACITY_EXCEEDED;
        }
        history.save(now);
        now.appendJob(from, to, target);
        return now.jobs;
    }

    public int cancelJobs(int sleeper) {
        if (!now.has(sleeper)) {
            return INVALID_ARGUMENT;
        }
        history.save(now);
        int cancelled = 0;
        for (int job = now.jobs - 1; job >= 0; job--) {
            if (isWithin(sleeper, now.jobValue(job, JOB_NEXT), now.jobValue(job, JOB_LAST))) {
                now.removeJob(job);
                cancelled++;
            }
        }
        return cancelled;
    }

    public int work(int minutes) {
        if (!isWithin(minutes, 1, MOST_MINUTES)) {
            return INVALID_ARGUMENT;
        }
        if (now.jobs == 0) {
            return ILLEGAL_STATE;
        }
        history.save(now);
        return now.tamp(minutes);
    }

    public int trains(int axles, int tons, int count) {
        if (!isTrain(axles, tons) || !isWithin(count, 1, MOST_TRAINS)) {
            return INVALID_ARGUMENT;
        }
        survey.look();
        if (survey.order >= CLOSED) {
            return ILLEGAL_STATE;
        }
        history.save(now);
        int passed = 0;
        while (passed < count && survey.order < CLOSED) {
            passTrain(survey, axles, tons);
            passed++;
        }
        return passed;
    }

    // ---- images

    public int keep(int image) {
        if (!isWithin(image, 0, IMAGES - 1)) {
            return INVALID_ARGUMENT;
        }
        images[image].copyFrom(now);
        kept[image] = true;
        return now.accounts[TRAINS];
    }

    public int back(int image) {
        if (!isWithin(image, 0, IMAGES - 1)) {
            return INVALID_ARGUMENT;
        }
        if (!kept[image]) {
            return ILLEGAL_STATE;
        }
        history.save(now);
        now.copyFrom(images[image]);
        return now.accounts[TRAINS];
    }

    public int undo() {
        if (history.size == 0) {
            return ILLEGAL_STATE;
        }
        history.restore(now);
        return history.size;
    }

    // ---- looking

    public int count(int what) {
        if (!isWithin(what, 0, 14)) {
            return INVALID_ARGUMENT;
        }
        if (what >= 1 && what <= NUMBERS) {
            return now.numbers[what - 1];
        }
        switch (what) {
            case 0:
                return now.sleepers;
            case 9:
                return now.jobs;
            case 10:
                survey.look();
                return survey.hangingCount;
            case 11:
                survey.look();
                return survey.order;
            case 12:
                return text.length;
            case 13:
                return history.size;
            default:
                return keptMask();
        }
    }

    public int sleeper(int sleeper, int what) {
        if (!now.has(sleeper) || !isWithin(what, 0, 9)) {
            return INVALID_ARGUMENT;
        }
        switch (what) {
            case 0:
                return now.levels[sleeper];
            case 1:
                return now.foulings[sleeper];
            case 8:
                return now.settled[sleeper];
            case 9:
                return now.lifted[sleeper];
            default:
                return surveyed(sleeper, what);
        }
    }

    public int job(int job, int what) {
        if (job < 0 || !isWithin(what, 0, JOB_WIDTH - 1)) {
            return INVALID_ARGUMENT;
        }
        if (job >= now.jobs) {
            return NONE;
        }
        return now.jobValue(job, what);
    }

    public int account(int what) {
        if (!isWithin(what, 0, ACCOUNTS - 1)) {
            return INVALID_ARGUMENT;
        }
        return now.accounts[what];
    }

    public int rail(int sleeper, int way) {
        if (!now.has(sleeper) || !isWithin(way, 0, 1)) {
            return INVALID_ARGUMENT;
        }
        if (way == 1) {
            return survey.greatestOfAll(sleeper);
        }
        survey.look();
        return survey.heights[sleeper];
    }

    // ---- reasons, and what would be (nothing changes)

    public int why(int what) {
        if (!isWithin(what, 0, 1)) {
            return INVALID_ARGUMENT;
        }
        survey.look();
        if (survey.order == 0) {
            return NONE;
        }
        return what == 0 ? survey.worst : survey.worstSize;
    }

    public int lifts(int sleeper, int target) {
        if (!now.has(sleeper) || !isLevel(target)) {
            return INVALID_ARGUMENT;
        }
        int missing = target - now.levels[sleeper];
        if (missing <= 0) {
            return 2;
        }
        if (now.liftOf(sleeper, target) == 0) {
            return 3;
        }
        return missing <= now.numbers[MOST_LIFT] ? 0 : 1;
    }

    public int trainsUntil(int axles, int tons, int order) {
        if (!isTrain(axles, tons) || !isWithin(order, 1, CLOSED)) {
            return INVALID_ARGUMENT;
        }
        trial.copyFrom(now);
        trialSurvey.look();
        int passed = 0;
        while (passed < MOST_FORECAST && trialSurvey.order < order) {
            passTrain(trialSurvey, axles, tons);
            passed++;
        }
        return trialSurvey.order >= order ? passed : NONE;
    }

    public int bestRow(int length, int target, int what) {
        if (!isWithin(length, 1, Math.min(LONGEST_ROW, now.sleepers)) || !isLevel(target)
                || !isWithin(what, 0, 1)) {
            return INVALID_ARGUMENT;
        }
        trial.copyFrom(now);
        int best = 0;
        int smallest = voidsWithRow(0, length, target);
        for (int first = 1; first <= now.sleepers - length; first++) {
            int sum = voidsWithRow(first, length, target);
            if (sum < smallest) {
                best = first;
                smallest = sum;
            }
        }
        return what == 0 ? best : smallest;
    }

    public int minutesLeft() {
        trial.copyFrom(now);
        trial.tamp(ALL_THE_TIME);
        return trial.accounts[MINUTES_WORKED] - now.accounts[MINUTES_WORKED];
    }

    // ---- what the calls share

    private static boolean isWithin(int value, int least, int greatest) {
        return value >= least && value <= greatest;
    }

    private static boolean isLevel(int value) {
        return isWithin(value, LOWEST, HIGHEST);
    }

    private static boolean isTrain(int axles, int tons) {
        return isWithin(axles, 1, MOST_AXLES) && isWithin(tons, 1, MOST_TONS);
    }

    private boolean isStretch(int from, int to) {
        return now.has(from) && now.has(to) && from <= to;
    }

    private int leastNumber(int what) {
        if (what == LIMIT_2 || what == LIMIT_3) {
            return now.numbers[what - 1] + 1;
        }
        return LEAST_NUMBERS[what];
    }

    private int greatestNumber(int what) {
        if (what == LIMIT_1 || what == LIMIT_2) {
            return now.numbers[what + 1] - 1;
        }
        return GREATEST_NUMBERS[what];
    }

    private int keptMask() {
        int mask = 0;
        for (int image = 0; image < IMAGES; image++) {
            if (kept[image]) {
                mask |= 1 << image;
            }
        }
        return mask;
    }

    private int surveyed(int sleeper, int what) {
        survey.look();
        switch (what) {
            case 2:
                return survey.heights[sleeper];
            case 3:
                return survey.voidAt(sleeper);
            case 4:
                return survey.hanging[sleeper] ? 1 : 0;
            case 5:
                survey.findLoads();
                return survey.loads[sleeper];
            case 6:
                return survey.defectAt(sleeper);
            default:
                return survey.orderOf(Math.abs(survey.defectAt(sleeper)));
        }
    }

    /** The sum of the voids that a job to the target on this row alone would leave. */
    private int voidsWithRow(int first, int length, int target) {
        System.arraycopy(now.levels, 0, trial.levels, 0, now.sleepers);
        for (int i = first; i < first + length; i++) {
            trial.levels[i] += trial.liftOf(i, target);
        }
        trialSurvey.look();
        int sum = 0;
        for (int i = 0; i < trial.sleepers; i++) {
            sum += trialSurvey.voidAt(i);
        }
        return sum;
    }

    /** Lets one train pass over a track that has been looked at, and looks at it again. */
    private static void passTrain(Survey survey, int axles, int tons) {
        State track = survey.track;
        survey.findLoads();
        for (int i = 0; i < track.sleepers; i++) {
            if (survey.hanging[i]) {
                track.foul(i, 1);
            } else {
                track.settle(i, settlement(survey, i, axles * tons));
            }
        }
        track.accounts[MINUTES_LOST] += minutesLostBy(survey.order);
        track.accounts[TRAINS]++;
        track.accounts[TONS] += axles * tons;
        survey.look();
    }

    private static int settlement(Survey survey, int sleeper, int weight) {
        // Of many loads on foul ballast the product is greater than an int.
        long product = (long) weight * survey.loads[sleeper]
                * (100 + survey.track.foulings[sleeper]) * shareOf(survey.order);
        return (int) (product / 4000000);
    }

    private static int shareOf(int order) {
        switch (order) {
            case 0:
                return 100;
            case 1:
                return 70;
            default:
                return 40;
        }
    }

    private static int minutesLostBy(int order) {
        switch (order) {
            case 0:
                return 0;
            case 1:
                return 2;
            default:
                return 6;
        }
    }

    private static int minutesFor(int lift) {
        return 2 + (lift + 49) / 50;
    }

    /** All that an image keeps and that undo() brings back. */
    private static final class State {
        int sleepers = FIRST_SLEEPERS;
        int jobs = 0;
        final int[] numbers = new int[NUMBERS];
        final int[] levels = new int[MOST_SLEEPERS];
        final int[] foulings = new int[MOST_SLEEPERS];
        final int[] settled = new int[MOST_SLEEPERS];
        final int[] lifted = new int[MOST_SLEEPERS];
        final int[] jobRows = new int[MOST_JOBS * JOB_WIDTH];
        final int[] accounts = new int[ACCOUNTS];

        State() {
            System.arraycopy(FIRST_NUMBERS, 0, numbers, 0, NUMBERS);
        }

        void copyFrom(State other) {
            sleepers = other.sleepers;
            jobs = other.jobs;
            System.arraycopy(other.numbers, 0, numbers, 0, NUMBERS);
            System.arraycopy(other.levels, 0, levels, 0, MOST_SLEEPERS);
            System.arraycopy(other.foulings, 0, foulings, 0, MOST_SLEEPERS);
            System.arraycopy(other.settled, 0, settled, 0, MOST_SLEEPERS);
            System.arraycopy(other.lifted, 0, lifted, 0, MOST_SLEEPERS);
            System.arraycopy(other.jobRows, 0, jobRows, 0, MOST_JOBS * JOB_WIDTH);
            System.arraycopy(other.accounts, 0, accounts, 0, ACCOUNTS);
        }

        void makeNew(int newSleepers) {
            sleepers = newSleepers;
            jobs = 0;
            Arrays.fill(levels, 0);
            Arrays.fill(foulings, 0);
            Arrays.fill(settled, 0);
            Arrays.fill(lifted, 0);
            Arrays.fill(accounts, 0);
        }

        boolean has(int sleeper) {
            return isWithin(sleeper, 0, sleepers - 1);
        }

        void putLevel(int sleeper, int level) {
            accounts[CHANGED] += level - levels[sleeper];
            levels[sleeper] = level;
        }

        void foul(int sleeper, int percent) {
            foulings[sleeper] = Math.min(MOST_FOULING, foulings[sleeper] + percent);
        }

        void settle(int sleeper, int wanted) {
            int fall = Math.min(wanted, levels[sleeper] - LOWEST);
            levels[sleeper] -= fall;
            settled[sleeper] += fall;
            accounts[SETTLED] += fall;
        }

        void raise(int sleeper, int lift) {
            levels[sleeper] += lift;
            lifted[sleeper] += lift;
            accounts[LIFTED] += lift;
            foul(sleeper, 3);
        }

        /** What a job would lift the sleeper by, 0 if it would pass over it. */
        int liftOf(int sleeper, int target) {
            int lift = Math.min(target - levels[sleeper], numbers[MOST_LIFT]);
            return lift < numbers[LEAST_LIFT] ? 0 : lift;
        }

        int jobValue(int job, int what) {
            return jobRows[job * JOB_WIDTH + what];
        }

        void appendJob(int from, int to, int target) {
            int row = jobs * JOB_WIDTH;
            jobRows[row + JOB_FIRST] = from;
            jobRows[row + JOB_LAST] = to;
            jobRows[row + JOB_TARGET] = target;
            jobRows[row + JOB_NEXT] = from;
            jobs++;
        }

        void removeJob(int job) {
            int behind = (job + 1) * JOB_WIDTH;
            System.arraycopy(jobRows, behind, jobRows, job * JOB_WIDTH, jobs * JOB_WIDTH - behind);
            jobs--;
        }

        /** Lets the machine work; answers the number of sleepers that it lifts. */
        int tamp(int minutes) {
            int left = minutes;
            int raised = 0;
            for (int step = 0; step < MOST_JOBS * MOST_SLEEPERS && jobs > 0; step++) {
                int at = jobValue(0, JOB_NEXT);
                int lift = liftOf(at, jobValue(0, JOB_TARGET));
                if (lift > 0) {
                    if (minutesFor(lift) > left) {
                        break;
                    }
                    left -= minutesFor(lift);
                    raise(at, lift);
                    raised++;
                }
                goOn();
            }
            accounts[MINUTES_WORKED] += minutes - left;
            return raised;
        }

        private void goOn() {
            if (jobRows[JOB_NEXT] < jobRows[JOB_LAST]) {
                jobRows[JOB_NEXT]++;
            } else {
                removeJob(0);
            }
        }
    }

    /** What the rail shows of a state; look() finds it anew. */
    private static final class Survey {
        final State track;
        final int[] heights = new int[MOST_SLEEPERS];
        final int[] loads = new int[MOST_SLEEPERS];
        final boolean[] hanging = new boolean[MOST_SLEEPERS];
        int hangingCount = 0;
        int worst = 0;
        int worstSize = 0;
        int order = 0;

        Survey(State track) {
            this.track = track;
        }

        void look() {
            findHeights();
            findHanging();
            findWorst();
            // A greater defect never has a smaller order, so the worst one tells the track's.
            order = orderOf(worstSize);
        }

        int voidAt(int sleeper) {
            return heights[sleeper] - track.levels[sleeper];
        }

        int defectAt(int sleeper) {
            int a = track.numbers[A];
            if (!isWithin(sleeper, a, track.sleepers - a - 1)) {
                return 0;
            }
            return 2 * heights[sleeper] - heights[sleeper - a] - heights[sleeper + a];
        }

        int orderOf(int size) {
            if (size <= track.numbers[LIMIT_1]) {
                return 0;
            }
            if (size <= track.numbers[LIMIT_2]) {
                return 1;
            }
            return size <= track.numbers[LIMIT_3] ? 2 : CLOSED;
        }

        int greatestOfAll(int sleeper) {
            int greatest = track.levels[sleeper];
            for (int i = 0; i < track.sleepers; i++) {
                int height = track.levels[i] - track.numbers[K] * Math.abs(sleeper - i);
                greatest = Math.max(greatest, height);
            }
            return greatest;
        }

        void findLoads() {
            int left = -1;
            int between = 0;
            for (int i = 0; i < track.sleepers; i++) {
                if (hanging[i]) {
                    loads[i] = 0;
                    between++;
                } else {
                    loads[i] = 2;
                    handOn(left, i, between);
                    left = i;
                    between = 0;
                }
            }
            handOn(left, -1, between);
        }

        /** Hands on the loads of some hanging sleepers; -1 stands for no carrying one there. */
        private void handOn(int left, int right, int sleepers) {
            if (left >= 0) {
                loads[left] += right >= 0 ? sleepers : 2 * sleepers;
            }
            if (right >= 0) {
                loads[right] += left >= 0 ? sleepers : 2 * sleepers;
            }
        }

        private void findHeights() {
            int fall = track.numbers[K];
            int height = LOWEST;
            for (int i = 0; i < track.sleepers; i++) {
                height = Math.max(height - fall, track.levels[i]);
                heights[i] = height;
            }
            for (int i = track.sleepers - 1; i >= 0; i--) {
                height = Math.max(height - fall, heights[i]);
                heights[i] = height;
            }
        }

        private void findHanging() {
            hangingCount = 0;
            for (int i = 0; i < track.sleepers; i++) {
                hanging[i] = voidAt(i) > track.numbers[H];
                if (hanging[i]) {
                    hangingCount++;
                }
            }
        }

        private void findWorst() {
            worst = 0;
            worstSize = 0;
            for (int i = 0; i < track.sleepers; i++) {
                int size = Math.abs(defectAt(i));
                if (size > worstSize) {
                    worst = i;
                    worstSize = size;
                }
            }
        }
    }

    /** The states that undo() can restore, in a ring. */
    private static final class History {
        private final State[] rows = new State[MOST_SAVED];
        private int oldest = 0;
        int size = 0;

        History() {
            for (int row = 0; row < MOST_SAVED; row++) {
                rows[row] = new State();
            }
        }

        void save(State state) {
            rows[(oldest + size) % MOST_SAVED].copyFrom(state);
            if (size < MOST_SAVED) {
                size++;
            } else {
                oldest = (oldest + 1) % MOST_SAVED;
            }
        }

        void restore(State state) {
            if (size > 0) {
                size--;
                state.copyFrom(rows[(oldest + size) % MOST_SAVED]);
            }
        }
    }

    /** The text, and the reading of it. */
    private static final class Text {
        final int[] characters = new int[LONGEST_TEXT];
        int length = 0;
        int errorPosition = 0;
        private int position = 0;

        /** Answers the number of items, or -1 and the error's position is told. */
        int readInto(State track) {
            position = 0;
            for (int items = 0; items < LONGEST_TEXT; items++) {
                skipSpaces();
                if (position >= length) {
                    return items;
                }
                if (!readItem(track)) {
                    return -1;
                }
            }
            return -1;
        }

        private boolean readItem(State track) {
            boolean forLevel = takes('b');
            if (!forLevel && !expects('f')) {
                return false;
            }
            int first = readNumber(2, 0, track.sleepers - 1);
            if (first < 0) {
                return false;
            }
            int last = first;
            if (takes('-')) {
                last = readNumber(2, first, track.sleepers - 1);
            }
            if (last < 0 || !expects('=')) {
                return false;
            }
            boolean negative = forLevel && takes('-');
            int value = forLevel ? readNumber(4, 0, HIGHEST) : readNumber(3, 0, MOST_FOULING);
            if (value < 0 || !expects(';')) {
                return false;
            }
            put(track, forLevel, first, last, negative ? -value : value);
            return true;
        }

        private static void put(State track, boolean forLevel, int first, int last, int value) {
            for (int i = first; i <= last; i++) {
                if (forLevel) {
                    track.putLevel(i, value);
                } else {
                    track.foulings[i] = value;
                }
            }
        }

        /** Answers the number, or -1 if it is an error. */
        private int readNumber(int mostDigits, int least, int greatest) {
            skipSpaces();
            int start = position;
            int value = 0;
            while (position < length && position < start + mostDigits && isDigit(characters[position])) {
                value = value * 10 + characters[position] - '0';
                position++;
            }
            if (position == start) {
                return fail(start);
            }
            if (position > start + 1 && characters[start] == '0' || !isWithin(value, least, greatest)) {
                return fail(start);
            }
            return value;
        }

        private static boolean isDigit(int character) {
            return isWithin(character, '0', '9');
        }

        private boolean takes(char wanted) {
            skipSpaces();
            if (position >= length || characters[position] != wanted) {
                return false;
            }
            position++;
            return true;
        }

        private boolean expects(char wanted) {
            if (takes(wanted)) {
                return true;
            }
            fail(position);
            return false;
        }

        private int fail(int offset) {
            errorPosition = offset;
            return -1;
        }

        private void skipSpaces() {
            while (position < length && characters[position] == ' ') {
                position++;
            }
        }
    }
}
