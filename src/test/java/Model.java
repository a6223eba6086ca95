import java.util.ArrayDeque;
import java.util.ArrayList;
import java.util.List;

/**
 * The document's promises once more, as slow and literal as can be, to compare the class with.
 * It shares no code with it: the rail is the greatest of all, neighbors are searched one by one,
 * jobs are objects, and the text is read by a table of places.
 */
final class Model {
    private static final int INVALID = -100001;
    private static final int ILLEGAL = -100002;
    private static final int CAPACITY = -100003;
    private static final int NONE = -100009;

    private static final class Job {
        int first;
        int last;
        int target;
        int next;

        Job copy() {
            Job job = new Job();
            job.first = first;
            job.last = last;
            job.target = target;
            job.next = next;
            return job;
        }
    }

    private static final class Track {
        int n = 40;
        int[] numbers = {4, 10, 3, 20, 40, 80, 200, 5};
        long[] level = new long[60];
        long[] fouling = new long[60];
        long[] settled = new long[60];
        long[] lifted = new long[60];
        long[] accounts = new long[7];
        List<Job> jobs = new ArrayList<>();

        Track copy() {
            Track track = new Track();
            track.n = n;
            track.numbers = numbers.clone();
            track.level = level.clone();
            track.fouling = fouling.clone();
            track.settled = settled.clone();
            track.lifted = lifted.clone();
            track.accounts = accounts.clone();
            for (Job job : jobs) {
                track.jobs.add(job.copy());
            }
            return track;
        }

        boolean has(int sleeper) {
            return 0 <= sleeper && sleeper < n;
        }

        long rail(int here) {
            long greatest = Long.MIN_VALUE;
            for (int there = 0; there < n; there++) {
                greatest = Math.max(greatest, level[there] - (long) numbers[0] * Math.abs(here - there));
            }
            return greatest;
        }

        long gap(int i) {
            return rail(i) - level[i];
        }

        boolean hangs(int i) {
            return gap(i) > numbers[1];
        }

        long defect(int i) {
            int a = numbers[2];
            return a <= i && i < n - a ? 2 * rail(i) - rail(i - a) - rail(i + a) : 0;
        }

        int order(int i) {
            long size = Math.abs(defect(i));
            int order = 0;
            for (int limit = 3; limit <= 5; limit++) {
                if (size > numbers[limit]) {
                    order++;
                }
            }
            return order;
        }

        int order() {
            int greatest = 0;
            for (int i = 0; i < n; i++) {
                greatest = Math.max(greatest, order(i));
            }
            return greatest;
        }

        int carrier(int from, int step) {
            for (int i = from + step; has(i); i += step) {
                if (!hangs(i)) {
                    return i;
                }
            }
            return -1;
        }

        int[] loads() {
            int[] loads = new int[n];
            for (int i = 0; i < n; i++) {
                if (!hangs(i)) {
                    loads[i] += 2;
                    continue;
                }
                int left = carrier(i, -1);
                int right = carrier(i, 1);
                loads[left < 0 ? right : left]++;
                loads[right < 0 ? left : right]++;
            }
            return loads;
        }

        void pass(int axles, int tons) {
            int order = order();
            int[] loads = loads();
            long[] before = level.clone();
            boolean[] hanging = new boolean[n];
            for (int i = 0; i < n; i++) {
                hanging[i] = hangs(i);
            }
            for (int i = 0; i < n; i++) {
                if (!hanging[i]) {
                    long f = new long[] {100, 70, 40}[order];
                    long settles = (long) axles * tons * loads[i] * (100 + fouling[i]) * f / 4000000L;
                    level[i] = Math.max(-9999, before[i] - settles);
                    settled[i] += before[i] - level[i];
                    accounts[0] += before[i] - level[i];
                }
            }
            for (int i = 0; i < n; i++) {
                if (hanging[i] && fouling[i] < 100) {
                    fouling[i]++;
                }
            }
            accounts[2] += new int[] {0, 2, 6}[order];
            accounts[4]++;
            accounts[5] += (long) axles * tons;
        }

        long lift(int i, int target) {
            return Math.min(target - level[i], numbers[6]);
        }

        static long minutes(long lift) {
            long minutes = 2;
            for (long part = 0; part < lift; part += 50) {
                minutes++;
            }
            return minutes;
        }

        int work(long minutes) {
            int count = 0;
            while (!jobs.isEmpty()) {
                Job job = jobs.get(0);
                while (job.next <= job.last) {
                    long lift = lift(job.next, job.target);
                    if (lift >= numbers[7]) {
                        if (minutes(lift) > minutes) {
                            return count;
                        }
                        minutes -= minutes(lift);
                        accounts[3] += minutes(lift);
                        level[job.next] += lift;
                        lifted[job.next] += lift;
                        accounts[1] += lift;
                        fouling[job.next] = Math.min(100, fouling[job.next] + 3);
                        count++;
                    }
                    job.next++;
                }
                jobs.remove(0);
            }
            return count;
        }

        long voids() {
            long sum = 0;
            for (int i = 0; i < n; i++) {
                sum += gap(i);
            }
            return sum;
        }
    }

    private Track now = new Track();
    private String text = "";
    private long otherAnswer;
    private final Track[] images = new Track[2];
    private final ArrayDeque<Track> saved = new ArrayDeque<>();

    private static boolean in(long value, long least, long greatest) {
        return least <= value && value <= greatest;
    }

    private void save() {
        saved.addLast(now.copy());
        if (saved.size() > 6) {
            saved.removeFirst();
        }
    }

    long begin(int sleepers) {
        if (!in(sleepers, 10, 60)) {
            return INVALID;
        }
        save();
        Track track = new Track();
        track.n = sleepers;
        track.numbers = now.numbers;
        int before = now.n;
        now = track;
        return before;
    }

    long setNumber(int what, int value) {
        if (!in(what, 0, 7)) {
            return INVALID;
        }
        int[] v = now.numbers;
        boolean right = switch (what) {
            case 0 -> in(value, 1, 20);
            case 1 -> in(value, 0, 99);
            case 2 -> in(value, 1, 5);
            case 3 -> in(value, 1, 2000) && value < v[4];
            case 4 -> in(value, 1, 2000) && value > v[3] && value < v[5];
            case 5 -> in(value, 1, 2000) && value > v[4];
            case 6 -> in(value, 10, 500);
            default -> in(value, 1, 50);
        };
        if (!right) {
            return INVALID;
        }
        save();
        int before = now.numbers[what];
        now.numbers = now.numbers.clone();
        now.numbers[what] = value;
        return before;
    }

    long setLevel(int sleeper, int level) {
        if (!now.has(sleeper) || !in(level, -9999, 9999)) {
            return INVALID;
        }
        save();
        long before = now.level[sleeper];
        now.level[sleeper] = level;
        now.accounts[6] += level - before;
        return before;
    }

    long appendCharacter(int character) {
        if (!in(character, 0, 255)) {
            return INVALID;
        }
        if (text.length() == 100) {
            return CAPACITY;
        }
        text += (char) character;
        return text.length();
    }

    long clearText() {
        int before = text.length();
        text = "";
        return before;
    }

    long load() {
        Reading reading = new Reading(text, now.copy());
        int items = reading.read();
        if (reading.error >= 0) {
            otherAnswer = -200000 - Math.max(reading.error, reading.digitTooMany);
            return -200000 - reading.error;
        }
        otherAnswer = items;
        save();
        now = reading.track;
        text = "";
        return items;
    }

    /** The document doesn't tell which of two faults of one number the last load() answers. */
    long otherAnswer() {
        return otherAnswer;
    }

    /** Reads sign by sign; where tells what stood ahead of the sign. */
    private static final class Reading {
        enum Where { OUTSIDE, KIND, FIRST, BEHIND_FIRST, DASH, LAST, BEHIND_LAST, EQUALS, MINUS, VALUE, BEHIND_VALUE }

        final String text;
        final Track track;
        int error = -1;
        // Where a digit too many stands behind a number that is wrong itself; else the error.
        int digitTooMany = -1;
        Where where = Where.OUTSIDE;
        boolean levels;
        boolean negative;
        int first;
        int last;
        String digits = "";
        int digitsAt;

        Reading(String text, Track track) {
            this.text = text;
            this.track = track;
        }

        int read() {
            int items = 0;
            for (int i = 0; i < text.length() && error < 0; i++) {
                char c = text.charAt(i);
                boolean isDigit = c >= '0' && c <= '9';
                if (inNumber() && !(isDigit && digits.length() < most())) {
                    endNumber();
                    digitTooMany = error >= 0 && isDigit ? i : error;
                }
                if (error < 0 && c == ' ') {
                    continue;
                }
                if (error < 0 && !step(c, i)) {
                    error = i;
                }
                if (error < 0 && where == Where.OUTSIDE) {
                    items++;
                    put();
                }
            }
            if (error < 0 && inNumber()) {
                endNumber();
            }
            if (error < 0 && where != Where.OUTSIDE) {
                error = text.length();
            }
            return items;
        }

        boolean inNumber() {
            return where == Where.FIRST || where == Where.LAST || where == Where.VALUE;
        }

        int most() {
            return where != Where.VALUE ? 2 : levels ? 4 : 3;
        }

        void endNumber() {
            int number = Integer.parseInt(digits);
            boolean right = digits.length() == 1 || digits.charAt(0) != '0';
            if (where == Where.FIRST) {
                right = right && number < track.n;
                first = number;
                last = number;
                where = Where.BEHIND_FIRST;
            } else if (where == Where.LAST) {
                right = right && number < track.n && number >= first;
                last = number;
                where = Where.BEHIND_LAST;
            } else {
                right = right && (levels || number <= 100);
                where = Where.BEHIND_VALUE;
            }
            if (!right) {
                error = digitsAt;
            }
        }

        boolean digit(char c, int i, Where then) {
            if (c < '0' || c > '9') {
                return false;
            }
            if (where != then) {
                digits = "";
                digitsAt = i;
            }
            digits += c;
            where = then;
            return true;
        }

        boolean go(boolean right, Where then) {
            where = then;
            return right;
        }

        boolean step(char c, int i) {
            switch (where) {
                case OUTSIDE:
                    levels = c == 'b';
                    negative = false;
                    return go(c == 'b' || c == 'f', Where.KIND);
                case KIND:
                case FIRST:
                    return digit(c, i, Where.FIRST);
                case BEHIND_FIRST:
                    return c == '-' ? go(true, Where.DASH) : go(c == '=', Where.EQUALS);
                case DASH:
                case LAST:
                    return digit(c, i, Where.LAST);
                case BEHIND_LAST:
                    return go(c == '=', Where.EQUALS);
                case EQUALS:
                    if (levels && c == '-') {
                        negative = true;
                        return go(true, Where.MINUS);
                    }
                    return digit(c, i, Where.VALUE);
                case MINUS:
                case VALUE:
                    return digit(c, i, Where.VALUE);
                default:
                    return go(c == ';', Where.OUTSIDE);
            }
        }

        void put() {
            int value = Integer.parseInt(digits) * (negative ? -1 : 1);
            for (int i = first; i <= last; i++) {
                if (levels) {
                    track.accounts[6] += value - track.level[i];
                    track.level[i] = value;
                } else {
                    track.fouling[i] = value;
                }
            }
        }
    }

    long renew(int from, int to) {
        if (!now.has(from) || !now.has(to) || to < from) {
            return INVALID;
        }
        save();
        long sum = 0;
        for (int i = from; i <= to; i++) {
            sum += now.fouling[i];
            now.fouling[i] = 0;
        }
        return sum;
    }

    long addJob(int from, int to, int target) {
        if (!now.has(from) || !now.has(to) || to < from || !in(target, -9999, 9999)) {
            return INVALID;
        }
        if (now.jobs.size() == 6) {
            return CAPACITY;
        }
        save();
        Job job = new Job();
        job.first = from;
        job.last = to;
        job.target = target;
        job.next = from;
        now.jobs.add(job);
        return now.jobs.size();
    }

    long cancelJobs(int sleeper) {
        if (!now.has(sleeper)) {
            return INVALID;
        }
        save();
        int before = now.jobs.size();
        now.jobs.removeIf(job -> in(sleeper, job.first, job.last) && sleeper >= job.next);
        return before - now.jobs.size();
    }

    long work(int minutes) {
        if (!in(minutes, 1, 600)) {
            return INVALID;
        }
        if (now.jobs.isEmpty()) {
            return ILLEGAL;
        }
        save();
        return now.work(minutes);
    }

    long trains(int axles, int tons, int count) {
        if (!in(axles, 1, 200) || !in(tons, 1, 30) || !in(count, 1, 50)) {
            return INVALID;
        }
        if (now.order() == 3) {
            return ILLEGAL;
        }
        save();
        for (int passed = 0; passed < count; passed++) {
            if (now.order() == 3) {
                return passed;
            }
            now.pass(axles, tons);
        }
        return count;
    }

    long keep(int image) {
        if (!in(image, 0, 1)) {
            return INVALID;
        }
        images[image] = now.copy();
        return now.accounts[4];
    }

    long back(int image) {
        if (!in(image, 0, 1)) {
            return INVALID;
        }
        if (images[image] == null) {
            return ILLEGAL;
        }
        save();
        now = images[image].copy();
        return now.accounts[4];
    }

    long undo() {
        if (saved.isEmpty()) {
            return ILLEGAL;
        }
        now = saved.removeLast();
        return saved.size();
    }

    long count(int what) {
        if (!in(what, 0, 14)) {
            return INVALID;
        }
        if (in(what, 1, 8)) {
            return now.numbers[what - 1];
        }
        int hanging = 0;
        for (int i = 0; i < now.n; i++) {
            hanging += now.hangs(i) ? 1 : 0;
        }
        return switch (what) {
            case 0 -> now.n;
            case 9 -> now.jobs.size();
            case 10 -> hanging;
            case 11 -> now.order();
            case 12 -> text.length();
            case 13 -> saved.size();
            default -> (images[0] == null ? 0 : 1) + (images[1] == null ? 0 : 2);
        };
    }

    long sleeper(int sleeper, int what) {
        if (!now.has(sleeper) || !in(what, 0, 9)) {
            return INVALID;
        }
        return switch (what) {
            case 0 -> now.level[sleeper];
            case 1 -> now.fouling[sleeper];
            case 2 -> now.rail(sleeper);
            case 3 -> now.gap(sleeper);
            case 4 -> now.hangs(sleeper) ? 1 : 0;
            case 5 -> now.loads()[sleeper];
            case 6 -> now.defect(sleeper);
            case 7 -> now.order(sleeper);
            case 8 -> now.settled[sleeper];
            default -> now.lifted[sleeper];
        };
    }

    long job(int job, int what) {
        if (job < 0 || !in(what, 0, 3)) {
            return INVALID;
        }
        if (job >= now.jobs.size()) {
            return NONE;
        }
        Job found = now.jobs.get(job);
        return new int[] {found.first, found.last, found.target, found.next}[what];
    }

    long account(int what) {
        return in(what, 0, 6) ? now.accounts[what] : INVALID;
    }

    long rail(int sleeper, int way) {
        return now.has(sleeper) && in(way, 0, 1) ? now.rail(sleeper) : INVALID;
    }

    long why(int what) {
        if (!in(what, 0, 1)) {
            return INVALID;
        }
        int order = now.order();
        if (order == 0) {
            return NONE;
        }
        int found = -1;
        for (int i = now.n - 1; i >= 0; i--) {
            if (now.order(i) == order && (found < 0 || Math.abs(now.defect(i)) >= Math.abs(now.defect(found)))) {
                found = i;
            }
        }
        return what == 0 ? found : Math.abs(now.defect(found));
    }

    long lifts(int sleeper, int target) {
        if (!now.has(sleeper) || !in(target, -9999, 9999)) {
            return INVALID;
        }
        if (now.level[sleeper] >= target) {
            return 2;
        }
        long lift = now.lift(sleeper, target);
        if (lift < now.numbers[7]) {
            return 3;
        }
        return now.level[sleeper] + lift == target ? 0 : 1;
    }

    long trainsUntil(int axles, int tons, int order) {
        if (!in(axles, 1, 200) || !in(tons, 1, 30) || !in(order, 1, 3)) {
            return INVALID;
        }
        Track track = now.copy();
        for (int passed = 0; passed <= 200; passed++) {
            if (track.order() >= order) {
                return passed;
            }
            track.pass(axles, tons);
        }
        return NONE;
    }

    long bestRow(int length, int target, int what) {
        if (!in(length, 1, 20) || length > now.n || !in(target, -9999, 9999) || !in(what, 0, 1)) {
            return INVALID;
        }
        long best = -1;
        long smallest = Long.MAX_VALUE;
        for (int first = 0; first + length <= now.n; first++) {
            Track track = now.copy();
            track.jobs.clear();
            Job job = new Job();
            job.first = first;
            job.last = first + length - 1;
            job.target = target;
            job.next = first;
            track.jobs.add(job);
            track.work(1000000);
            long sum = track.voids();
            if (sum < smallest) {
                smallest = sum;
                best = first;
            }
        }
        return what == 0 ? best : smallest;
    }

    long minutesLeft() {
        Track track = now.copy();
        track.work(1000000);
        return track.accounts[3] - now.accounts[3];
    }
}
