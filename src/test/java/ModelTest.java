import java.util.ArrayList;
import java.util.List;

/** All promises: long runs of mixed calls, each answer compared with the one of Model. */
public final class ModelTest {
    private static final int RUNS = 300;
    // What a later call answers is free.
    private static final int CALLS = 512;

    private final BallastTrack track = new BallastTrack();
    private final Model model = new Model();
    private final List<String> told = new ArrayList<>();
    private final int kind;
    private long seed;
    private boolean agrees = true;

    private ModelTest(int run) {
        seed = run * 7919L + 17;
        kind = run % 5;
    }

    public static void main(String[] args) {
        for (int run = 0; run < RUNS; run++) {
            new ModelTest(run).play(run);
        }
        Due.end();
    }

    private void play(int run) {
        prepare();
        while (told.size() < CALLS && agrees) {
            if (below(100) < 8) {
                typeText();
            } else {
                call(below(25));
            }
        }
        if (!agrees) {
            System.out.println("run " + run + " differs at its end:");
            for (String call : told.subList(Math.max(0, told.size() - 40), told.size())) {
                System.out.println("  " + call);
            }
        }
        Due.isTrue("run " + run + " is the model's", agrees);
    }

    /** The kinds of runs differ by how stiff and how uneven the track is. */
    private void prepare() {
        if (kind == 0) {
            return;
        }
        same("begin", 1, 10 + below(kind == 1 ? 3 : 51), 0, 0);
        same("setNumber", 2, 0, 1 + below(20), 0);
        same("setNumber", 2, 1, below(100), 0);
        if (kind == 3) {
            same("setNumber", 2, 5, 190 + below(20), 0);
            same("setNumber", 2, 4, 100 + below(60), 0);
        }
    }

    /** Numbers from 0 to bound - 1, always the same ones for a run. */
    private int below(int bound) {
        seed = seed * 6364136223846793005L + 1442695040888963407L;
        return (int) Math.floorMod(seed >>> 33, (long) bound);
    }

    /** Mostly within the range, else at its edges or somewhat outside. */
    private int around(int least, int greatest) {
        int dice = below(40);
        if (dice == 0) {
            return least - 1 - below(2);
        }
        if (dice == 1) {
            return greatest + 1 + below(2);
        }
        if (dice == 2) {
            return below(2) == 0 ? Integer.MIN_VALUE : Integer.MAX_VALUE;
        }
        if (dice < 6) {
            return least;
        }
        return dice < 9 ? greatest : least + below(greatest - least + 1);
    }

    private int sleeper() {
        return around(0, (int) model.count(0) - 1);
    }

    private int level() {
        int dice = below(30);
        if (dice == 0) {
            return around(-9999, 9999);
        }
        return dice < 20 ? below(60) - 30 : below(400) - 200;
    }

    private void same(String name, int arguments, int a, int b, int c) {
        if (told.size() >= CALLS) {
            return;
        }
        long got = answerOfTrack(name, a, b, c);
        long due = answerOfModel(name, a, b, c);
        StringBuilder line = new StringBuilder(name).append('(');
        int[] values = {a, b, c};
        for (int i = 0; i < arguments; i++) {
            line.append(i == 0 ? "" : ", ").append(values[i]);
        }
        told.add(line.append(") answered ").append(got).append(", due is ").append(due).toString());
        agrees = agrees && (got == due || name.equals("load") && got == model.otherAnswer());
    }

    private void call(int which) {
        switch (which) {
            case 0:
                if (below(6) == 0) {
                    same("begin", 1, around(10, 60), 0, 0);
                }
                break;
            case 1:
                setNumber();
                break;
            case 2:
            case 3:
                same("setLevel", 2, sleeper(), level(), 0);
                break;
            case 4:
                same("renew", 2, sleeper(), sleeper(), 0);
                break;
            case 5:
            case 6:
                same("addJob", 3, Math.min(sleeper(), sleeper()), sleeper(), level());
                break;
            case 7:
                if (below(3) == 0) {
                    same("cancelJobs", 1, sleeper(), 0, 0);
                }
                break;
            case 8:
                same("work", 1, below(2) == 0 ? 1 + below(30) : around(1, 600), 0, 0);
                break;
            case 9:
            case 10:
                same("trains", 3, around(1, 200), around(1, 30), below(3) == 0 ? around(1, 50) : 1 + below(3));
                break;
            case 11:
                same("keep", 1, around(0, 1), 0, 0);
                break;
            case 12:
                same("back", 1, around(0, 1), 0, 0);
                break;
            case 13:
                same("undo", 0, 0, 0, 0);
                break;
            default:
                look(which);
                break;
        }
    }

    private void setNumber() {
        int what = around(0, 7);
        int[] greatest = {20, 99, 5, 60, 100, 200, 500, 50};
        int bound = what >= 0 && what < 8 ? greatest[what] : 9;
        same("setNumber", 2, what, below(20) == 0 ? around(1, 2000) : around(1, bound), 0);
    }

    private void look(int which) {
        switch (which) {
            case 14:
            case 15:
                same("count", 1, around(0, 14), 0, 0);
                break;
            case 16:
            case 17:
                same("sleeper", 2, sleeper(), around(0, 9), 0);
                break;
            case 18:
                same("job", 2, below(4), around(0, 3), 0);
                same("job", 2, around(0, 6), around(0, 3), 0);
                break;
            case 19:
                same("account", 1, around(0, 6), 0, 0);
                break;
            case 20:
                same("rail", 2, sleeper(), around(0, 1), 0);
                break;
            case 21:
                same("why", 1, around(0, 1), 0, 0);
                break;
            case 22:
                same("lifts", 2, sleeper(), level(), 0);
                break;
            case 23:
                forecast();
                break;
            default:
                same("minutesLeft", 0, 0, 0, 0);
                break;
        }
    }

    private void forecast() {
        if (below(2) == 0) {
            same("bestRow", 3, around(1, 20), level(), around(0, 1));
        } else if (below(3) == 0) {
            same("trainsUntil", 3, around(1, 200), around(1, 30), around(1, 3));
        }
    }

    private void typeText() {
        String text = below(3) == 0 ? wildText() : itemsText();
        for (int i = 0; i < text.length() && told.size() < CALLS - 1; i++) {
            same("appendCharacter", 1, text.charAt(i), 0, 0);
        }
        same("load", 0, 0, 0, 0);
        if (below(4) != 0) {
            same("clearText", 0, 0, 0, 0);
        }
        if (below(20) == 0) {
            same("appendCharacter", 1, around(0, 255), 0, 0);
        }
    }

    private String wildText() {
        String signs = "bf-=; 0123459b=;1";
        StringBuilder text = new StringBuilder();
        int length = below(14);
        for (int i = 0; i < length; i++) {
            text.append(signs.charAt(below(signs.length())));
        }
        return text.toString();
    }

    private String itemsText() {
        StringBuilder text = new StringBuilder();
        int items = below(4);
        for (int i = 0; i < items; i++) {
            boolean levels = below(3) > 0;
            int first = below((int) model.count(0));
            text.append(levels ? 'b' : 'f').append(space()).append(first);
            if (below(2) == 0) {
                text.append(space()).append('-').append(first + below((int) model.count(0) - first));
            }
            text.append('=').append(space());
            if (levels && below(2) == 0) {
                text.append('-').append(space());
            }
            text.append(below(levels ? 40 : 101)).append(space()).append(';');
        }
        if (below(3) == 0 && text.length() > 0) {
            text.setCharAt(below(text.length()), "bf-=; 0123456789x".charAt(below(17)));
        }
        if (below(6) == 0 && text.length() > 0) {
            text.setLength(below(text.length()));
        }
        return text.toString();
    }

    private String space() {
        return below(8) == 0 ? " " : "";
    }

    private long answerOfTrack(String name, int a, int b, int c) {
        return switch (name) {
            case "begin" -> track.begin(a);
            case "setNumber" -> track.setNumber(a, b);
            case "setLevel" -> track.setLevel(a, b);
            case "appendCharacter" -> track.appendCharacter(a);
            case "clearText" -> track.clearText();
            case "load" -> track.load();
            case "renew" -> track.renew(a, b);
            case "addJob" -> track.addJob(a, b, c);
            case "cancelJobs" -> track.cancelJobs(a);
            case "work" -> track.work(a);
            case "trains" -> track.trains(a, b, c);
            case "keep" -> track.keep(a);
            case "back" -> track.back(a);
            case "undo" -> track.undo();
            case "count" -> track.count(a);
            case "sleeper" -> track.sleeper(a, b);
            case "job" -> track.job(a, b);
            case "account" -> track.account(a);
            case "rail" -> track.rail(a, b);
            case "why" -> track.why(a);
            case "lifts" -> track.lifts(a, b);
            case "trainsUntil" -> track.trainsUntil(a, b, c);
            case "bestRow" -> track.bestRow(a, b, c);
            default -> track.minutesLeft();
        };
    }

    private long answerOfModel(String name, int a, int b, int c) {
        return switch (name) {
            case "begin" -> model.begin(a);
            case "setNumber" -> model.setNumber(a, b);
            case "setLevel" -> model.setLevel(a, b);
            case "appendCharacter" -> model.appendCharacter(a);
            case "clearText" -> model.clearText();
            case "load" -> model.load();
            case "renew" -> model.renew(a, b);
            case "addJob" -> model.addJob(a, b, c);
            case "cancelJobs" -> model.cancelJobs(a);
            case "work" -> model.work(a);
            case "trains" -> model.trains(a, b, c);
            case "keep" -> model.keep(a);
            case "back" -> model.back(a);
            case "undo" -> model.undo();
            case "count" -> model.count(a);
            case "sleeper" -> model.sleeper(a, b);
            case "job" -> model.job(a, b);
            case "account" -> model.account(a);
            case "rail" -> model.rail(a, b);
            case "why" -> model.why(a);
            case "lifts" -> model.lifts(a, b);
            case "trainsUntil" -> model.trainsUntil(a, b, c);
            case "bestRow" -> model.bestRow(a, b, c);
            default -> model.minutesLeft();
        };
    }
}
