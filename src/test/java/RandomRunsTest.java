import java.util.Random;

/** Seeded random runs of calls on the program and on DeskModel side by side; every answer is compared. */
public final class RandomRunsTest {
    private static final int RUNS = 10_000;
    /** The document says nothing of an object behind these. */
    private static final int CALLS_OF_A_DESK = 512;
    /** So many that a text becomes full. */
    private static final int MOST_TYPED = 62;
    /** A text takes the most: clearText, what is typed, readCalls, and questions behind that. */
    private static final int CALLS_OF_A_STEP = MOST_TYPED + 5;

    /** What a run has more of than others; by that it gets to the document's limits. */
    private enum More { OF_NOTHING, ROADS, CALLS, MINUTES, THINGS_MADE_ANEW }

    private final Check check;
    private final Random dice;
    private final More more;
    private final int run;
    private final PatrolDesk desk = new PatrolDesk();
    private final DeskModel model = new DeskModel();
    private final StringBuilder log = new StringBuilder();
    private int left = CALLS_OF_A_DESK;
    private final int longestRoad;
    private final int greatestTrouble;
    private final int wrongInHundred;

    private RandomRunsTest(Check check, int run) {
        this.check = check;
        this.run = run;
        dice = new Random(run);
        more = More.values()[run % More.values().length];
        longestRoad = new int[] {2, 5, 15, 60}[dice.nextInt(4)];
        greatestTrouble = new int[] {4, 9, 12}[dice.nextInt(3)];
        wrongInHundred = new int[] {0, 3, 15}[dice.nextInt(3)];
    }

    public static void main(String[] args) {
        Check check = new Check("RandomRunsTest");
        for (int run = 0; run < RUNS && !check.isWrong(); run++) {
            new RandomRunsTest(check, run).play();
        }
        check.end();
    }

    private void play() {
        setUp();
        int forQuestions = CALLS_OF_A_STEP + dice.nextInt(200);
        while (left > forQuestions && !check.isWrong()) {
            if (dice.nextInt(2) == 0) {
                stepOfMore();
            } else {
                step();
            }
            for (int i = dice.nextInt(4); i > 0 && left > 0; i--) {
                ask();
            }
        }
        while (left > 0 && !check.isWrong()) {
            ask();
        }
        check.due("run " + run + ": calls that are left", left, 0);
        if (check.isWrong()) {
            System.out.println(log);
        }
    }

    private void same(String call, int got, int due) {
        left--;
        log.append(call).append(" = ").append(due).append('\n');
        check.due("run " + run + ": " + call, got, due);
    }

    /** Mostly from least to most, now and then beside it. */
    private int from(int least, int most) {
        if (dice.nextInt(100) < wrongInHundred) {
            int[] beside = {least - 1, most + 1, Integer.MIN_VALUE, Integer.MAX_VALUE, -1, 0};
            return beside[dice.nextInt(beside.length)];
        }
        return most < least ? 0 : least + dice.nextInt(most - least + 1);
    }

    private void setUp() {
        int roads = more == More.ROADS ? 60 : 4 + dice.nextInt(30);
        for (int i = 0; i < roads; i++) {
            addRoad();
        }
        int members = 1 + dice.nextInt(22);
        for (int i = 0; i < members; i++) {
            addMember();
        }
        int patrols = dice.nextInt(8);
        for (int i = 0; i < patrols; i++) {
            addPatrol();
        }
        int garages = dice.nextInt(7);
        for (int i = 0; i < garages; i++) {
            addGarage();
        }
    }

    private void addRoad() {
        int a = from(0, 11);
        int b = from(0, 11);
        int m = from(1, longestRoad);
        same("addRoad(" + a + ", " + b + ", " + m + ")", desk.addRoad(a, b, m), model.addRoad(a, b, m));
    }

    private void addMember() {
        int t = from(0, 2);
        same("addMember(" + t + ")", desk.addMember(t), model.addMember(t));
    }

    private void addPatrol() {
        int a = from(0, 11);
        int s = from(1, 9);
        boolean t = dice.nextBoolean();
        same("addPatrol(" + a + ", " + s + ", " + t + ")", desk.addPatrol(a, s, t), model.addPatrol(a, s, t));
    }

    private void addGarage() {
        int a = from(0, 11);
        int p = dice.nextBoolean() ? from(1, 2) : from(1, 9);
        same("addGarage(" + a + ", " + p + ")", desk.addGarage(a, p), model.addGarage(a, p));
    }

    private void stepOfMore() {
        switch (more) {
            case ROADS -> addRoad();
            case CALLS -> {
                call();
                cancel();
            }
            case MINUTES -> pass(from(100, 120));
            case THINGS_MADE_ANEW -> makeAnew();
            default -> step();
        }
    }

    /** What worked and is there no more leaves its place to others. */
    private void makeAnew() {
        int kind = dice.nextInt(8);
        if (kind < 2) {
            addPatrol();
        } else if (kind < 4) {
            addGarage();
        } else if (kind < 5) {
            call();
        } else if (kind < 6) {
            same("restore()", desk.restore(), model.restore());
        } else if (kind < 7) {
            pass(from(20, 60));
        } else {
            undo(4);
        }
    }

    private void step() {
        int kind = dice.nextInt(100);
        if (kind < 28) {
            call();
        } else if (kind < 53) {
            pass(dice.nextInt(3) == 0 ? from(1, 120) : from(1, 12));
        } else if (kind < 57) {
            cancel();
        } else if (kind < 62) {
            int p = from(0, model.count(4) - 1);
            boolean on = dice.nextInt(3) > 0;
            same("duty(" + p + ", " + on + ")", desk.duty(p, on), model.duty(p, on));
        } else if (kind < 65) {
            int p = from(0, model.count(4) - 1);
            same("goHome(" + p + ")", desk.goHome(p), model.goHome(p));
        } else if (kind < 70) {
            int g = from(0, model.count(5) - 1);
            int c = dice.nextInt(4) == 0 ? from(1, 9) : from(1, 2);
            same("fetch(" + g + ", " + c + ")", desk.fetch(g, c), model.fetch(g, c));
        } else if (kind < 80) {
            history();
        } else if (kind < 88) {
            text();
        } else if (kind < 94) {
            forecast();
        } else {
            change();
        }
    }

    private void call() {
        int m = from(0, model.count(3) - 1);
        int a = from(0, 11);
        int t = from(1, greatestTrouble);
        same("call(" + m + ", " + a + ", " + t + ")", desk.call(m, a, t), model.call(m, a, t));
    }

    private void pass(int m) {
        same("pass(" + m + ")", desk.pass(m), model.pass(m));
    }

    private void cancel() {
        int c = from(0, model.count(6) - 1);
        same("cancel(" + c + ")", desk.cancel(c), model.cancel(c));
    }

    private void waitFor(int c) {
        same("waitFor(" + c + ")", desk.waitFor(c), model.waitFor(c));
    }

    /** Of some of the calls that no patrol got to. */
    private void forecast() {
        for (int c = 0; c < model.count(6); c++) {
            if (model.callOf(c, 5) <= 1 && dice.nextInt(3) == 0) {
                waitFor(c);
            }
        }
    }

    private void history() {
        int kind = dice.nextInt(6);
        if (kind < 3) {
            undo(kind == 0 ? 5 : 1);
        } else if (kind < 5) {
            same("keep()", desk.keep(), model.keep());
        } else if (dice.nextInt(3) == 0) {
            same("restore()", desk.restore(), model.restore());
        }
    }

    private void undo(int times) {
        for (int i = 0; i < times; i++) {
            same("undo()", desk.undo(), model.undo());
        }
    }

    private void change() {
        int kind = dice.nextInt(10);
        if (kind < 3) {
            int d = from(0, 5);
            same("setWeather(" + d + ")", desk.setWeather(d), model.setWeather(d));
        } else if (kind < 6) {
            int t = from(0, 2);
            int m = dice.nextInt(3) == 0 ? from(10, 11) : from(10, 240);
            same("setPromise(" + t + ", " + m + ")", desk.setPromise(t, m), model.setPromise(t, m));
        } else if (kind < 7) {
            addRoad();
        } else if (kind < 8) {
            addMember();
        } else if (kind < 9) {
            addPatrol();
        } else {
            addGarage();
        }
    }

    private void text() {
        if (dice.nextInt(4) > 0) {
            same("clearText()", desk.clearText(), model.clearText());
        }
        StringBuilder typed = new StringBuilder();
        int calls = 1 + dice.nextInt(9);
        for (int i = 0; i < calls; i++) {
            typed.append(i == 0 ? "" : ";").append('m').append(from(0, model.count(3) - 1))
                    .append('@').append(from(0, 11)).append('!').append(from(1, 12));
        }
        int spoil = dice.nextInt(8);
        int at = dice.nextInt(typed.length());
        if (spoil == 0) {
            typed.setLength(at);
        } else if (spoil == 1) {
            typed.insert(at, "m@!;0123456789x-\n".charAt(dice.nextInt(17)));
        } else if (spoil == 2) {
            typed.setCharAt(at, (char) (dice.nextBoolean() ? dice.nextInt(65536) : 0));
        } else if (spoil == 3) {
            typed.deleteCharAt(at);
        }
        for (int i = 0; i < typed.length() && i < MOST_TYPED; i++) {
            char c = typed.charAt(i);
            same("type((char) " + (int) c + ")", desk.type(c), model.type(c));
        }
        same("readCalls()", desk.readCalls(), model.readCalls());
    }

    private void ask() {
        int kind = dice.nextInt(100);
        if (kind < 12) {
            int what = from(0, 24);
            same("count(" + what + ")", desk.count(what), model.count(what));
        } else if (kind < 26) {
            int n = from(0, model.count(3) - 1);
            int what = from(0, 6);
            same("member(" + n + ", " + what + ")", desk.member(n, what), model.member(n, what));
        } else if (kind < 44) {
            int n = from(0, model.count(4) - 1);
            int what = from(0, 11);
            same("patrol(" + n + ", " + what + ")", desk.patrol(n, what), model.patrol(n, what));
        } else if (kind < 51) {
            int n = from(0, model.count(5) - 1);
            int what = from(0, 4);
            same("garage(" + n + ", " + what + ")", desk.garage(n, what), model.garage(n, what));
        } else if (kind < 75) {
            int n = from(0, model.count(6) - 1);
            int what = from(0, 12);
            same("callOf(" + n + ", " + what + ")", desk.callOf(n, what), model.callOf(n, what));
        } else {
            askOfWaysAndTurns(kind);
        }
    }

    private void askOfWaysAndTurns(int kind) {
        if (kind < 80) {
            int place = from(0, 6);
            same("waiting(" + place + ")", desk.waiting(place), model.waiting(place));
        } else if (kind < 86) {
            int n = from(0, model.count(6) - 1);
            int first = dice.nextBoolean() ? model.waiting(dice.nextInt(3)) : n;
            same("nearest(" + first + ")", desk.nearest(first), model.nearest(first));
        } else if (kind < 90) {
            waitFor(from(0, model.count(6) - 1));
        } else if (kind < 94) {
            int a = from(0, 11);
            int b = from(0, 11);
            same("distance(" + a + ", " + b + ")", desk.distance(a, b), model.distance(a, b));
        } else {
            int a = from(0, 11);
            int b = from(0, 11);
            int place = from(0, dice.nextBoolean() ? 2 : 11);
            same("wayAt(" + a + ", " + b + ", " + place + ")", desk.wayAt(a, b, place), model.wayAt(a, b, place));
        }
    }
}
