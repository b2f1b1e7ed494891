/** The document's terms, sentence by sentence: TEXTS, HISTORY and ERRORS; and its limit of calls. */
public final class TermsRestTest {
    private static final Check CHECK = new Check("TermsRestTest");

    public static void main(String[] args) {
        callsOfAnObject();
        texts();
        history();
        errors();
        CHECK.end();
    }

    private static void due(String what, long got, long want) {
        CHECK.due(what, got, want);
    }

    private static void same(String what, int[] got, int[] want) {
        for (int i = 0; i < want.length; i++) {
            due(what + " [" + i + "]", got[i], want[i]);
        }
    }

    private static void callsOfAnObject() {
        CHECK.sentence("What it is",
                "An object is used for at most 512 calls after it has been made; what later calls answer is free.");
        PatrolDesk x = Desks.ofMembers(1);
        x.addPatrol(0, 9, false);
        for (int i = 0; i < 253; i++) {
            due("a call that comes and is cancelled", x.call(0, 0, 1), i < 40 ? i : -3);
            due("the same", x.cancel(i), i < 40 ? 0 : -1);
        }
        due("the 509th call", x.pass(100), 0);
        due("the 510th", x.setWeather(5), 0);
        due("the 511th", x.undo(), 3);
        due("the 512th", x.count(0), 100);
    }

    // ---- TEXTS

    private static void texts() {
        sixtyCharacters();
        oneOrMoreCalls();
        oneCall();
        oneOrTwoDigits();
        noZeroInFront();
        fault();
        faultOfATextThatEndsTooEarly();
    }

    private static void sixtyCharacters() {
        CHECK.sentence("TEXTS", "There is a text of at most 60 characters, empty at first.");
        PatrolDesk x = new PatrolDesk();
        due("empty at first", x.count(24), 0);
        due("empty at first", x.clearText(), 0);
        for (int i = 1; i <= 60; i++) {
            due("character " + i, x.type((char) (i * 1000)), i);
        }
        due("a 61st", x.type('m'), -3);
        due("60 stay", x.count(24), 60);
        due("60 were there", x.clearText(), 60);
        due("room again", x.type('m'), 1);
    }

    private static void oneOrMoreCalls() {
        CHECK.sentence("TEXTS", "A text of calls is one or more calls with \";\" between two.");
        PatrolDesk x = Desks.ofMembers(20);
        due("none", Desks.read(x, ""), -100);
        due("one", Desks.read(x, "m0@0!1"), 1);
        due("two", Desks.read(x, "m1@0!1;m2@0!1"), 2);
        due("three", Desks.read(x, "m3@0!1;m4@0!1;m5@0!1"), 3);
        due("six calls", x.count(6), 6);
        due("one ; ahead of them", Desks.read(x, ";m6@0!1"), -100);
        due("one ; behind them", Desks.read(x, "m6@0!1;"), -107);
        due("two ; between them", Desks.read(x, "m6@0!1;;m7@0!1"), -107);
        due("none between them", Desks.read(x, "m6@0!1m7@0!1"), -106);
        due("another sign between them", Desks.read(x, "m6@0!1,m7@0!1"), -106);
        due("a blank between them", Desks.read(x, "m6@0!1; m7@0!1"), -107);
        due("a sign 256 above ; between them", Desks.read(x, "m6@0!1" + (char) (';' + 256) + "m7@0!1"), -106);
        PatrolDesk y = Desks.ofMembers(20);
        due("as many as there is room for",
                Desks.read(y, "m0@0!1;m1@0!1;m2@0!1;m3@0!1;m4@0!1;m5@0!1;m6@0!1;m7@10!11"), 8);
        due("the last one's area", y.callOf(7, 1), 10);
        due("the last one's trouble", y.callOf(7, 2), 11);
    }

    private static void oneCall() {
        CHECK.sentence("TEXTS", "A call is: \"m\", the member (one or two digits), \"@\", the area (one or two digits),"
                + " \"!\", and the trouble (one or two digits).");
        String right = "m1@2!3";
        for (int place = 0; place < 6; place++) {
            for (int more : new int[] {256, 512, 32768, 65280}) {
                PatrolDesk x = Desks.ofMembers(4);
                char other = (char) (right.charAt(place) + more);
                String text = right.substring(0, place) + other + right.substring(place + 1);
                due("fault of " + text, Desks.read(x, text), -100 - place);
            }
        }
        char[] others = {'M', 'n', '@', '!', ';', 'm', 'A', '?', ' ', '#', '-', '+', '/', ':', 0, 255, 0x0661, 65535};
        for (int place = 0; place < 6; place++) {
            for (char other : others) {
                if (right.charAt(place) != other) {
                    PatrolDesk x = Desks.ofMembers(4);
                    String text = right.substring(0, place) + other + right.substring(place + 1);
                    due("fault of " + text, Desks.read(x, text), -100 - place);
                }
            }
        }
        PatrolDesk x = Desks.ofMembers(4);
        due("taken", Desks.read(x, right), 1);
        due("its member", x.callOf(0, 0), 1);
        due("its area", x.callOf(0, 1), 2);
        due("its trouble", x.callOf(0, 2), 3);
    }

    private static void oneOrTwoDigits() {
        CHECK.sentence("TEXTS", "(one or two digits)");
        PatrolDesk x = Desks.ofMembers(20);
        due("two digits each", Desks.read(x, "m19@11!12"), 1);
        due("member 19", x.callOf(0, 0), 19);
        due("area 11", x.callOf(0, 1), 11);
        due("trouble 12", x.callOf(0, 2), 12);
        due("one digit each", Desks.read(x, "m9@9!9"), 1);
        due("member 9", x.callOf(1, 0), 9);
        due("no digit of a member", Desks.read(x, "m@1!1"), -101);
        due("no digit of an area", Desks.read(x, "m1@!1"), -103);
        due("no digit of a trouble", Desks.read(x, "m1@1!;m2@2!2"), -105);
        due("three of a member", Desks.read(x, "m100@1!1"), -103);
        due("three of an area", Desks.read(x, "m1@100!1"), -105);
        due("three of a trouble", Desks.read(x, "m1@1!100"), -107);
        due("two digits are no fault, whatever they are", Desks.read(x, "m99@99!99"), -1);
    }

    private static void noZeroInFront() {
        CHECK.sentence("TEXTS", "No number has a zero in front (unless it is the single digit 0).");
        PatrolDesk x = Desks.ofMembers(20);
        due("member 00", Desks.read(x, "m00@1!1"), -102);
        due("member 01", Desks.read(x, "m01@1!1"), -102);
        due("area 00", Desks.read(x, "m1@00!1"), -104);
        due("area 09", Desks.read(x, "m1@09!1"), -104);
        due("trouble 00", Desks.read(x, "m1@1!00"), -106);
        due("trouble 01", Desks.read(x, "m1@1!01"), -106);
        due("a zero behind is none in front", Desks.read(x, "m10@10!10"), 1);
        due("the single digit 0", Desks.read(x, "m0@0!1"), 1);
        due("is no fault of a trouble", Desks.read(x, "m1@1!0"), -2);
        due("nor in a later call", Desks.read(x, "m1@0!10;m2@0!0"), -2);
        due("a zero in front in a later call", Desks.read(x, "m1@0!10;m2@0!02"), -114);
    }

    private static void fault() {
        CHECK.sentence("TEXTS",
                "The fault of the text is the index, from 0, of the first character that is not allowed at its place,");
        PatrolDesk x = Desks.ofMembers(20);
        due("the first", Desks.read(x, "xm1@1!1"), -100);
        due("of two, the first", Desks.read(x, "m1x1y1"), -102);
        due("in the second call", Desks.read(x, "m1@1!1;m2#2!2"), -109);
        due("behind a call", Desks.read(x, "m1@1!1 "), -106);
        due("behind a call of two digits", Desks.read(x, "m1@1!12x"), -107);
        due("the character 0 behind a call", Desks.read(x, "m1@1!1" + (char) 0), -106);
        due("the character 65535 behind a call", Desks.read(x, "m1@1!1" + (char) 65535), -106);
        String most = "m10@10!10;m11@10!10;m12@10!10;m13@10!10;m14@10!10;m15@10!10;";
        due("the 60th character", Desks.read(x, most.substring(0, 59) + "x"), -159);
        due("ahead of what is not known", Desks.read(x, "m99@99!99;m"), -111);
        due("no call came", x.count(6), 0);
    }

    private static void faultOfATextThatEndsTooEarly() {
        CHECK.sentence("TEXTS", "or the length of the text if it ends too early (the empty text does).");
        PatrolDesk x = Desks.ofMembers(20);
        String right = "m10@11!12;m9@8!7";
        boolean[] whole = new boolean[right.length() + 1];
        whole[8] = true;
        whole[9] = true;
        whole[16] = true;
        for (int length = 0; length <= right.length(); length++) {
            int answer = Desks.read(x, right.substring(0, length));
            if (whole[length]) {
                due("taken at the length " + length, answer, length == 16 ? 2 : 1);
                x.undo();
            } else {
                due("too early at the length " + length, answer, -100 - length);
            }
        }
        String most = "m10@10!10;m11@10!10;m12@10!10;m13@10!10;m14@10!10;m15@10!10;";
        due("at 60 characters", Desks.read(x, most), -160);
        due("at 57", Desks.read(x, most.substring(0, 57)), -157);
        due("not at 59", Desks.read(x, most.substring(0, 59)), 6);
    }

    // ---- HISTORY

    private static void history() {
        fourStates();
        theOldestIsDropped();
        undoRemovesAndRestores();
        actsRecordTheStateBefore();
        noActsRecordNothing();
        refusedActsRecordNothing();
        oneSnapshot();
        whatAStateIs();
        whatAStateIsAtAnyTime();
        placesUsedAnew();
        whatIsThereNoMore();
        whatIsNoState();
    }

    private static void fourStates() {
        CHECK.sentence("HISTORY", "A history of at most 4 states is kept;");
        PatrolDesk x = new PatrolDesk();
        due("none at first", x.count(23), 0);
        for (int i = 1; i <= 6; i++) {
            x.addMember(0);
            due("states after " + i, x.count(23), Math.min(i, 4));
        }
        for (int left = 3; left >= 0; left--) {
            due("undone", x.undo(), left);
        }
        due("no more", x.undo(), -5);
    }

    private static void theOldestIsDropped() {
        CHECK.sentence("HISTORY", "when one more is recorded, the oldest one is dropped;");
        PatrolDesk x = new PatrolDesk();
        for (int i = 1; i <= 5; i++) {
            x.setPromise(0, 100 + i);
        }
        for (int i = 4; i >= 1; i--) {
            x.undo();
            due("the promise before", x.count(19), 100 + i);
        }
        due("nothing is left of the first state", x.undo(), -5);
        due("it stays", x.count(19), 101);
        // After undoing, what is recorded comes into the place of what was undone.
        for (int i = 1; i <= 3; i++) {
            x.setPromise(0, 200 + i);
        }
        x.undo();
        x.setPromise(0, 210);
        x.setPromise(0, 220);
        x.setPromise(0, 230);
        int[] before = {220, 210, 202, 201};
        for (int i = 0; i < 4; i++) {
            due("undone", x.undo(), 3 - i);
            due("the promise before", x.count(19), before[i]);
        }
        due("no more", x.undo(), -5);
    }

    private static void undoRemovesAndRestores() {
        CHECK.sentence("HISTORY", "undo() removes and restores the latest one.");
        PatrolDesk x = new PatrolDesk();
        x.setWeather(1);
        x.setWeather(2);
        x.setWeather(3);
        due("removed", x.undo(), 2);
        due("the latest", x.count(1), 2);
        due("removed", x.undo(), 1);
        due("the one before", x.count(1), 1);
        due("one is left", x.count(23), 1);
        x.setWeather(4);
        due("two then", x.count(23), 2);
        x.undo();
        due("not the one that was removed", x.count(1), 1);
    }

    private static final int ACTS = 14;

    /** An act on the busy desk, which has gone on for an hour for some of them. */
    private static int act(PatrolDesk x, int which) {
        return switch (which) {
            case 0 -> x.addRoad(7, 8, 9);
            case 1 -> x.addMember(2);
            case 2 -> x.addPatrol(9, 9, true);
            case 3 -> x.addGarage(9, 9);
            case 4 -> x.setPromise(1, 99);
            case 5 -> x.setWeather(4);
            case 6 -> x.call(4, 3, 4);
            case 7 -> x.cancel(6);
            case 8 -> x.pass(60);
            case 9 -> x.duty(0, false);
            case 10 -> x.goHome(2);
            case 11 -> x.fetch(1, 1);
            case 12 -> x.readCalls();
            default -> x.restore();
        };
    }

    private static PatrolDesk readyFor(int act) {
        PatrolDesk x = Desks.busy();
        x.keep();
        if (act >= 9) {
            x.pass(60);
        }
        Desks.put(x, "m4@1!2");
        return x;
    }

    private static void actsRecordTheStateBefore() {
        CHECK.sentence("HISTORY", "Each call of a method that is described as an act, and returns no error and not NONE,"
                + " records the state that was before it.");
        int[] answers = {3, 5, 3, 2, 70, 2, 7, 1, 3, 2, 18, 0, 1, 9};
        for (int act = 0; act < ACTS; act++) {
            PatrolDesk x = readyFor(act);
            due("act " + act, act(x, act), answers[act]);
            due("four states after the act " + act, x.undo(), 3);
            same("the state before the act " + act, Desks.told(x), Desks.told(readyFor(act)));
            PatrolDesk y = readyFor(act);
            act(y, act);
            y.undo();
            y.undo();
            PatrolDesk z = readyFor(act);
            z.undo();
            same("one state only for the act " + act, Desks.told(y), Desks.told(z));
        }
    }

    private static void noActsRecordNothing() {
        CHECK.sentence("HISTORY", "Each call of a method that is described as an act");
        PatrolDesk x = Desks.busy();
        x.undo();
        x.undo();
        due("two states", x.count(23), 2);
        x.type('m');
        x.clearText();
        x.keep();
        x.distance(0, 1);
        x.wayAt(0, 1, 1);
        x.waiting(0);
        x.nearest(5);
        x.waitFor(5);
        Desks.told(x);
        due("as many as before", x.count(23), 2);
        due("the state before is that of the act", x.undo(), 1);
    }

    private static void refusedActsRecordNothing() {
        CHECK.sentence("HISTORY", "and returns no error and not NONE,");
        PatrolDesk x = Desks.ofMembers(1);
        x.addPatrol(0, 9, true);
        x.addGarage(0, 1);
        int[] answers = {
            x.addRoad(0, 0, 1), x.addMember(3), x.addPatrol(0, 0, true), x.addGarage(0, 0), x.setPromise(0, 9),
            x.setPromise(0, 90), x.setWeather(6), x.setWeather(0), x.call(0, 0, 0), x.cancel(0), x.duty(1, true),
            x.duty(0, true), x.goHome(1), x.goHome(0), x.fetch(0, 0), x.pass(0), x.readCalls(), x.restore(),
        };
        int[] want = {-2, -2, -2, -2, -2, -5, -2, -5, -2, -1, -1, -5, -1, -5, -2, -2, -100, -5};
        same("refused", answers, want);
        due("three states, of the three acts", x.count(23), 3);
        Desks.put(x, "m1@0!1");
        due("refused", x.readCalls(), -1);
        due("three states", x.count(23), 3);
        due("undo removes the last act", x.undo(), 2);
        due("which was a garage", x.count(5), 0);
    }

    private static void oneSnapshot() {
        CHECK.sentence("HISTORY", "There is one snapshot, empty at first.");
        PatrolDesk x = new PatrolDesk();
        due("empty", x.restore(), -5);
        x.pass(3);
        due("acts make none", x.restore(), -5);
        x.keep();
        x.pass(4);
        x.keep();
        x.pass(5);
        due("one only, the later one", x.restore(), 7);
        due("and again", x.restore(), 7);
        PatrolDesk y = new PatrolDesk();
        due("empty in another object", y.restore(), -5);
    }

    private static void whatAStateIs() {
        CHECK.sentence("HISTORY", "A state is everything");
        int[] before = Desks.told(Desks.busy());
        PatrolDesk x = Desks.busy();
        x.keep();
        changeEverything(x);
        due("restored", x.restore(), 9);
        same("all of it, by restore", Desks.told(x), before);
        PatrolDesk y = Desks.busy();
        y.keep();
        due("restored, though it is so", y.restore(), 9);
        changeEverything(y);
        y.restore();
        same("all of it, a second time", Desks.told(y), before);
        PatrolDesk z = Desks.busy();
        z.pass(100);
        z.undo();
        same("all of it, by undo", Desks.told(z), before);
        z.pass(100);
        z.undo();
        z.pass(50);
        PatrolDesk w = Desks.busy();
        w.pass(50);
        same("and it goes on as it would have", Desks.told(z), Desks.told(w));
    }

    private static void whatAStateIsAtAnyTime() {
        CHECK.sentence("HISTORY", "A state is everything");
        // Meanwhile a tow goes on, another one ends, repairs end, and all are free.
        for (int minutes : new int[] {1, 8, 18, 26, 40}) {
            PatrolDesk plain = Desks.busy();
            plain.pass(minutes);
            PatrolDesk x = Desks.busy();
            x.pass(minutes);
            x.keep();
            changeEverything(x);
            x.restore();
            same("restored after " + minutes, Desks.told(x), Desks.told(plain));
            PatrolDesk y = Desks.busy();
            y.pass(minutes);
            y.keep();
            changeEverything(y);
            y.restore();
            y.addMember(1);
            y.undo();
            y.pass(50);
            plain.pass(50);
            same("and gone on after " + minutes, Desks.told(y), Desks.told(plain));
        }
        PatrolDesk z = Desks.withRoads(new PatrolDesk(), 11);
        z.addRoad(10, 11, 1);
        due("the road", z.wayAt(10, 11, 1), 11);
        z.undo();
        due("no road", z.wayAt(10, 11, 1), 0);
        due("room for it", z.addRoad(11, 10, 2), 11);
        due("as many minutes over 0", z.wayAt(10, 11, 1), 0);
        due("back, too", z.wayAt(11, 10, 1), 0);
    }

    private static void placesUsedAnew() {
        CHECK.sentence("HISTORY", "A state is everything");
        for (int minutes : new int[] {8, 60}) {
            PatrolDesk x = new PatrolDesk();
            x.keep();
            Desks.makeBusy(x);
            x.pass(minutes);
            x.restore();
            Desks.makeBusy(x);
            same("nothing comes from before the restore", Desks.told(x), Desks.told(Desks.busy()));
        }
        // Another patrol, garage, member and call in the place of one that is restored.
        PatrolDesk y = new PatrolDesk();
        y.addMember(2);
        y.addPatrol(0, 9, true);
        y.addGarage(0, 9);
        y.call(0, 0, 1);
        y.keep();
        for (int i = 0; i < 4; i++) {
            y.undo();
        }
        y.addMember(0);
        y.addPatrol(5, 1, false);
        y.addGarage(5, 1);
        y.call(0, 5, 12);
        y.pass(7);
        y.restore();
        PatrolDesk z = new PatrolDesk();
        z.addMember(2);
        z.addPatrol(0, 9, true);
        z.addGarage(0, 9);
        z.call(0, 0, 1);
        same("what is restored", Desks.told(y), Desks.told(z));
        // A callback in the place of a call that was none, and the other way round.
        PatrolDesk w = Desks.ofMembers(1);
        w.addPatrol(0, 9, false);
        w.call(0, 0, 1);
        w.pass(6);
        w.call(0, 0, 1);
        w.keep();
        w.undo();
        Desks.passAll(w, 121);
        w.call(0, 0, 1);
        due("none", w.callOf(1, 10), 0);
        w.restore();
        due("a callback", w.callOf(1, 10), 1);
    }

    /** Who is there no more does not go on with its work. */
    private static void whatIsThereNoMore() {
        CHECK.sentence("HISTORY", "A state is everything");
        for (int undone = 0; undone <= 1; undone++) {
            PatrolDesk x = Desks.ofMembers(2);
            x.call(0, 0, 1);
            x.keep();
            x.addPatrol(0, 9, true);
            x.call(1, 0, 12);
            x.pass(1);
            due("a patrol repairs", x.callOf(0, 5), 2);
            due("gone", undone == 0 ? x.restore() : x.undo() + x.undo() + x.undo(), undone == 0 ? 0 : 3 + 2 + 1);
            due("no patrol", x.count(4), 0);
            due("no calls are done", x.pass(100), 0);
            due("the call waits", x.callOf(0, 5), 0);
            due("for nobody", x.callOf(0, 6), -5);
            due("nobody is on duty", x.count(22), 0);
            due("one call", x.count(6), 1);
            due("one call waits", x.waiting(1), -5);
            due("the other member has none", x.member(1, 2), -5);
            due("nor had one", x.member(1, 1), 0);
            due("minutes waited by the one", x.count(15), 100);
            due("no garage", x.garage(0, 0), -1);
        }
        PatrolDesk y = Desks.ofMembers(1);
        y.addPatrol(0, 1, true);
        y.keep();
        y.addGarage(0, 9);
        y.restore();
        y.call(0, 0, 12);
        y.pass(3);
        due("no tow to a garage that is there no more", y.callOf(0, 5), 3);
    }

    private static void changeEverything(PatrolDesk x) {
        x.addRoad(0, 2, 1);
        x.addRoad(4, 11, 1);
        x.addMember(2);
        x.addPatrol(7, 9, true);
        x.addGarage(2, 9);
        x.setPromise(0, 11);
        x.setPromise(2, 12);
        x.setWeather(5);
        x.cancel(6);
        x.cancel(5);
        x.call(4, 0, 12);
        x.fetch(1, 1);
        x.pass(110);
        x.duty(0, false);
        x.goHome(2);
        x.pass(1);
    }

    private static void whatIsNoState() {
        CHECK.sentence("HISTORY", "A state is everything but the text, the history and the snapshot.");
        PatrolDesk x = Desks.ofMembers(2);
        x.keep();
        Desks.put(x, "m0@0!1");
        x.pass(1);
        due("undo leaves the text", x.undo(), 2);
        due("six characters", x.count(24), 6);
        due("restore leaves the text", x.restore(), 0);
        due("six characters", x.count(24), 6);
        due("they can be read", x.readCalls(), 1);
        x.clearText();
        x.undo();
        due("undo brings no text back", x.count(24), 0);
        x.restore();
        due("nor does restore", x.count(24), 0);
        // The history goes on through restore: what was before it can be undone.
        PatrolDesk y = new PatrolDesk();
        y.addMember(0);
        y.keep();
        y.addMember(0);
        y.addMember(0);
        y.restore();
        due("four states, though there was one in the snapshot", y.count(23), 4);
        y.undo();
        due("three members before the restore", y.count(3), 3);
        y.undo();
        due("two before that", y.count(3), 2);
        // The snapshot stays through undo: it is the later one.
        PatrolDesk z = new PatrolDesk();
        z.keep();
        z.pass(5);
        z.keep();
        z.undo();
        due("ahead of the later snapshot", z.count(0), 0);
        due("which is there all the same", z.restore(), 5);
    }

    // ---- ERRORS

    private static void errors() {
        constants();
        orderOfTheChecks();
        orderOfTheChecksWhenFull();
        noneIsNoError();
        errorsChangeNothing();
    }

    private static void constants() {
        CHECK.sentence("ERRORS", "Errors are reported by the constants below.");
        due("UNKNOWN", PatrolDesk.UNKNOWN, -1);
        due("BAD_VALUE", PatrolDesk.BAD_VALUE, -2);
        due("FULL", PatrolDesk.FULL, -3);
        due("NOT_POSSIBLE", PatrolDesk.NOT_POSSIBLE, -4);
        due("NONE", PatrolDesk.NONE, -5);
        PatrolDesk x = new PatrolDesk();
        CHECK.sentence("ERRORS", "`UNKNOWN = -1`: There is no such area, road, member, patrol, garage or call.");
        due("area", x.addRoad(12, 0, 1), PatrolDesk.UNKNOWN);
        due("member", x.member(0, 0), PatrolDesk.UNKNOWN);
        due("patrol", x.patrol(0, 0), PatrolDesk.UNKNOWN);
        due("garage", x.garage(0, 0), PatrolDesk.UNKNOWN);
        due("call", x.callOf(0, 0), PatrolDesk.UNKNOWN);
        CHECK.sentence("ERRORS", "`BAD_VALUE = -2`: Another argument is out of range.");
        due("minutes", x.pass(0), PatrolDesk.BAD_VALUE);
        CHECK.sentence("ERRORS", "`FULL = -3`: There is no more room.");
        due("members", Desks.ofMembers(20).addMember(0), PatrolDesk.FULL);
        CHECK.sentence("ERRORS", "`NOT_POSSIBLE = -4`: This is not possible.");
        x.addGarage(0, 1);
        due("no car to fetch", x.fetch(0, 1), PatrolDesk.NOT_POSSIBLE);
        CHECK.sentence("ERRORS", "`NONE = -5`: There is no such thing; not an error.");
        due("a way", x.distance(0, 1), PatrolDesk.NONE);
    }

    private static void orderOfTheChecks() {
        CHECK.sentence("ERRORS",
                "Where several errors can apply, the order of the @return line is the order of the checks.");
        PatrolDesk x = Desks.busy();
        due("addRoad: UNKNOWN ahead of BAD_VALUE", x.addRoad(12, 12, 0), -1);
        due("addRoad: BAD_VALUE ahead of NOT_POSSIBLE", x.addRoad(0, 1, 61), -2);
        due("addPatrol: UNKNOWN ahead of BAD_VALUE", x.addPatrol(12, 0, true), -1);
        due("addGarage: UNKNOWN ahead of BAD_VALUE", x.addGarage(-1, 10), -1);
        due("call: UNKNOWN ahead of BAD_VALUE", x.call(5, 0, 0), -1);
        due("call: UNKNOWN ahead of NOT_POSSIBLE", x.call(0, 12, 1), -1);
        due("call: BAD_VALUE ahead of NOT_POSSIBLE", x.call(0, 0, 13), -2);
        due("fetch: UNKNOWN ahead of BAD_VALUE", x.fetch(2, 0), -1);
        due("fetch: BAD_VALUE ahead of NOT_POSSIBLE", x.fetch(0, 10), -2);
        due("wayAt: UNKNOWN ahead of BAD_VALUE", x.wayAt(12, 0, -1), -1);
        due("member: UNKNOWN ahead of BAD_VALUE", x.member(5, 7), -1);
        due("patrol: UNKNOWN ahead of BAD_VALUE", x.patrol(3, 12), -1);
        due("garage: UNKNOWN ahead of BAD_VALUE", x.garage(2, 5), -1);
        due("callOf: UNKNOWN ahead of BAD_VALUE", x.callOf(7, 13), -1);
        due("readCalls: the fault ahead of UNKNOWN", Desks.read(x, "m5@0!1;"), -107);
        due("readCalls: UNKNOWN ahead of BAD_VALUE", Desks.read(x, "m5@0!0"), -1);
        due("readCalls: BAD_VALUE ahead of NOT_POSSIBLE", Desks.read(x, "m0@0!0"), -2);
        Desks.passAll(x, 2871);
        due("pass: BAD_VALUE ahead of NOT_POSSIBLE", x.pass(121), -2);
        due("pass: BAD_VALUE ahead of NOT_POSSIBLE", x.pass(0), -2);
        due("pass: NOT_POSSIBLE", x.pass(1), -4);
    }

    /** 30 roads, 20 members, 6 patrols, 5 garages and 40 calls, of which the member 0 has one that waits. */
    private static PatrolDesk fullDesk() {
        PatrolDesk x = Desks.withRoads(Desks.ofMembers(20), 30);
        for (int i = 0; i < 6; i++) {
            x.addPatrol(0, 1, true);
            x.addGarage(0, 1);
        }
        for (int i = 0; i < 39; i++) {
            x.call(0, 0, 1);
            x.cancel(i);
        }
        x.call(0, 0, 1);
        return x;
    }

    private static void orderOfTheChecksWhenFull() {
        CHECK.sentence("ERRORS", "the order of the @return line is the order of the checks.");
        PatrolDesk x = fullDesk();
        due("addRoad: UNKNOWN ahead of FULL", x.addRoad(10, 12, 1), -1);
        due("addRoad: BAD_VALUE ahead of FULL", x.addRoad(10, 11, 0), -2);
        due("addRoad: BAD_VALUE ahead of FULL", x.addRoad(10, 10, 1), -2);
        due("addRoad: NOT_POSSIBLE ahead of FULL", x.addRoad(1, 0, 1), -4);
        due("addRoad: FULL", x.addRoad(10, 11, 1), -3);
        due("addMember: BAD_VALUE ahead of FULL", x.addMember(3), -2);
        due("addMember: FULL", x.addMember(2), -3);
        due("addPatrol: UNKNOWN ahead of FULL", x.addPatrol(12, 1, true), -1);
        due("addPatrol: BAD_VALUE ahead of FULL", x.addPatrol(0, 10, true), -2);
        due("addPatrol: FULL", x.addPatrol(0, 1, true), -3);
        due("addGarage: UNKNOWN ahead of FULL", x.addGarage(12, 1), -1);
        due("addGarage: BAD_VALUE ahead of FULL", x.addGarage(0, 10), -2);
        due("addGarage: FULL", x.addGarage(0, 1), -3);
        due("call: UNKNOWN ahead of FULL", x.call(20, 0, 1), -1);
        due("call: UNKNOWN ahead of FULL", x.call(1, 12, 1), -1);
        due("call: BAD_VALUE ahead of FULL", x.call(1, 0, 0), -2);
        due("call: NOT_POSSIBLE ahead of FULL", x.call(0, 0, 1), -4);
        due("call: FULL", x.call(1, 0, 1), -3);
        due("readCalls: NOT_POSSIBLE ahead of FULL", Desks.read(x, "m0@0!1"), -4);
        due("readCalls: FULL", Desks.read(x, "m1@0!1"), -3);
    }

    private static void noneIsNoError() {
        CHECK.sentence("ERRORS", "NONE is no error; it is returned only if no error applies.");
        PatrolDesk x = Desks.ofMembers(1);
        x.addPatrol(0, 9, true);
        due("setPromise: so already", x.setPromise(0, 90), -5);
        due("setPromise: so already, of no tier", x.setPromise(3, 90), -2);
        due("setWeather: so already", x.setWeather(0), -5);
        due("goHome: it is there", x.goHome(0), -5);
        due("goHome: no such patrol", x.goHome(1), -1);
        due("duty: so already", x.duty(0, true), -5);
        due("duty: no such patrol", x.duty(1, true), -1);
        x.duty(0, false);
        due("goHome: it is there, but off", x.goHome(0), -4);
        due("distance: no way", x.distance(0, 1), -5);
        due("distance: to no area", x.distance(0, 12), -1);
        due("wayAt: no way", x.wayAt(0, 1, 0), -5);
        due("wayAt: no way, and a negative place", x.wayAt(0, 1, -1), -2);
        due("waiting: none", x.waiting(0), -5);
        due("waiting: a negative place", x.waiting(-1), -2);
        x.call(0, 0, 1);
        due("nearest: none", x.nearest(0), -5);
        due("nearest: no such call", x.nearest(1), -1);
        due("waitFor: none", x.waitFor(0), -5);
        due("waitFor: no such call", x.waitFor(1), -1);
        x.cancel(0);
        due("nearest: none, but it does not wait", x.nearest(0), -4);
        due("waitFor: none, but it does not wait", x.waitFor(0), -4);
        due("patrol: no call", x.patrol(0, 5), -5);
        due("patrol: no such thing to ask", x.patrol(0, -5), -2);
    }

    private static void errorsChangeNothing() {
        CHECK.sentence("ERRORS", "A call that returns an error or NONE changes nothing.");
        PatrolDesk x = Desks.busy();
        x.pass(40);
        x.keep();
        Desks.put(x, "m4@0!1;m4@0!1");
        int[] answers = {
            x.addRoad(0, 12, 1), x.addRoad(0, 5, 61), x.addRoad(2, 1, 1), x.addMember(-1), x.addPatrol(12, 1, true),
            x.addPatrol(0, 10, true), x.addGarage(12, 1), x.addGarage(0, 10), x.setPromise(0, 241),
            x.setPromise(1, 70), x.setWeather(6), x.setWeather(2), x.call(5, 0, 1), x.call(4, 12, 1),
            x.call(4, 0, 13), x.call(3, 0, 1), x.cancel(7), x.cancel(0), x.cancel(4), x.duty(3, true),
            x.duty(0, true), x.duty(2, true), x.goHome(3), x.goHome(0), x.fetch(2, 1), x.fetch(1, 10),
            x.fetch(1, 3), x.fetch(0, 2), x.pass(0), x.pass(121), x.readCalls(), x.distance(0, 5),
            x.wayAt(0, 5, 0), x.wayAt(0, 1, -1), x.member(0, 7), x.patrol(0, 12), x.garage(0, 5), x.callOf(0, 13),
            x.waiting(-1), x.waiting(9), x.nearest(0), x.nearest(5), x.waitFor(0), x.waitFor(5), x.count(25),
        };
        int[] want = {
            -1, -2, -4, -2, -1,
            -2, -1, -2, -2,
            -5, -2, -5, -1, -1,
            -2, -4, -1, -4, -4, -1,
            -5, -5, -1, -5, -1, -2,
            -4, -4, -2, -2, -4, -5,
            -5, -2, -2, -2, -2, -2,
            -2, -5, -4, -5, -4, -5, -2,
        };
        same("refused", answers, want);
        due("the history stays", x.count(23), 4);
        due("the text stays", x.count(24), 13);
        PatrolDesk y = Desks.busy();
        y.pass(40);
        same("the state stays", Desks.told(x), Desks.told(y));
        PatrolDesk full = fullDesk();
        Desks.put(full, "m1@0!1");
        int[] noRoom = {
            full.addRoad(10, 11, 1), full.addMember(0), full.addPatrol(0, 1, true), full.addGarage(0, 1),
            full.call(1, 0, 1), full.readCalls(),
        };
        same("no room", noRoom, new int[] {-3, -3, -3, -3, -3, -3});
        due("the history stays", full.count(23), 4);
        due("undo removes the last act", full.undo(), 3);
        due("which was a call", full.count(6), 39);
        // Neither undo nor restore of nothing changes what there is.
        PatrolDesk z = new PatrolDesk();
        due("no snapshot", z.restore(), -5);
        due("no history", z.undo(), -5);
        due("none after that", z.count(23), 0);
        due("the promises stay", z.count(19), 90);
    }
}
