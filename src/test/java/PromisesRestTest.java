/** Promises 14 to 21, sentence by sentence: texts, history, and the map as it is told. */
public final class PromisesRestTest {
    private static final Check CHECK = new Check("PromisesRestTest");

    public static void main(String[] args) {
        type();
        clearText();
        readCalls();
        readCallsInTheirOrder();
        allOrNone();
        oneAct();
        answersOfReadCalls();
        undo();
        keep();
        restore();
        distance();
        wayAt();
        wayOverTheLowestAreas();
        wayErrors();
        CHECK.end();
    }

    private static void due(String what, long got, long want) {
        CHECK.due(what, got, want);
    }

    private static void same(String what, int[] got, int[] want) {
        for (int i = 0; i < want.length; i++) {
            due(what + " [" + i + "]", got[i], want[i]);
        }
    }

    private static void type() {
        CHECK.sentence("Promise 14", "Types a character behind the text.");
        PatrolDesk x = Desks.ofMembers(1);
        Desks.put(x, "m0@1!");
        due("too early", x.readCalls(), -105);
        due("typed behind", x.type('7'), 6);
        due("the whole text", x.readCalls(), 1);
        due("trouble", x.callOf(0, 2), 7);
        CHECK.sentence("Promise 14", "`character`: any character");
        PatrolDesk y = new PatrolDesk();
        char[] any = {0, 1, '\n', ' ', '0', 'm', 127, 128, 255, 256, 32767, 32768, 65534, 65535};
        for (int i = 0; i < any.length; i++) {
            due("character " + (int) any[i], y.type(any[i]), i + 1);
        }
        CHECK.sentence("Promise 14", "Returns the length of the text then; FULL if it has 60 characters.");
        for (int length = any.length + 1; length <= 60; length++) {
            due("length", y.type('m'), length);
        }
        for (char one : any) {
            due("it has 60", y.type(one), -3);
        }
        due("it still has 60", y.count(24), 60);
        due("no act", y.count(23), 0);
    }

    private static void clearText() {
        CHECK.sentence("Promise 15", "Empties the text.");
        PatrolDesk x = Desks.ofMembers(1);
        Desks.put(x, "m0@1!7");
        x.clearText();
        due("empty", x.count(24), 0);
        due("nothing to read", x.readCalls(), -100);
        due("typed from the beginning", x.type('m'), 1);
        due("nothing is left behind it", x.readCalls(), -101);
        CHECK.sentence("Promise 15", "Returns the length that it had.");
        due("one", x.clearText(), 1);
        due("none", x.clearText(), 0);
        for (int i = 0; i < 61; i++) {
            x.type('m');
        }
        due("sixty", x.clearText(), 60);
        due("no act", x.count(23), 1);
    }

    private static void readCalls() {
        CHECK.sentence("Promise 16", "Takes the calls of the text, which stays,");
        PatrolDesk x = Desks.ofTiers(0, 1, 2);
        x.pass(5);
        x.setWeather(1);
        due("two", Desks.read(x, "m2@11!12;m0@0!1"), 2);
        int[] one = {2, 11, 12, 50, 5, 0, -5, 0, -5, -5, 0, 10050, -5};
        int[] two = {0, 0, 1, 100, 5, 0, -5, 0, -5, -5, 0, 10100, -5};
        for (int what = 0; what <= 12; what++) {
            due("callOf(0, " + what + ")", x.callOf(0, what), one[what]);
            due("callOf(1, " + what + ")", x.callOf(1, what), two[what]);
        }
        due("the text stays", x.count(24), 15);
        x.cancel(0);
        x.cancel(1);
        due("it can be read again", x.readCalls(), 2);
        due("four calls", x.count(6), 4);
        Desks.read(x, "m9@0!1");
        due("it stays if it is refused", x.count(24), 6);
        Desks.read(x, "m9@");
        due("it stays if it has a fault", x.count(24), 3);
    }

    private static void readCallsInTheirOrder() {
        CHECK.sentence("Promise 16", "in their order;");
        PatrolDesk x = Desks.ofMembers(20);
        due("eight", Desks.read(x, "m7@0!1;m3@1!2;m9@2!3;m0@3!4;m5@4!5;m1@5!6;m8@6!7;m2@7!8"), 8);
        int[] members = {7, 3, 9, 0, 5, 1, 8, 2};
        for (int call = 0; call < 8; call++) {
            due("member", x.callOf(call, 0), members[call]);
            due("area", x.callOf(call, 1), call);
            due("trouble", x.callOf(call, 2), call + 1);
        }
    }

    private static void allOrNone() {
        CHECK.sentence("Promise 16", "all of them, or none.");
        PatrolDesk x = Desks.busy();
        due("the second is refused", Desks.read(x, "m4@0!1;m5@0!1"), -1);
        due("the second is refused", Desks.read(x, "m4@0!1;m4@0!1"), -4);
        due("the second has a fault", Desks.read(x, "m4@0!1;m4"), -109);
        same("none", Desks.told(x), Desks.told(Desks.busy()));
        // A callback that is refused with the others does not count against the patrol.
        PatrolDesk y = Desks.ofMembers(2);
        y.addPatrol(0, 9, true);
        y.call(0, 0, 1);
        y.pass(6);
        due("none", Desks.read(y, "m0@0!1;m1@0!0"), -2);
        due("no callback", y.patrol(0, 9), 0);
        due("all", Desks.read(y, "m0@0!1;m1@0!1"), 2);
        due("a callback", y.patrol(0, 9), 1);
    }

    private static void oneAct() {
        CHECK.sentence("Promise 16", "This is one act.");
        PatrolDesk x = new PatrolDesk();
        x.addMember(0);
        x.addMember(0);
        x.addMember(0);
        due("three calls", Desks.read(x, "m0@0!1;m1@0!1;m2@0!1"), 3);
        due("one state more", x.count(23), 4);
        due("undone as one", x.undo(), 3);
        due("no calls", x.count(6), 0);
        due("three members", x.count(3), 3);
        x.undo();
        due("two members", x.count(3), 2);
        due("refused", Desks.read(x, "m0@0!1;m2@0!1"), -1);
        due("records nothing", x.count(23), 2);
    }

    private static void answersOfReadCalls() {
        CHECK.sentence("Promise 16", "Returns how many there are;");
        PatrolDesk x = Desks.ofMembers(20);
        due("one", Desks.read(x, "m0@0!1"), 1);
        due("four", Desks.read(x, "m1@0!1;m2@0!1;m3@0!1;m4@0!1"), 4);
        CHECK.sentence("Promise 16", "-100 minus the fault of the text if it has one (which is an error);");
        due("a fault at 0", Desks.read(x, ""), -100);
        due("a fault at 9", Desks.read(x, "m5@0!1;m6"), -109);
        due("ahead of the error of a call", Desks.read(x, "m99@0!1;m6"), -110);
        due("an error records nothing", x.count(23), 4);
        due("an error takes nothing", x.count(6), 5);
        CHECK.sentence("Promise 16",
                "otherwise, of the first one for which it is so when its turn comes, the error that call() returns.");
        due("UNKNOWN, a member", Desks.read(x, "m20@0!1"), -1);
        due("UNKNOWN, an area", Desks.read(x, "m5@12!1"), -1);
        due("BAD_VALUE, 0", Desks.read(x, "m5@0!0"), -2);
        due("BAD_VALUE, 13", Desks.read(x, "m5@0!13"), -2);
        due("NOT_POSSIBLE, by a call that came", Desks.read(x, "m0@0!1"), -4);
        due("NOT_POSSIBLE, by a call of the text", Desks.read(x, "m5@0!1;m5@0!1"), -4);
        due("the first one of three", Desks.read(x, "m5@0!1;m6@0!13;m5@0!1;m20@0!1"), -2);
        due("the first one of three", Desks.read(x, "m5@0!1;m5@0!1;m6@0!13;m20@0!1"), -4);
        due("the first one of three", Desks.read(x, "m5@0!1;m20@0!1;m5@0!1;m6@0!13"), -1);
        PatrolDesk y = Desks.ofMembers(20);
        for (int i = 0; i < 38; i++) {
            y.call(0, 0, 1);
            y.cancel(i);
        }
        due("FULL, at its turn", Desks.read(y, "m1@0!1;m2@0!1;m3@0!1"), -3);
        due("none of them", y.count(6), 38);
        due("NOT_POSSIBLE, ahead of one that finds no room", Desks.read(y, "m1@0!1;m1@0!1;m3@0!1"), -4);
        due("as many as there is room for", Desks.read(y, "m1@0!1;m2@0!1"), 2);
        due("FULL, at once", Desks.read(y, "m3@0!1"), -3);
    }

    private static void undo() {
        CHECK.sentence("Promise 17", "Removes and restores the latest state of the history.");
        PatrolDesk x = Desks.busy();
        x.pass(100);
        x.undo();
        same("the state before", Desks.told(x), Desks.told(Desks.busy()));
        CHECK.sentence("Promise 17", "Returns the number of states that are left; NONE if the history is empty.");
        due("two are left", x.undo(), 2);
        due("one is left", x.undo(), 1);
        due("none is left", x.undo(), 0);
        due("it is empty", x.undo(), -5);
        due("still", x.undo(), -5);
        PatrolDesk y = new PatrolDesk();
        due("at first", y.undo(), -5);
        y.addMember(0);
        due("of one", y.undo(), 0);
        due("undo is no act", y.count(23), 0);
    }

    private static void keep() {
        CHECK.sentence("Promise 18", "Takes a snapshot of the state, in place of the one that was.");
        PatrolDesk x = Desks.busy();
        x.keep();
        x.pass(100);
        x.restore();
        same("the state", Desks.told(x), Desks.told(Desks.busy()));
        PatrolDesk y = Desks.busy();
        y.pass(7);
        y.keep();
        y.pass(8);
        y.keep();
        y.pass(9);
        due("not the one that was", y.restore(), 24);
        CHECK.sentence("Promise 18", "Returns the minute.");
        PatrolDesk z = new PatrolDesk();
        due("0", z.keep(), 0);
        Desks.passAll(z, 2880);
        due("2880", z.keep(), 2880);
        due("no act", z.count(23), 4);
        due("no act", new PatrolDesk().keep(), 0);
    }

    private static void restore() {
        CHECK.sentence("Promise 19", "Restores the state of the snapshot, which stays. This is an act.");
        PatrolDesk x = new PatrolDesk();
        x.pass(3);
        x.keep();
        x.pass(4);
        due("restored", x.restore(), 3);
        due("three states", x.count(23), 3);
        x.pass(1);
        due("it stays", x.restore(), 3);
        due("also when nothing was done since", x.restore(), 3);
        due("an act, though nothing was changed by it", x.undo(), 3);
        due("the same minute", x.count(0), 3);
        x.undo();
        due("undone", x.count(0), 4);
        due("it stays", x.restore(), 3);
        CHECK.sentence("Promise 19", "Returns the minute then; NONE if there is no snapshot.");
        due("the minute then", x.count(0), 3);
        PatrolDesk y = new PatrolDesk();
        y.pass(3);
        due("none", y.restore(), -5);
        due("nothing changed", y.count(0), 3);
        due("nothing recorded", y.count(23), 1);
        y.keep();
        y.undo();
        due("undo takes no snapshot away", y.restore(), 3);
    }

    private static void distance() {
        PatrolDesk x = Desks.withLine(new PatrolDesk(), 2);
        CHECK.sentence("Promise 20", "`area`: 0 to 11");
        due("area 0", x.distance(0, 5), 10);
        due("area 11", x.distance(11, 5), 12);
        CHECK.sentence("Promise 20", "`other`: 0 to 11");
        due("other 0", x.distance(5, 0), 10);
        due("other 11", x.distance(5, 11), 12);
        CHECK.sentence("Promise 20", "Returns the distance;");
        for (int area = 0; area < 12; area++) {
            for (int other = 0; other < 12; other++) {
                due("from " + area + " to " + other, x.distance(area, other), 2 * Math.abs(area - other));
            }
        }
        CHECK.sentence("Promise 20", "UNKNOWN; NONE if there is no way.");
        for (int wrong : Desks.beside(0, 11)) {
            due("area " + wrong, x.distance(wrong, 0), -1);
            due("other " + wrong, x.distance(0, wrong), -1);
        }
        PatrolDesk y = new PatrolDesk();
        y.addRoad(0, 1, 5);
        y.addRoad(2, 3, 5);
        due("no way", y.distance(1, 2), -5);
        y.addRoad(3, 0, 5);
        due("a way", y.distance(1, 2), 15);
        y.undo();
        due("no way again", y.distance(1, 2), -5);
    }

    private static void wayAt() {
        PatrolDesk x = new PatrolDesk();
        x.addRoad(4, 2, 5);
        x.addRoad(2, 9, 5);
        x.addRoad(4, 9, 11);
        CHECK.sentence("Promise 21", "Tells an area of the shortest way between two areas:");
        int[] there = {4, 2, 9, -5};
        int[] back = {9, 2, 4, -5};
        for (int place = 0; place < 4; place++) {
            due("place " + place, x.wayAt(4, 9, place), there[place]);
            due("back, place " + place, x.wayAt(9, 4, place), back[place]);
        }
        PatrolDesk line = Desks.withLine(new PatrolDesk(), 60);
        CHECK.sentence("Promise 21", "`from`: 0 to 11");
        for (int area = 0; area < 12; area++) {
            due("from " + area + " to 0", line.wayAt(area, 0, area), 0);
        }
        CHECK.sentence("Promise 21", "`to`: 0 to 11");
        for (int area = 0; area < 12; area++) {
            due("from 0 to " + area, line.wayAt(0, area, area), area);
        }
        CHECK.sentence("Promise 21", "`place`: a place on the way, from 0 (from itself)");
        for (int place = 0; place < 12; place++) {
            due("place " + place, line.wayAt(11, 0, place), 11 - place);
            due("from an area to itself", line.wayAt(place, place, 0), place);
        }
    }

    private static void wayOverTheLowestAreas() {
        CHECK.sentence("Promise 21",
                "of several ways that which goes over the areas with the lowest numbers, looked at from its beginning.");
        PatrolDesk x = new PatrolDesk();
        // 0-2-3-11 and 0-1-9-11: the first areas count, not the sum nor the end.
        x.addRoad(0, 2, 1);
        x.addRoad(2, 3, 1);
        x.addRoad(3, 11, 1);
        x.addRoad(0, 1, 1);
        x.addRoad(1, 9, 1);
        x.addRoad(9, 11, 1);
        int[] there = {0, 1, 9, 11};
        int[] back = {11, 3, 2, 0};
        for (int place = 0; place < 4; place++) {
            due("there, place " + place, x.wayAt(0, 11, place), there[place]);
            due("back, place " + place, x.wayAt(11, 0, place), back[place]);
        }
        // 5-6-8 of 4 beside 5-8 of 4: the lower second area, though there are more roads.
        x.addRoad(5, 8, 4);
        x.addRoad(5, 6, 3);
        x.addRoad(6, 8, 1);
        due("over 6", x.wayAt(5, 8, 1), 6);
        due("then 8", x.wayAt(5, 8, 2), 8);
        due("back to 5 at once", x.wayAt(8, 5, 1), 5);
        // 4-10-7 of 2 beside 4-7 of 3: the fewest minutes go ahead.
        x.addRoad(4, 7, 3);
        x.addRoad(4, 10, 1);
        x.addRoad(10, 7, 1);
        due("over 10", x.wayAt(4, 7, 1), 10);
    }

    private static void wayErrors() {
        PatrolDesk x = Desks.withLine(new PatrolDesk(), 1);
        CHECK.sentence("Promise 21", "Returns the area; UNKNOWN (from or to);");
        for (int wrong : Desks.beside(0, 11)) {
            due("from " + wrong, x.wayAt(wrong, 0, 0), -1);
            due("to " + wrong, x.wayAt(0, wrong, 0), -1);
            due("ahead of the place", x.wayAt(0, wrong, -1), -1);
        }
        CHECK.sentence("Promise 21", "BAD_VALUE if place is negative;");
        for (int wrong : new int[] {-1, -2, -12, -256, Integer.MIN_VALUE, Integer.MIN_VALUE + 1}) {
            due("place " + wrong, x.wayAt(0, 11, wrong), -2);
            due("place " + wrong + ", on no way", new PatrolDesk().wayAt(0, 11, wrong), -2);
        }
        CHECK.sentence("Promise 21", "NONE if there is no way, or it has not so many.");
        for (int place : new int[] {12, 13, 144, 256, 65536, Integer.MAX_VALUE}) {
            due("place " + place, x.wayAt(0, 11, place), -5);
        }
        due("the next one behind the end", x.wayAt(0, 5, 6), -5);
        due("behind itself", x.wayAt(5, 5, 1), -5);
        PatrolDesk y = new PatrolDesk();
        y.addRoad(0, 1, 1);
        due("no way, not even its beginning", y.wayAt(0, 2, 0), -5);
        due("no way back", y.wayAt(2, 0, 0), -5);
        due("to itself there is one", y.wayAt(2, 2, 0), 2);
    }
}
