/** The document's terms, sentence by sentence: A MINUTE PASSES and TOWING. */
public final class TermsMinuteTest {
    private static final Check CHECK = new Check("TermsMinuteTest");

    public static void main(String[] args) {
        theMinute();
        stepOne();
        stepsTwoAndThree();
        atTheCall();
        towing();
        CHECK.end();
    }

    private static void due(String what, long got, long want) {
        CHECK.due(what, got, want);
    }

    // ---- A MINUTE PASSES

    private static void theMinute() {
        from0To2880();
        inThisOrder();
    }

    private static void from0To2880() {
        CHECK.sentence("A MINUTE PASSES", "The minute is 0 at first, and at most 2880.");
        PatrolDesk x = Desks.ofMembers(1);
        due("at first", x.count(0), 0);
        Desks.passAll(x, 2879);
        due("the last but one", x.count(0), 2879);
        due("two more", x.pass(2), -4);
        due("one more", x.pass(1), 0);
        due("the last one", x.count(0), 2880);
        due("no more", x.pass(1), -4);
        due("it stays", x.count(0), 2880);
        due("a call in it", x.call(0, 0, 1), 0);
        due("came in it", x.callOf(0, 4), 2880);
        PatrolDesk y = new PatrolDesk();
        Desks.passAll(y, 2761);
        due("119 are left", y.pass(120), -4);
        due("all of them", y.pass(119), 0);
    }

    private static void inThisOrder() {
        CHECK.sentence("A MINUTE PASSES", "When a minute passes, the following happens in this order:");
        PatrolDesk x = Desks.ofMembers(2);
        x.addPatrol(0, 9, false);
        x.call(0, 0, 1);
        x.call(1, 0, 1);
        due("a repair, and the next is begun", x.pass(6), 1);
        due("done in the minute 5", x.callOf(0, 9), 5);
        due("free in step 1, sent in step 2", x.callOf(1, 6), 0);
        due("in the same minute", x.callOf(1, 7), 5);
        due("whose step 1 is over", x.patrol(0, 6), 5);
        due("the minute is greater at last", x.count(0), 6);
    }

    private static void stepOne() {
        byNumber();
        oneLessEachMinute();
        oneThatDrives();
        oneThatRepairs();
        oneThatTows();
        garageOfTheTow();
        carAtABorder();
        freeAfterATow();
    }

    private static void byNumber() {
        CHECK.sentence("A MINUTE PASSES", "1. Each patrol, by number, that drives, repairs or tows:");
        for (int first = 0; first <= 1; first++) {
            PatrolDesk x = Desks.ofMembers(2);
            x.addRoad(1, 0, 5);
            x.addRoad(2, 3, 5);
            x.addRoad(0, 3, 1);
            x.addGarage(0, 1);
            x.addPatrol(first == 0 ? 1 : 2, 1, true);
            x.addPatrol(first == 0 ? 2 : 1, 1, true);
            x.call(0, 0, 12);
            x.call(1, 3, 12);
            x.pass(5);
            due("both are on the way", x.patrol(0, 6) + x.patrol(1, 6), 2);
            due("to the call", x.patrol(0, 5), first);
            x.pass(1);
            due("the lower patrol finds the place", x.callOf(first, 5), 4);
            due("the greater one finds none", x.callOf(1 - first, 5), 3);
        }
    }

    private static void oneLessEachMinute() {
        CHECK.sentence("A MINUTE PASSES", "its minutes left become less by 1; if they are 0 then:");
        PatrolDesk x = Desks.ofMembers(2);
        x.addRoad(0, 1, 3);
        x.addRoad(1, 2, 2);
        x.addGarage(2, 1);
        x.addPatrol(0, 1, true);
        x.addPatrol(0, 1, false);
        x.duty(1, false);
        x.call(0, 1, 1);
        int[] left = {3, 2, 1, 5, 4, 3, 2, 1, -5, -5};
        int[] does = {1, 1, 1, 2, 2, 2, 2, 2, 0, 0};
        for (int minute = 0; minute < 10; minute++) {
            x.pass(1);
            due("left in the minute " + minute, x.patrol(0, 6), left[minute]);
            due("doing in the minute " + minute, x.patrol(0, 3), does[minute]);
            due("one that is off has none", x.patrol(1, 6), -5);
        }
        x.call(1, 1, 12);
        for (int minutes : new int[] {4, 3, 2, 1, -5}) {
            x.pass(1);
            due("left of the tow", x.patrol(0, 6), minutes);
            due("doing", x.patrol(0, 3), minutes > 0 ? 3 : 0);
        }
    }

    private static void oneThatDrives() {
        CHECK.sentence("A MINUTE PASSES", "- One that drives gets to the call (see below).");
        PatrolDesk x = Desks.ofMembers(1);
        x.addRoad(0, 1, 1);
        x.addPatrol(0, 9, false);
        x.call(0, 1, 1);
        x.pass(1);
        due("it is not there", x.callOf(0, 8), -5);
        due("it drives", x.patrol(0, 3), 1);
        due("and is told where it came from", x.patrol(0, 4), 0);
        x.pass(1);
        due("it got there", x.callOf(0, 8), 0);
        due("in the minute 1", x.callOf(0, 7), 1);
        due("it repairs", x.patrol(0, 3), 2);
        due("all the minutes of it are left", x.patrol(0, 6), 5);
    }

    private static void oneThatRepairs() {
        CHECK.sentence("A MINUTE PASSES", "- One that repairs: the call is done (state 5); the patrol is free.");
        PatrolDesk x = Desks.ofMembers(1);
        x.addPatrol(0, 9, false);
        x.call(0, 0, 1);
        due("not done", x.pass(5), 0);
        due("state", x.callOf(0, 5), 2);
        due("no minute of that", x.callOf(0, 9), -5);
        due("no repair is done", x.patrol(0, 7), 0);
        due("done", x.pass(1), 1);
        due("state", x.callOf(0, 5), 5);
        due("in the minute", x.callOf(0, 9), 5);
        due("a repair is done", x.patrol(0, 7), 1);
        due("free", x.patrol(0, 3), 0);
        due("without a call", x.patrol(0, 5), -5);
        due("without minutes left", x.patrol(0, 6), -5);
        due("the call is without a patrol", x.callOf(0, 6), -5);
    }

    private static void oneThatTows() {
        CHECK.sentence("A MINUTE PASSES", "- One that tows is in the area to which it towed.");
        PatrolDesk x = Desks.ofMembers(2);
        x.addRoad(0, 1, 1);
        x.addRoad(1, 2, 1);
        x.addGarage(2, 1);
        x.addPatrol(0, 1, true);
        x.call(0, 0, 12);
        x.pass(4);
        due("until then where it came from", x.patrol(0, 4), 0);
        due("the car, too", x.callOf(0, 1), 0);
        x.pass(1);
        due("there", x.patrol(0, 4), 2);
        due("the car, too", x.callOf(0, 1), 2);
        x.call(1, 2, 1);
        due("it is nearest there", x.nearest(1), 0);
        x.pass(1);
        due("and there at once", x.callOf(1, 5), 2);
    }

    private static void garageOfTheTow() {
        CHECK.sentence("A MINUTE PASSES",
                "If the garage of the tow is there, the car takes a place in it, and the call is done (state 6);");
        PatrolDesk x = Desks.ofMembers(2);
        x.addGarage(0, 2);
        x.addPatrol(0, 1, true);
        x.call(0, 0, 12);
        x.pass(1);
        due("no place is taken", x.garage(0, 2), 0);
        due("a car is under way", x.garage(0, 3), 1);
        due("done", x.pass(1), 1);
        due("a place is taken", x.garage(0, 2), 1);
        due("none is under way", x.garage(0, 3), 0);
        due("one was towed there", x.garage(0, 4), 1);
        due("state", x.callOf(0, 5), 6);
        due("in the minute", x.callOf(0, 9), 1);
        due("in the garage", x.callOf(0, 12), 0);
        PatrolDesk y = borderWithAGarage();
        y.fetch(0, 1);
        due("another garage than that of the tow", y.pass(1), 0);
        due("takes no car", y.garage(0, 2), 0);
        due("one tow to there, one to the border", y.patrol(0, 8), 2);
        due("the call is in no garage", y.callOf(1, 12), -5);
        due("a tow of its own goes to it", y.garage(0, 3), 1);
        due("none goes to the other now", y.garage(1, 3), 0);
        due("that is done in the next minute", y.pass(1), 1);
        due("in the garage at the border", y.callOf(1, 12), 0);
    }

    /** A tow from 0 to the garage 1, in 4, that ends in 1 in the next minute, where the garage 0 is full. */
    private static PatrolDesk borderWithAGarage() {
        PatrolDesk x = Desks.ofMembers(2);
        x.addRoad(0, 1, 5);
        x.addRoad(1, 4, 5);
        x.addGarage(1, 1);
        x.addGarage(4, 1);
        x.addPatrol(0, 1, true);
        x.call(0, 1, 12);
        due("the garage 0 is full", x.pass(7), 1);
        x.goHome(0);
        x.call(1, 0, 12);
        x.pass(10);
        due("it tows to the other one", x.garage(1, 3), 1);
        due("for a minute still", x.patrol(0, 6), 1);
        return x;
    }

    private static void carAtABorder() {
        CHECK.sentence("A MINUTE PASSES", "otherwise the car is at a border, and waits for a tow there (state 3).");
        PatrolDesk x = Desks.ofMembers(1);
        x.addRoad(0, 4, 5);
        x.addRoad(4, 5, 5);
        x.addGarage(5, 1);
        x.addPatrol(0, 1, true);
        x.call(0, 0, 12);
        x.pass(10);
        due("it is towed", x.callOf(0, 5), 4);
        due("nothing is done by it", x.pass(1), 0);
        due("it waits for a tow", x.callOf(0, 5), 3);
        due("at the border", x.callOf(0, 1), 4);
        due("it is not done", x.callOf(0, 9), -5);
        due("in no garage", x.callOf(0, 12), -5);
        due("nobody is with it", x.callOf(0, 6), -5);
        due("no car in the garage", x.garage(0, 2), 0);
        due("no car under way", x.garage(0, 3), 0);
        due("no car was towed there", x.garage(0, 4), 0);
        due("it is among those that wait", x.waiting(0), 0);
    }

    private static void freeAfterATow() {
        CHECK.sentence("A MINUTE PASSES", "The patrol is free.");
        PatrolDesk x = Desks.ofMembers(1);
        x.addRoad(0, 4, 1);
        x.addRoad(4, 5, 1);
        x.addGarage(5, 1);
        x.addPatrol(0, 1, true);
        x.addPatrol(5, 1, true);
        x.duty(1, false);
        x.call(0, 0, 12);
        x.pass(3);
        due("at the border: free", x.patrol(0, 3), 0);
        due("without a call", x.patrol(0, 5), -5);
        due("without minutes left", x.patrol(0, 6), -5);
        x.duty(1, true);
        x.pass(4);
        due("at the garage: free", x.patrol(1, 3), 0);
        due("without a call", x.patrol(1, 5), -5);
        due("without minutes left", x.patrol(1, 6), -5);
        due("the call is without a patrol", x.callOf(0, 6), -5);
        due("the car is in the garage", x.callOf(0, 5), 6);
    }

    private static void stepsTwoAndThree() {
        sentInEachMinute();
        theMinuteBecomesGreater();
    }

    private static void sentInEachMinute() {
        CHECK.sentence("A MINUTE PASSES", "2. Calls that wait are gone through, and patrols are sent, as told above.");
        PatrolDesk x = Desks.ofMembers(3);
        x.addPatrol(0, 9, false);
        for (int member = 0; member < 3; member++) {
            x.call(member, 0, 1);
        }
        due("nobody is sent as a call comes", x.callOf(0, 5), 0);
        due("one after the other, in one call of pass", x.pass(16), 3);
        for (int call = 0; call < 3; call++) {
            due("got to in the minute", x.callOf(call, 7), 5 * call);
            due("done in the minute", x.callOf(call, 9), 5 * call + 5);
        }
    }

    private static void theMinuteBecomesGreater() {
        CHECK.sentence("A MINUTE PASSES", "3. The minute becomes greater by 1.");
        PatrolDesk x = Desks.ofMembers(1);
        x.addPatrol(0, 9, false);
        x.pass(1);
        due("by 1", x.count(0), 1);
        x.call(0, 0, 1);
        x.pass(1);
        due("after a patrol got to the call", x.callOf(0, 7), 0);
        x.pass(5);
        due("after the call is done", x.callOf(0, 9), 6);
        due("six minutes more", x.count(0), 7);
    }

    private static void atTheCall() {
        inItsArea();
        skillForARepair();
        minutesOfARepair();
        towInsteadOfARepair();
        neitherRepairNorTow();
        towOfOneThatWaitsForIt();
    }

    private static void inItsArea() {
        CHECK.sentence("A MINUTE PASSES", "A patrol that gets to a call is in its area.");
        PatrolDesk x = Desks.withLine(Desks.ofMembers(3), 2);
        x.addPatrol(0, 1, false);
        x.call(0, 1, 1);
        x.pass(3);
        due("as it repairs", x.patrol(0, 4), 1);
        x.pass(5);
        x.call(1, 2, 12);
        x.pass(3);
        due("as it can do nothing", x.patrol(0, 4), 2);
        x.addPatrol(3, 9, true);
        x.addGarage(0, 1);
        x.pass(3);
        due("as it tows", x.patrol(1, 4), 2);
        due("the home stays", x.patrol(1, 0), 3);
    }

    private static void skillForARepair() {
        CHECK.sentence("A MINUTE PASSES", "If the call was waiting for a patrol (not for a tow):"
                + " if the skill of the patrol is at least the trouble minus 3,");
        for (int skill = 1; skill <= 9; skill++) {
            for (int trouble = Math.max(1, skill); trouble <= 12; trouble++) {
                PatrolDesk x = Desks.ofMembers(1);
                x.addPatrol(0, skill, trouble % 2 == 0);
                x.addGarage(0, 1);
                x.call(0, 0, trouble);
                x.pass(1);
                int otherwise = trouble % 2 == 0 ? 4 : 3;
                due("skill " + skill + ", trouble " + trouble, x.callOf(0, 5), trouble <= skill + 3 ? 2 : otherwise);
            }
        }
    }

    private static void minutesOfARepair() {
        CHECK.sentence("A MINUTE PASSES", "it repairs for 5 * trouble minutes;");
        for (int trouble = 1; trouble <= 12; trouble++) {
            PatrolDesk x = Desks.ofMembers(1);
            x.addPatrol(0, 9, false);
            x.call(0, 0, trouble);
            x.pass(1);
            due("minutes left", x.patrol(0, 6), 5 * trouble);
            due("not done a minute before", x.pass(5 * trouble - 1), 0);
            due("done", x.pass(1), 1);
        }
    }

    private static void towInsteadOfARepair() {
        CHECK.sentence("A MINUTE PASSES",
                "otherwise, if it can tow and its region is that of the area, it tows (see below);");
        int[] areas = {3, 3, 4, 4};
        boolean[] tows = {true, false, true, false};
        int[] states = {4, 3, 3, 3};
        for (int i = 0; i < 4; i++) {
            PatrolDesk x = Desks.withLine(Desks.ofMembers(1), 1);
            x.addPatrol(3, 1, tows[i]);
            x.addGarage(3, 1);
            x.call(0, areas[i], 5);
            x.pass(areas[i] - 2);
            due("in the area " + areas[i] + ", tows " + tows[i], x.callOf(0, 5), states[i]);
            due("it got to it first", x.callOf(0, 8), 0);
        }
        PatrolDesk y = Desks.ofMembers(1);
        y.addPatrol(0, 1, true);
        y.addGarage(0, 1);
        y.call(0, 0, 4);
        y.pass(1);
        due("one that can repair does not tow", y.callOf(0, 5), 2);
    }

    private static void neitherRepairNorTow() {
        CHECK.sentence("A MINUTE PASSES", "otherwise the call waits for a tow (state 3), and the patrol is free.");
        PatrolDesk x = Desks.withLine(Desks.ofMembers(2), 2);
        x.addPatrol(0, 1, false);
        x.call(0, 1, 5);
        x.pass(3);
        due("it waits for a tow", x.callOf(0, 5), 3);
        due("without a patrol", x.callOf(0, 6), -5);
        due("free", x.patrol(0, 3), 0);
        due("without a call", x.patrol(0, 5), -5);
        due("without minutes left", x.patrol(0, 6), -5);
        due("the call can't be cancelled", x.cancel(0), -4);
        x.call(1, 1, 4);
        x.pass(1);
        due("free for another call", x.callOf(1, 6), 0);
    }

    private static void towOfOneThatWaitsForIt() {
        CHECK.sentence("A MINUTE PASSES", "If the call was waiting for a tow, it tows.");
        for (int drive = 0; drive <= 1; drive++) {
            PatrolDesk x = Desks.withLine(Desks.ofMembers(1), 1);
            x.addPatrol(1, 1, false);
            x.addGarage(0, 1);
            x.call(0, 1, 5);
            x.pass(1);
            x.addPatrol(1 - drive, 9, true);
            x.pass(1 + drive);
            due("it tows, though it could repair", x.patrol(1, 3), 3);
            due("two minutes", x.patrol(1, 6), 2);
            due("the call is towed", x.callOf(0, 5), 4);
            due("the other got to it first", x.callOf(0, 8), 0);
            due("done", x.pass(2), 1);
            due("by the tow", x.callOf(0, 5), 6);
            due("no repair", x.patrol(1, 7), 0);
        }
    }

    // ---- TOWING

    private static void towing() {
        garageWithAFreePlace();
        placesThatAreNotFree();
        placesThatAreFreeAgain();
        nearestGarage();
        nearestFromWhereTheCarIs();
        noSuchGarage();
        noSuchGarageAgain();
        shortestWayOverLowestAreas();
        lastAreaAheadOfTheBorder();
        waitsAtTheBorder();
        overTheBorderAlone();
        twiceTheMinutes();
    }

    private static void garageWithAFreePlace() {
        CHECK.sentence("TOWING", "A car is towed to the garage with a free place");
        PatrolDesk x = Desks.withLine(Desks.ofMembers(4), 1);
        x.addGarage(0, 1);
        x.addGarage(1, 2);
        x.addPatrol(0, 1, true);
        int[] garages = {0, 1, 1};
        for (int i = 0; i < 3; i++) {
            x.call(i, 0, 12);
            x.pass(3);
            due("the car " + i + " is in the garage", x.callOf(i, 12), garages[i]);
            x.goHome(0);
        }
        x.call(3, 0, 12);
        x.pass(3);
        due("all places are taken", x.callOf(3, 5), 3);
        x.fetch(1, 1);
        x.pass(3);
        due("the one with a free place", x.callOf(3, 12), 1);
    }

    private static void placesThatAreNotFree() {
        CHECK.sentence("TOWING", "(places that are taken, and cars that are towed now on a way to it,"
                + " be it as far as a border only, count as not free)");
        for (int border = 0; border <= 1; border++) {
            PatrolDesk x = Desks.ofMembers(3);
            x.addRoad(2, 3, 10);
            x.addRoad(3, 4, 1);
            x.addGarage(3 + border, 2);
            x.addPatrol(3, 1, true);
            x.addPatrol(2, 1, true);
            x.addPatrol(2, 1, true);
            x.call(0, 3, 12);
            due("one place is taken", x.pass(3), 1);
            x.duty(0, false);
            x.call(1, 2, 12);
            x.call(2, 2, 12);
            x.pass(1);
            due("one place is left", x.garage(0, 2), 1);
            due("a car is towed on a way to it", x.garage(0, 3), 1);
            due("the first one", x.callOf(1, 5), 4);
            due("none for the other", x.callOf(2, 5), 3);
            x.pass(19);
            due("nor later", x.callOf(2, 5), 3);
        }
    }

    private static void placesThatAreFreeAgain() {
        CHECK.sentence("TOWING", "cars that are towed now on a way to it");
        PatrolDesk x = Desks.ofMembers(2);
        x.addRoad(0, 4, 1);
        x.addRoad(4, 5, 9);
        x.addGarage(5, 1);
        x.addPatrol(0, 1, true);
        x.addPatrol(5, 1, true);
        x.duty(1, false);
        x.call(0, 0, 12);
        x.pass(1);
        x.duty(1, true);
        x.call(1, 5, 12);
        x.pass(1);
        due("towed now: no place", x.callOf(1, 5), 3);
        x.duty(1, false);
        x.pass(1);
        due("at the border", x.callOf(0, 1), 4);
        x.goHome(0);
        x.duty(1, true);
        x.pass(1);
        due("the patrol goes to the one at the border", x.callOf(0, 6), 1);
        x.addPatrol(5, 1, true);
        x.pass(1);
        due("that one is not towed now: a place", x.callOf(1, 5), 4);
        x.pass(1);
        due("done", x.callOf(1, 5), 6);
        x.pass(7);
        due("no place for the one at the border", x.callOf(0, 5), 3);
    }

    private static void nearestGarage() {
        CHECK.sentence("TOWING", "that is nearest from where it is (of several the one with the lower number).");
        PatrolDesk x = Desks.ofMembers(1);
        x.addRoad(0, 1, 5);
        x.addRoad(0, 2, 4);
        x.addRoad(0, 3, 4);
        x.addGarage(1, 9);
        x.addGarage(3, 1);
        x.addGarage(2, 9);
        x.addGarage(3, 9);
        x.addPatrol(0, 1, true);
        x.call(0, 0, 12);
        x.pass(9);
        due("the nearest of the lowest number", x.callOf(0, 12), 1);
        PatrolDesk y = Desks.ofMembers(1);
        y.addRoad(0, 4, 1);
        y.addRoad(0, 1, 2);
        y.addGarage(1, 9);
        y.addGarage(4, 9);
        y.addPatrol(0, 1, true);
        y.call(0, 0, 12);
        y.pass(3);
        due("the nearest, though in another region", y.callOf(0, 12), 1);
    }

    private static void nearestFromWhereTheCarIs() {
        CHECK.sentence("TOWING", "nearest from where it is");
        PatrolDesk x = Desks.withLine(Desks.ofMembers(1), 1);
        x.addGarage(0, 1);
        x.addGarage(3, 1);
        x.addPatrol(0, 1, true);
        x.call(0, 2, 12);
        x.pass(5);
        due("near the car, not near the patrol's home", x.callOf(0, 12), 1);
        // At the border it is looked for anew.
        PatrolDesk y = borderWithAGarage();
        y.pass(1);
        due("on to the garage 1", y.garage(1, 3), 1);
        due("over the border", y.patrol(0, 6), 10);
        PatrolDesk z = borderWithAGarage();
        z.addGarage(1, 1);
        z.pass(1);
        due("to a garage that is new at the border", z.garage(2, 3), 1);
        due("not on to the garage 1", z.garage(1, 3), 0);
    }

    private static void noSuchGarage() {
        CHECK.sentence("TOWING",
                "If there is no such garage to which there is a way, the call waits for a tow (again), and the patrol is free.");
        for (int garages = 0; garages <= 2; garages++) {
            PatrolDesk x = Desks.ofMembers(2);
            x.addRoad(0, 1, 3);
            x.addPatrol(0, 1, true);
            if (garages >= 1) {
                x.addGarage(5, 9);
            }
            if (garages == 2) {
                x.addGarage(1, 1);
                x.call(1, 1, 12);
                due("the one with a way is full", x.pass(6), 1);
                x.goHome(0);
            }
            x.call(0, 1, 12);
            x.pass(5);
            int call = garages == 2 ? 1 : 0;
            due("it waits for a tow", x.callOf(call, 5), 3);
            due("got to", x.callOf(call, 7), 3);
            due("the patrol is free", x.patrol(0, 3), 0);
            due("without a call", x.patrol(0, 5), -5);
            due("there", x.patrol(0, 4), 1);
            due("no car is under way", garages == 0 ? 0 : x.garage(garages - 1, 3), 0);
        }
    }

    private static void noSuchGarageAgain() {
        CHECK.sentence("TOWING", "the call waits for a tow (again)");
        PatrolDesk x = Desks.ofMembers(1);
        x.addRoad(0, 1, 3);
        x.addPatrol(0, 1, true);
        x.call(0, 1, 12);
        x.pass(4);
        x.goHome(0);
        x.pass(1);
        due("it is sent for the tow", x.callOf(0, 6), 0);
        x.pass(3);
        due("in vain", x.callOf(0, 5), 3);
        due("it waits again", x.waiting(0), 0);
        due("the patrol is free", x.patrol(0, 3), 0);
        due("there", x.patrol(0, 4), 1);
        x.pass(20);
        due("and again", x.callOf(0, 5), 3);
        due("it waited for the first time only", x.callOf(0, 7), 3);
        x.addGarage(1, 1);
        due("until there is one", x.pass(2), 1);
    }

    private static void shortestWayOverLowestAreas() {
        CHECK.sentence("TOWING", "The tow goes on the shortest way (of several that which goes over the areas with the"
                + " lowest numbers, looked at from its beginning).");
        // 0-1-2-5, 0-1-6-5, 0-3-5 and 0-4-5 take 6 each: the first one leaves the region behind 2.
        PatrolDesk x = Desks.ofMembers(1);
        x.addRoad(0, 4, 1);
        x.addRoad(4, 5, 5);
        x.addRoad(0, 3, 4);
        x.addRoad(3, 5, 2);
        x.addRoad(0, 1, 1);
        x.addRoad(1, 6, 2);
        x.addRoad(6, 5, 3);
        x.addRoad(1, 2, 1);
        x.addRoad(2, 5, 4);
        x.addGarage(5, 1);
        x.addPatrol(0, 1, true);
        x.call(0, 0, 12);
        x.pass(1);
        due("as far as 2", x.patrol(0, 6), 4);
        x.pass(4);
        due("the car is there", x.callOf(0, 1), 2);
        // The fewest minutes go ahead of low areas, and the beginning is where the car is.
        PatrolDesk y = Desks.ofMembers(1);
        y.addRoad(3, 0, 1);
        y.addRoad(0, 8, 9);
        y.addRoad(3, 2, 2);
        y.addRoad(2, 8, 7);
        y.addGarage(8, 1);
        y.addPatrol(3, 1, true);
        y.call(0, 3, 12);
        y.pass(5);
        due("over 2, not over 0", y.callOf(0, 1), 2);
    }

    private static void lastAreaAheadOfTheBorder() {
        CHECK.sentence("TOWING", "If the way leaves the region of the patrol, the patrol tows only to the last area"
                + " ahead of the place where it first does;");
        // 0-1-4-2-3-5: it leaves at 4, comes back at 2, leaves at 5.
        PatrolDesk x = Desks.ofMembers(1);
        int[] way = {0, 1, 4, 2, 3, 5};
        for (int i = 0; i < 5; i++) {
            x.addRoad(way[i], way[i + 1], 1 + i);
        }
        x.addGarage(5, 1);
        x.addPatrol(0, 1, true);
        x.addPatrol(7, 1, true);
        x.call(0, 0, 12);
        x.pass(1);
        due("over one road", x.patrol(0, 6), 2);
        x.pass(2);
        due("as far as 1", x.callOf(0, 1), 1);
        due("a tow at a border", x.patrol(0, 8), 1);
        due("no car is in the garage", x.garage(0, 2), 0);
        PatrolDesk y = Desks.withLine(Desks.ofMembers(1), 1);
        y.addGarage(3, 1);
        y.addPatrol(0, 1, true);
        y.call(0, 0, 12);
        due("one that stays in the region goes all the way", y.pass(7), 1);
        // From the region 2 to the region 0, backwards.
        PatrolDesk z = Desks.withLine(Desks.ofMembers(1), 1);
        z.addGarage(0, 1);
        z.addPatrol(10, 1, true);
        z.call(0, 10, 12);
        z.pass(5);
        due("as far as 8", z.callOf(0, 1), 8);
        due("there in the minute 4", z.patrol(0, 8), 1);
    }

    private static void waitsAtTheBorder() {
        CHECK.sentence("TOWING", "there the car waits for a tow at the border.");
        PatrolDesk x = Desks.withLine(Desks.ofMembers(1), 1);
        x.addGarage(9, 1);
        x.addPatrol(2, 1, true);
        x.addPatrol(6, 1, true);
        x.addPatrol(8, 1, true);
        x.call(0, 2, 12);
        // 2 to 3, over the border to 4, to 7, over it to 8, to 9; each tow is looked for anew.
        int[] areas = {3, 4, 7, 8};
        int[] patrols = {0, 0, 1, 1};
        int[] minutes = {3, 2, 2 + 6, 2};
        for (int i = 0; i < 4; i++) {
            x.pass(minutes[i] - 1);
            due("towed by", x.callOf(0, 6), patrols[i]);
            due("not yet", x.callOf(0, 1) == areas[i] ? 1 : 0, 0);
            due("nothing is done", x.pass(1), 0);
            due("the car is in", x.callOf(0, 1), areas[i]);
            due("its patrol, too", x.patrol(patrols[i], 4), areas[i]);
        }
        due("the last tow is of the region 2", x.callOf(0, 6), 2);
        due("done", x.pass(2), 1);
        due("three who towed", x.patrol(0, 8) * 100 + x.patrol(1, 8) * 10 + x.patrol(2, 8), 221);
        due("one who got to it first", x.callOf(0, 8), 0);
    }

    private static void overTheBorderAlone() {
        CHECK.sentence("TOWING", "(If that is the area where the car is already, the tow goes on to the next area alone,"
                + " over the border, all the same.)");
        PatrolDesk x = Desks.ofMembers(1);
        x.addRoad(3, 4, 7);
        x.addRoad(4, 5, 1);
        x.addGarage(5, 1);
        x.addPatrol(3, 1, true);
        x.call(0, 3, 12);
        x.pass(1);
        due("over one road", x.patrol(0, 6), 14);
        x.pass(14);
        due("over the border", x.callOf(0, 1), 4);
        due("alone", x.callOf(0, 5), 3);
        due("the patrol is there", x.patrol(0, 4), 4);
        PatrolDesk y = Desks.ofMembers(1);
        y.addRoad(3, 4, 7);
        y.addGarage(4, 1);
        y.addPatrol(3, 1, true);
        y.call(0, 3, 12);
        due("the garage is there", y.pass(15), 1);
        due("state", y.callOf(0, 5), 6);
        // Over the region 1 into the region 0 again: on to the next area alone.
        PatrolDesk z = Desks.ofMembers(1);
        z.addRoad(3, 4, 1);
        z.addRoad(4, 2, 1);
        z.addGarage(2, 1);
        z.addPatrol(3, 1, true);
        z.call(0, 3, 12);
        z.pass(3);
        due("as far as 4", z.callOf(0, 1), 4);
        due("waits there", z.callOf(0, 5), 3);
    }

    private static void twiceTheMinutes() {
        CHECK.sentence("TOWING", "A tow takes twice the minutes of its roads, and 1 at least.");
        int[] roads = {0, 1, 2, 59, 60};
        int[] minutes = {1, 2, 4, 118, 120};
        for (int i = 0; i < 5; i++) {
            PatrolDesk x = Desks.ofMembers(1);
            x.addRoad(0, 1, Math.max(1, roads[i]));
            x.addGarage(i == 0 ? 0 : 1, 1);
            x.addPatrol(0, 1, true);
            x.call(0, 0, 12);
            x.pass(1);
            due("minutes of a tow over " + roads[i], x.patrol(0, 6), minutes[i]);
            due("not done a minute before", minutes[i] == 1 ? 0 : x.pass(minutes[i] - 1), 0);
            due("done", x.pass(1), 1);
        }
        PatrolDesk y = Desks.withLine(Desks.ofMembers(1), 60);
        y.addGarage(3, 1);
        y.addPatrol(0, 1, true);
        y.call(0, 0, 12);
        y.pass(1);
        due("over three roads", y.patrol(0, 6), 360);
        Desks.passAll(y, 359);
        due("done", y.pass(1), 1);
        PatrolDesk z = Desks.withLine(Desks.ofMembers(1), 60);
        z.addGarage(11, 1);
        z.addPatrol(2, 1, true);
        z.call(0, 2, 12);
        z.pass(1);
        due("of its own roads only", z.patrol(0, 6), 120);
    }
}
