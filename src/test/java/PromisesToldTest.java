/** Promises 22 to 29, sentence by sentence: what is told. */
public final class PromisesToldTest {
    private static final Check CHECK = new Check("PromisesToldTest");

    public static void main(String[] args) {
        member();
        memberInNumbers();
        patrol();
        patrolAtWork();
        patrolInNumbers();
        minutesOfAPatrol();
        garage();
        garageOnTheWay();
        callOf();
        callOnItsWay();
        callOverTime();
        waiting();
        nearest();
        waitFor();
        waitForAfterOthers();
        waitForErrors();
        waitForWithinLimits();
        count();
        countOfStates();
        countOfSums();
        CHECK.end();
    }

    private static void due(String what, long got, long want) {
        CHECK.due(what, got, want);
    }

    private static void same(String what, int[] got, int[] want) {
        for (int i = 0; i < want.length; i++) {
            due(what + " [" + i + "]", got[i], want[i]);
        }
    }

    // ---- 22: member

    private static void member() {
        CHECK.sentence("Promise 22", "`member`: a member");
        PatrolDesk every = Desks.ofMembers(20);
        every.call(19, 0, 1);
        for (int member = 0; member < 20; member++) {
            due("calls of " + member, every.member(member, 1), member == 19 ? 1 : 0);
        }
        PatrolDesk x = Desks.busy();
        CHECK.sentence("Promise 22", "`what`: 0 for the tier,");
        int[] tiers = {0, 1, 2, 0, 1};
        int[] calls = {2, 2, 1, 2, 0};
        for (int member = 0; member < 5; member++) {
            due("tier of " + member, x.member(member, 0), tiers[member]);
        }
        CHECK.sentence("Promise 22", "1 for the calls,");
        for (int member = 0; member < 5; member++) {
            due("calls of " + member, x.member(member, 1), calls[member]);
        }
        CHECK.sentence("Promise 22", "2 for the call in one of the states 0 to 4 (NONE if there is none),");
        int[] open = {1, 6, 3, 5, -5};
        for (int member = 0; member < 5; member++) {
            due("open call of " + member, x.member(member, 2), open[member]);
        }
        x.pass(17);
        due("until the last minute of the repair", x.member(0, 2), 1);
        x.pass(1);
        due("none when it is done", x.member(0, 2), -5);
        due("in a tow", x.callOf(3, 5), 4);
        due("in a tow", x.member(2, 2), 3);
        x.pass(8);
        due("none when it is towed", x.member(2, 2), -5);
        x.cancel(5);
        due("none when it is cancelled", x.member(3, 2), -5);
        CHECK.sentence("Promise 22", "Returns the number; UNKNOWN; BAD_VALUE.");
        for (int wrong : Desks.beside(0, 4)) {
            due("member " + wrong, x.member(wrong, 0), -1);
        }
        for (int wrong : Desks.beside(0, 6)) {
            due("what " + wrong, x.member(0, wrong), -2);
        }
        due("no members at all", new PatrolDesk().member(0, 0), -1);
    }

    private static void memberInNumbers() {
        CHECK.sentence("Promise 22", "3 for the minutes waited by all calls of this one,");
        PatrolDesk x = Desks.ofTiers(0, 0);
        x.addPatrol(0, 9, false);
        x.call(0, 11, 1);
        x.call(1, 11, 1);
        x.pass(7);
        due("one that waits", x.member(0, 3), 7);
        x.cancel(0);
        x.pass(2);
        due("one that was cancelled", x.member(0, 3), 7);
        x.call(0, 0, 1);
        x.duty(0, false);
        x.pass(4);
        x.duty(0, true);
        x.pass(1);
        due("one that a patrol got to", x.member(0, 3), 7 + 4);
        x.pass(5);
        x.call(0, 11, 1);
        x.pass(3);
        due("and one that waits", x.member(0, 3), 7 + 4 + 3);
        due("another member's", x.member(1, 3), 22);
        CHECK.sentence("Promise 22", "4 for what this one paid less what was given back, in pounds, plus 1000,");
        due("paid", x.member(0, 4), 1020);
        due("nothing paid", x.member(1, 4), 1000);
        x.pass(70);
        x.cancel(1);
        x.setPromise(0, 10);
        x.call(1, 4, 12);
        x.pass(11);
        x.addPatrol(4, 1, false);
        x.pass(1);
        due("given back", x.member(1, 4), 985);
        due("still paid", x.member(0, 4), 1020);
        CHECK.sentence("Promise 22", "5 for calls that were callbacks,");
        due("one, which waits still", x.member(0, 5), 1);
        x.cancel(3);
        x.call(0, 5, 1);
        due("two, of which one was cancelled", x.member(0, 5), 2);
        due("another member's", x.member(1, 5), 0);
        CHECK.sentence("Promise 22",
                "6 for calls that a patrol got to when they had waited for more minutes than their bound");
        due("one", x.member(1, 6), 1);
        due("none", x.member(0, 6), 0);
        x.duty(1, false);
        x.pass(30);
        due("none for one that waits beyond its bound", x.member(0, 6), 0);
        x.cancel(5);
        due("none when that is cancelled", x.member(0, 6), 0);
    }

    // ---- 23: patrol

    private static void patrol() {
        CHECK.sentence("Promise 23", "`patrol`: a patrol");
        PatrolDesk every = new PatrolDesk();
        for (int patrol = 0; patrol < 6; patrol++) {
            every.addPatrol(6 + patrol, 9 - patrol, false);
        }
        for (int patrol = 0; patrol < 6; patrol++) {
            due("home of " + patrol, every.patrol(patrol, 0), 6 + patrol);
            due("skill of " + patrol, every.patrol(patrol, 1), 9 - patrol);
        }
        PatrolDesk x = new PatrolDesk();
        x.addPatrol(11, 9, false);
        x.addPatrol(0, 1, true);
        CHECK.sentence("Promise 23", "`what`: 0 for its home, 1 for its skill,");
        due("home", x.patrol(0, 0), 11);
        due("home", x.patrol(1, 0), 0);
        due("skill", x.patrol(0, 1), 9);
        due("skill", x.patrol(1, 1), 1);
        CHECK.sentence("Promise 23", "2 for whether it can tow (1, otherwise 0),");
        due("it can't", x.patrol(0, 2), 0);
        due("it can", x.patrol(1, 2), 1);
        CHECK.sentence("Promise 23", "Returns the number; UNKNOWN; BAD_VALUE.");
        for (int wrong : Desks.beside(0, 1)) {
            due("patrol " + wrong, x.patrol(wrong, 0), -1);
        }
        for (int wrong : Desks.beside(0, 11)) {
            due("what " + wrong, x.patrol(0, wrong), -2);
        }
        due("no patrols at all", new PatrolDesk().patrol(0, 0), -1);
    }

    private static void patrolAtWork() {
        // In each row: free, drives to 1, repairs, free, drives to 2, tows to 3, free, off.
        CHECK.sentence("Promise 23", "3 for what it does (0 free, 1 drives, 2 repairs, 3 tows, 4 off),");
        patrolIs(3, 0, 1, 2, 0, 1, 3, 0, 4);
        CHECK.sentence("Promise 23", "4 for the area where it is (while it drives or tows that from which it came),");
        patrolIs(4, 0, 0, 1, 1, 1, 2, 3, 3);
        CHECK.sentence("Promise 23", "5 for its call (NONE if it is free or off),");
        patrolIs(5, -5, 0, 0, -5, 1, 1, -5, -5);
        CHECK.sentence("Promise 23", "6 for its minutes left (NONE likewise),");
        patrolIs(6, -5, 3, 5, -5, 3, 6, -5, -5);
    }

    private static void patrolIs(int what, int... told) {
        PatrolDesk x = Desks.withLine(Desks.ofMembers(1), 3);
        x.addGarage(3, 1);
        x.addPatrol(0, 1, true);
        for (int step = 0; step < 8; step++) {
            goOn(x, step);
            due("what " + what + " in step " + step, x.patrol(0, what), told[step]);
        }
    }

    private static void goOn(PatrolDesk x, int step) {
        if (step == 1) {
            x.call(0, 1, 1);
        } else if (step == 4) {
            x.call(0, 2, 12);
        } else if (step == 7) {
            x.duty(0, false);
        }
        int[] minutes = {0, 1, 3, 5, 1, 3, 6, 0};
        if (minutes[step] > 0) {
            x.pass(minutes[step]);
        }
    }

    private static void patrolInNumbers() {
        PatrolDesk x = Desks.withLine(Desks.ofMembers(2), 2);
        x.addGarage(4, 9);
        x.addPatrol(3, 1, true);
        x.addPatrol(7, 9, true);
        CHECK.sentence("Promise 23", "7 for its repairs that are done,");
        x.call(0, 3, 1);
        x.pass(5);
        due("not yet", x.patrol(0, 7), 0);
        x.pass(1);
        due("one", x.patrol(0, 7), 1);
        due("none of the other", x.patrol(1, 7), 0);
        CHECK.sentence("Promise 23", "8 for its tows that are done (at a border, too),");
        x.call(0, 2, 12);
        x.pass(3);
        due("it tows to the border", x.patrol(0, 3), 3);
        due("not yet", x.patrol(0, 8), 0);
        x.pass(4);
        due("one, at the border", x.patrol(0, 8), 1);
        due("it tows over it", x.patrol(0, 3), 3);
        x.pass(4);
        due("two, at the garage", x.patrol(0, 8), 2);
        due("done", x.callOf(1, 5), 6);
        due("none of the other", x.patrol(1, 8), 0);
        due("no repair", x.patrol(0, 7), 1);
        CHECK.sentence("Promise 23", "9 for callbacks that count against it,");
        due("one, which was towed", x.patrol(0, 9), 1);
        x.call(0, 9, 1);
        due("two, of which one waits", x.patrol(0, 9), 2);
        x.cancel(2);
        due("two, of which one is cancelled", x.patrol(0, 9), 2);
        due("none against the other", x.patrol(1, 9), 0);
        CHECK.sentence("Promise 23", "10 for the minutes waited by calls to which it got first (until it got there),");
        due("none waited at 3, two at 2", x.patrol(0, 10), 2);
        x.duty(0, false);
        x.duty(1, false);
        x.call(1, 4, 12);
        x.pass(10);
        due("none for one that waits", x.patrol(0, 10), 2);
        x.duty(1, true);
        x.pass(3);
        due("none for one to which it drives", x.patrol(1, 10), 0);
        x.pass(4);
        due("until it got there", x.patrol(1, 10), 16);
        x.pass(20);
        due("it repairs", x.patrol(1, 3), 2);
        due("no more minutes", x.patrol(1, 10), 16);
        due("none for the other", x.patrol(0, 10), 2);
        x.call(0, 4, 1);
        x.pass(44);
        due("39 more for the next one", x.callOf(4, 7), 39);
        due("all of them", x.patrol(1, 10), 55);
    }

    private static void minutesOfAPatrol() {
        CHECK.sentence("Promise 23", "11 for the minutes that have passed while it drove (also to a call that was"
                + " cancelled on the way), repaired or towed");
        PatrolDesk x = Desks.withLine(Desks.ofMembers(1), 6);
        x.addGarage(2, 1);
        x.addPatrol(0, 1, true);
        x.pass(9);
        due("none while it is free", x.patrol(0, 11), 0);
        x.call(0, 1, 1);
        x.pass(7);
        due("six minutes of a drive", x.patrol(0, 11), 6);
        x.pass(5);
        due("five of a repair", x.patrol(0, 11), 11);
        x.pass(9);
        due("none while it is free", x.patrol(0, 11), 11);
        x.call(0, 1, 12);
        x.pass(13);
        due("twelve of a tow", x.patrol(0, 11), 23);
        due("done", x.callOf(1, 5), 6);
        x.call(0, 0, 1);
        x.pass(5);
        x.cancel(2);
        due("four of a drive that was cancelled", x.patrol(0, 11), 27);
        x.pass(9);
        due("none after that", x.patrol(0, 11), 27);
        x.duty(0, false);
        x.pass(9);
        due("none while it is off", x.patrol(0, 11), 27);
        PatrolDesk y = Desks.ofMembers(1);
        y.addPatrol(0, 1, false);
        y.call(0, 0, 12);
        y.pass(9);
        due("none for getting to a call at once and being free", y.patrol(0, 11), 0);
    }

    // ---- 24: garage

    private static void garage() {
        CHECK.sentence("Promise 24", "`garage`: a garage");
        PatrolDesk every = new PatrolDesk();
        for (int garage = 0; garage < 5; garage++) {
            every.addGarage(garage, 9 - garage);
        }
        for (int garage = 0; garage < 5; garage++) {
            due("area of " + garage, every.garage(garage, 0), garage);
            due("places of " + garage, every.garage(garage, 1), 9 - garage);
        }
        PatrolDesk x = Desks.ofMembers(3);
        x.addGarage(11, 9);
        x.addGarage(0, 3);
        x.addPatrol(0, 1, true);
        CHECK.sentence("Promise 24", "`what`: 0 for its area, 1 for its places,");
        due("area", x.garage(0, 0), 11);
        due("places", x.garage(0, 1), 9);
        due("area", x.garage(1, 0), 0);
        due("places", x.garage(1, 1), 3);
        CHECK.sentence("Promise 24", "2 for cars in it,");
        due("none", x.garage(1, 2), 0);
        x.call(0, 0, 12);
        x.call(1, 0, 12);
        x.pass(1);
        due("none, as one is under way", x.garage(1, 2), 0);
        x.pass(1);
        due("one", x.garage(1, 2), 1);
        x.pass(1);
        due("two", x.garage(1, 2), 2);
        due("the places stay", x.garage(1, 1), 3);
        x.fetch(1, 1);
        due("one after a fetch", x.garage(1, 2), 1);
        due("none in the other", x.garage(0, 2), 0);
        CHECK.sentence("Promise 24", "4 for cars that were towed there so far");
        due("two, also the one that was fetched", x.garage(1, 4), 2);
        x.call(2, 0, 12);
        x.pass(1);
        due("not yet one under way", x.garage(1, 4), 2);
        x.pass(1);
        due("three", x.garage(1, 4), 3);
        due("none to the other", x.garage(0, 4), 0);
        CHECK.sentence("Promise 24", "Returns the number; UNKNOWN; BAD_VALUE.");
        for (int wrong : Desks.beside(0, 1)) {
            due("garage " + wrong, x.garage(wrong, 0), -1);
        }
        for (int wrong : Desks.beside(0, 4)) {
            due("what " + wrong, x.garage(0, wrong), -2);
        }
        due("no garages at all", new PatrolDesk().garage(0, 0), -1);
    }

    private static void garageOnTheWay() {
        CHECK.sentence("Promise 24", "3 for cars that are under way to it (those that wait at a border are not),");
        PatrolDesk x = Desks.withLine(Desks.ofMembers(2), 1);
        x.addGarage(4, 2);
        x.addPatrol(2, 1, true);
        x.addPatrol(4, 1, true);
        x.call(0, 2, 12);
        due("none that waits", x.garage(0, 3), 0);
        x.call(1, 4, 12);
        x.pass(1);
        due("two, of which one goes to a border only", x.garage(0, 3), 2);
        x.pass(1);
        due("one, as the other is there", x.garage(0, 3), 1);
        x.pass(1);
        due("again one, on from the border", x.garage(0, 3), 1);
        x.undo();
        x.duty(1, false);
        x.addRoad(3, 5, 1);
        x.pass(1);
        due("at the border, sent on", x.callOf(0, 1), 3);
        x.pass(1);
        x.pass(1);
        due("none when it is there", x.garage(0, 3), 0);
        due("done", x.callOf(0, 5), 6);
        PatrolDesk y = Desks.withLine(Desks.ofMembers(1), 1);
        y.addGarage(5, 2);
        y.addPatrol(3, 1, true);
        y.call(0, 3, 12);
        y.pass(1);
        due("one over the border", y.garage(0, 3), 1);
        y.pass(2);
        due("it waits at the border", y.callOf(0, 5), 3);
        due("that is not under way", y.garage(0, 3), 0);
        y.addPatrol(7, 1, true);
        y.pass(2);
        due("one drives there for its tow", y.callOf(0, 6), 1);
        due("nor is that", y.garage(0, 3), 0);
        y.pass(2);
        due("it is towed on", y.garage(0, 3), 1);
    }

    // ---- 25: callOf

    private static void callOf() {
        CHECK.sentence("Promise 25", "`call`: a call");
        PatrolDesk every = Desks.ofMembers(1);
        for (int call = 0; call < 40; call++) {
            every.call(0, call % 12, 1);
            every.cancel(call);
        }
        for (int call = 0; call < 40; call++) {
            due("area of " + call, every.callOf(call, 1), call % 12);
        }
        PatrolDesk x = Desks.busy();
        CHECK.sentence("Promise 25", "`what`: 0 for its member,");
        int[] members = {0, 0, 1, 2, 3, 3, 1};
        for (int call = 0; call < 7; call++) {
            due("member of " + call, x.callOf(call, 0), members[call]);
        }
        CHECK.sentence("Promise 25", "2 for its trouble, 3 for its bound, 4 for the minute in which it came, 5 for its state,");
        int[] troubles = {1, 4, 12, 12, 2, 3, 2};
        int[] bounds = {90, 110, 80, 60, 110, 110, 80};
        int[] came = {0, 6, 6, 6, 8, 8, 8};
        int[] states = {5, 2, 6, 3, 7, 0, 1};
        for (int call = 0; call < 7; call++) {
            due("trouble of " + call, x.callOf(call, 2), troubles[call]);
            due("bound of " + call, x.callOf(call, 3), bounds[call]);
            due("minute of " + call, x.callOf(call, 4), came[call]);
            due("state of " + call, x.callOf(call, 5), states[call]);
        }
        CHECK.sentence("Promise 25", "6 for the patrol that drives to it, repairs or tows now (NONE if none does),");
        int[] patrols = {-5, 0, -5, 1, -5, -5, 2};
        for (int call = 0; call < 7; call++) {
            due("patrol of " + call, x.callOf(call, 6), patrols[call]);
        }
        CHECK.sentence("Promise 25", "8 for the patrol that got to it first (NONE if none did),");
        int[] first = {0, 0, 1, 2, -5, -5, -5};
        for (int call = 0; call < 7; call++) {
            due("first at " + call, x.callOf(call, 8), first[call]);
        }
        CHECK.sentence("Promise 25", "10 for whether it is a callback (1, otherwise 0),");
        for (int call = 0; call < 7; call++) {
            due("callback " + call, x.callOf(call, 10), call == 1 ? 1 : 0);
        }
        CHECK.sentence("Promise 25", "12 for the garage in which it is done (NONE unless its state is 6)");
        for (int call = 0; call < 7; call++) {
            due("garage of " + call, x.callOf(call, 12), call == 2 ? 1 : -5);
        }
        x.pass(8);
        due("none for one that is towed", x.callOf(3, 12), -5);
        x.pass(18);
        due("the garage when it is done", x.callOf(3, 12), 0);
        x.fetch(1, 1);
        due("also when the car was fetched", x.callOf(2, 12), 1);
        CHECK.sentence("Promise 25", "Returns the number; UNKNOWN; BAD_VALUE.");
        for (int wrong : Desks.beside(0, 6)) {
            due("call " + wrong, x.callOf(wrong, 0), -1);
        }
        for (int wrong : Desks.beside(0, 12)) {
            due("what " + wrong, x.callOf(0, wrong), -2);
        }
        due("no calls at all", new PatrolDesk().callOf(0, 0), -1);
    }

    private static void callOnItsWay() {
        CHECK.sentence("Promise 25", "1 for the area where its car is (while it is towed that from which it is towed;"
                + " when it is done by a tow that of the garage),");
        PatrolDesk x = Desks.withLine(Desks.ofMembers(2), 1);
        x.addGarage(4, 1);
        x.addPatrol(2, 1, true);
        x.call(0, 2, 12);
        due("where it came", x.callOf(0, 1), 2);
        x.pass(2);
        due("while it is towed", x.callOf(0, 1), 2);
        x.pass(1);
        due("at the border", x.callOf(0, 1), 3);
        x.pass(1);
        due("while it is towed on", x.callOf(0, 1), 3);
        x.pass(1);
        due("where the garage is", x.callOf(0, 1), 4);
        x.fetch(0, 1);
        due("also when it was fetched", x.callOf(0, 1), 4);
        x.call(1, 3, 1);
        x.pass(10);
        due("where it was repaired", x.callOf(1, 1), 3);
    }

    private static void callOverTime() {
        PatrolDesk x = Desks.ofMembers(2);
        x.pass(20);
        x.call(0, 0, 1);
        CHECK.sentence("Promise 25", "7 for the minutes that it has waited,");
        due("none yet", x.callOf(0, 7), 0);
        x.pass(95);
        due("the minutes so far", x.callOf(0, 7), 95);
        CHECK.sentence("Promise 25", "11 for the rest of its bound now plus 10000 (NONE unless its state is 0 or 1),");
        due("below 0", x.callOf(0, 11), 9995);
        x.addRoad(0, 1, 7);
        x.addPatrol(1, 9, false);
        x.pass(1);
        due("in the state 1", x.callOf(0, 11), 9994);
        x.pass(7);
        due("not in the state 2", x.callOf(0, 11), -5);
        CHECK.sentence("Promise 25", "9 for the minute in which it was done or cancelled (NONE if it is not),");
        due("not yet", x.callOf(0, 9), -5);
        x.pass(5);
        due("done", x.callOf(0, 9), 20 + 95 + 7 + 5);
        due("in the state 5", x.callOf(0, 11), -5);
        due("it waited until the patrol was there", x.callOf(0, 7), 102);
        x.call(1, 11, 1);
        x.pass(2);
        due("not yet", x.callOf(1, 9), -5);
        due("in the state 0", x.callOf(1, 11), 10088);
        x.cancel(1);
        due("cancelled", x.callOf(1, 9), 130);
        due("in the state 7", x.callOf(1, 11), -5);
        due("it waited until then", x.callOf(1, 7), 2);
        PatrolDesk y = Desks.ofMembers(1);
        y.addPatrol(0, 1, true);
        y.call(0, 0, 12);
        y.pass(1);
        due("in the state 3", y.callOf(0, 11), -5);
        due("not yet", y.callOf(0, 9), -5);
        y.addGarage(0, 1);
        y.pass(1);
        due("in the state 4", y.callOf(0, 11), -5);
        due("not yet", y.callOf(0, 9), -5);
        y.pass(1);
        due("in the state 6", y.callOf(0, 11), -5);
        due("towed", y.callOf(0, 9), 2);
    }

    // ---- 26 and 27: waiting, nearest

    private static void waiting() {
        CHECK.sentence("Promise 26",
                "`place`: a place among the calls that wait (see above), in the order in which they are gone through, from 0");
        PatrolDesk x = Desks.ofTiers(0, 1, 2);
        for (int member = 0; member < 3; member++) {
            x.call(member, 0, 12);
        }
        same("by the rest", new int[] {x.waiting(0), x.waiting(1), x.waiting(2)}, new int[] {2, 1, 0});
        x.addPatrol(0, 1, false);
        x.pass(1);
        same("for a tow, too", new int[] {x.waiting(0), x.waiting(1), x.waiting(2)}, new int[] {2, 1, 0});
        x.addPatrol(0, 1, true);
        x.addGarage(0, 1);
        x.pass(1);
        same("the first is towed", new int[] {x.waiting(0), x.waiting(1), x.waiting(2)}, new int[] {1, 0, -5});
        CHECK.sentence("Promise 26", "Returns the call; BAD_VALUE if place is negative; NONE if there are not so many.");
        for (int wrong : new int[] {-1, -2, -40, -256, Integer.MIN_VALUE}) {
            due("place " + wrong, x.waiting(wrong), -2);
            due("place " + wrong + ", without calls", new PatrolDesk().waiting(wrong), -2);
        }
        for (int place : new int[] {2, 3, 39, 40, 41, 256, Integer.MAX_VALUE}) {
            due("place " + place, x.waiting(place), -5);
            due("place " + place + ", without calls", new PatrolDesk().waiting(place), -5);
        }
        PatrolDesk y = Desks.ofMembers(20);
        for (int member = 0; member < 20; member++) {
            y.call(member, 0, 1);
        }
        for (int place = 0; place < 20; place++) {
            due("place " + place, y.waiting(place), place);
        }
        due("behind them", y.waiting(20), -5);
    }

    private static void nearest() {
        CHECK.sentence("Promise 27", "Tells the patrol, of those that are free now, that would be sent to a call that waits"
                + " (see above), if this one was the first.");
        PatrolDesk x = Desks.withLine(Desks.ofTiers(2, 0), 1);
        x.addPatrol(2, 9, false);
        x.addPatrol(3, 9, false);
        x.addPatrol(0, 9, false);
        x.call(0, 2, 1);
        x.call(1, 2, 1);
        due("for the first", x.nearest(0), 0);
        due("for the second, if it was the first", x.nearest(1), 0);
        x.pass(1);
        due("for the second, now", x.callOf(1, 6), 1);
        x.cancel(1);
        x.call(1, 3, 1);
        due("the one that is free again is where it was", x.nearest(2), 1);
        x.duty(1, false);
        due("of those that are free", x.nearest(2), 2);
        CHECK.sentence("Promise 27", "`call`: a call");
        PatrolDesk every = Desks.ofMembers(3);
        for (int patrol = 0; patrol < 3; patrol++) {
            every.addPatrol(2 - patrol, 9, true);
            every.call(patrol, patrol, 1);
        }
        for (int call = 0; call < 3; call++) {
            due("the one that is there for " + call, every.nearest(call), 2 - call);
        }
        CHECK.sentence("Promise 27", "Returns the patrol; UNKNOWN;");
        due("the patrol", x.nearest(2), 2);
        for (int wrong : Desks.beside(0, 2)) {
            due("call " + wrong, x.nearest(wrong), -1);
        }
        due("no calls at all", new PatrolDesk().nearest(0), -1);
        CHECK.sentence("Promise 27", "NOT_POSSIBLE if it does not wait so;");
        PatrolDesk y = Desks.busy();
        int[] want = {-4, -4, -4, -4, -4, -5, -4};
        for (int call = 0; call < 7; call++) {
            due("call " + call, y.nearest(call), want[call]);
        }
        y.pass(8);
        due("one that is towed", y.nearest(3), -4);
        CHECK.sentence("Promise 27", "NONE if there is none.");
        due("no way", y.nearest(5), -5);
        PatrolDesk z = Desks.ofMembers(1);
        z.call(0, 0, 12);
        due("no patrols", z.nearest(0), -5);
        z.addPatrol(0, 1, false);
        z.pass(1);
        due("none that can tow", z.nearest(0), -5);
        z.addPatrol(0, 1, true);
        due("one, though there is no garage", z.nearest(0), 1);
    }

    // ---- 28: waitFor

    private static void waitFor() {
        CHECK.sentence("Promise 28", "Tells the minutes that a call will have waited as a patrol gets to it (see CALLS:"
                + " in the k-th minute from now this minute has the number of now + k - 1), if minutes passed now"
                + " and nothing else happened.");
        PatrolDesk x = Desks.withLine(Desks.ofMembers(2), 4);
        x.addPatrol(0, 9, false);
        x.pass(10);
        x.call(0, 0, 3);
        due("in the first minute from now", x.waitFor(0), 0);
        x.cancel(0);
        x.call(0, 2, 3);
        due("in the ninth", x.waitFor(1), 8);
        x.duty(0, false);
        x.pass(5);
        due("nobody is on duty", x.waitFor(1), -5);
        x.duty(0, true);
        CHECK.sentence("Promise 28", "Returns the minutes, from when it came;");
        due("five more", x.waitFor(1), 13);
        x.pass(1);
        due("as it is driven to", x.waitFor(1), 13);
        x.pass(7);
        due("in the next minute", x.waitFor(1), 13);
        x.pass(1);
        due("as it was told", x.callOf(1, 7), 13);
        // Nothing is changed by it.
        PatrolDesk y = Desks.busy();
        y.waitFor(5);
        y.waitFor(6);
        due("four states", y.count(23), 4);
        same("nothing is changed", Desks.told(y), Desks.told(Desks.busy()));
    }

    private static void waitForAfterOthers() {
        CHECK.sentence("Promise 28", "Tells the minutes that a call will have waited as a patrol gets to it");
        // One patrol for all: a repair of 5, then a tow of 8 and its way back, then the call of the tier 0.
        PatrolDesk x = Desks.withLine(Desks.ofTiers(2, 1, 0), 4);
        x.addGarage(1, 1);
        x.addPatrol(0, 1, true);
        x.call(2, 1, 1);
        x.call(1, 0, 12);
        x.call(0, 0, 1);
        int[] want = {5 + 8, 5, 0};
        for (int call = 0; call < 3; call++) {
            due("call " + call, x.waitFor(call), want[call]);
        }
        x.pass(30);
        for (int call = 0; call < 3; call++) {
            due("as it was told, call " + call, x.callOf(call, 7), want[call]);
        }
        // A call that waits for a tow may be ahead of it; its garage is full again and again.
        PatrolDesk y = Desks.withLine(Desks.ofTiers(2, 0), 4);
        y.addPatrol(0, 1, true);
        y.call(0, 0, 12);
        y.pass(3);
        y.call(1, 1, 1);
        due("gone through after the one that waits for a tow", y.waitFor(1), 4);
        y.pass(5);
        due("as it was told", y.callOf(1, 7), 4);
    }

    private static void waitForErrors() {
        CHECK.sentence("Promise 28", "`call`: a call in the state 0 or 1");
        PatrolDesk x = Desks.busy();
        due("in the state 1", x.waitFor(6), 18);
        x.addRoad(0, 8, 1);
        x.addRoad(8, 11, 1);
        due("in the state 0, after others, but not for region 0", x.waitFor(5), -5);
        x.addPatrol(7, 9, false);
        x.addRoad(7, 11, 3);
        due("in the state 0", x.waitFor(5), 4);
        CHECK.sentence("Promise 28", "UNKNOWN;");
        for (int wrong : Desks.beside(0, 6)) {
            due("call " + wrong, x.waitFor(wrong), -1);
        }
        due("no calls at all", new PatrolDesk().waitFor(0), -1);
        CHECK.sentence("Promise 28", "NOT_POSSIBLE if it is in none of these states;");
        for (int call = 0; call < 5; call++) {
            due("call " + call, x.waitFor(call), -4);
        }
        x.pass(8);
        due("one that is towed", x.waitFor(3), -4);
        PatrolDesk y = Desks.ofMembers(1);
        y.addPatrol(0, 1, false);
        y.call(0, 0, 12);
        y.pass(1);
        due("one that waits for a tow, driven to by none", y.waitFor(0), -4);
    }

    private static void waitForWithinLimits() {
        CHECK.sentence("Promise 28", "NONE if no patrol gets to it within the next 240 minutes,");
        for (int last = 58; last <= 60; last++) {
            PatrolDesk x = Desks.ofMembers(1);
            x.addRoad(0, 1, 60);
            x.addRoad(1, 2, 60);
            x.addRoad(2, 3, 60);
            x.addRoad(3, 4, last);
            x.addPatrol(0, 9, false);
            x.call(0, 4, 1);
            due("180 and " + last, x.waitFor(0), last < 60 ? 180 + last : -5);
            x.pass(1);
            due("180 and " + last + ", a minute later", x.waitFor(0), 180 + last);
        }
        CHECK.sentence("Promise 28", "as far as the minute 2880 allows them.");
        for (int before = 0; before <= 9; before++) {
            PatrolDesk x = Desks.ofMembers(1);
            x.addRoad(0, 1, 7);
            x.addPatrol(0, 9, false);
            Desks.passAll(x, 2880 - before);
            x.call(0, 1, 1);
            due(before + " minutes before the end", x.waitFor(0), before >= 8 ? 7 : -5);
            x.cancel(0);
            x.call(0, 0, 1);
            due(before + " minutes before the end", x.waitFor(1), before >= 1 ? 0 : -5);
        }
    }

    // ---- 29: count

    private static void count() {
        PatrolDesk x = Desks.busy();
        CHECK.sentence("Promise 29", "`what`: 0 for the minute, 1 for the weather, 2 for roads, 3 for members,"
                + " 4 for patrols, 5 for garages, 6 for calls,");
        int[] first = {9, 2, 3, 5, 3, 2, 7};
        for (int what = 0; what <= 6; what++) {
            due("count(" + what + ")", x.count(what), first[what]);
        }
        CHECK.sentence("Promise 29", "19 to 21 for the promises of the tiers 0 to 2,");
        x.setPromise(2, 41);
        int[] promises = {90, 70, 41};
        for (int tier = 0; tier <= 2; tier++) {
            due("promise of " + tier, x.count(19 + tier), promises[tier]);
        }
        CHECK.sentence("Promise 29", "22 for patrols on duty,");
        due("three, though none is free", x.count(22), 3);
        x.addPatrol(9, 1, false);
        due("four", x.count(22), 4);
        x.duty(3, false);
        due("three", x.count(22), 3);
        due("four patrols", x.count(4), 4);
        CHECK.sentence("Promise 29", "23 for the states in the history,");
        due("four", x.count(23), 4);
        x.undo();
        due("three", x.count(23), 3);
        CHECK.sentence("Promise 29", "24 for the length of the text");
        due("none", x.count(24), 0);
        Desks.put(x, "m0@");
        due("three", x.count(24), 3);
        x.clearText();
        due("none", x.count(24), 0);
        CHECK.sentence("Promise 29", "Returns the number; BAD_VALUE.");
        for (int wrong : Desks.beside(0, 24)) {
            due("what " + wrong, x.count(wrong), -2);
        }
    }

    private static void countOfStates() {
        CHECK.sentence("Promise 29", "7 to 14 for calls in the states 0 to 7,");
        PatrolDesk x = Desks.busy();
        int[][] due = {
            // In the minutes 9, 17, 26, 35 and 36.
            {1, 1, 1, 1, 0, 1, 1, 1},
            {1, 1, 1, 0, 1, 1, 1, 1},
            {1, 1, 1, 0, 1, 1, 1, 1},
            {1, 0, 1, 0, 0, 2, 2, 1},
            {1, 0, 1, 0, 0, 2, 2, 1},
        };
        int[] minutes = {9, 17, 26, 35, 36};
        for (int i = 0; i < 5; i++) {
            if (i > 0) {
                x.pass(minutes[i] - minutes[i - 1]);
            }
            for (int state = 0; state <= 7; state++) {
                due("state " + state + " in the minute " + minutes[i], x.count(7 + state), due[i][state]);
            }
        }
        x.pass(1);
        x.cancel(5);
        int[] last = {0, 0, 0, 0, 0, 3, 2, 2};
        for (int state = 0; state <= 7; state++) {
            due("state " + state + " at last", x.count(7 + state), last[state]);
        }
    }

    private static void countOfSums() {
        PatrolDesk x = Desks.busy();
        CHECK.sentence("Promise 29", "15 for the minutes waited by all calls,");
        due("one each of the two that wait", x.count(15), 2);
        x.pass(30);
        due("18 of the one, 31 of the other", x.count(15), 18 + 31);
        CHECK.sentence("Promise 29", "16 for what was paid by members,");
        due("20, 15 for a callback, 10 of the tier 1", x.count(16), 20 + 15 + 10);
        CHECK.sentence("Promise 29", "17 for what was given back to them,");
        due("nothing", x.count(17), 0);
        x.addRoad(9, 11, 1);
        x.pass(90);
        x.addPatrol(9, 9, false);
        x.pass(2);
        due("15 for a late one", x.count(17), 15);
        due("no less is paid", x.count(16), 45);
        CHECK.sentence("Promise 29", "18 for callbacks,");
        due("one", x.count(18), 1);
        x.call(0, 10, 1);
        due("two", x.count(18), 2);
        x.cancel(7);
        due("still", x.count(18), 2);
    }
}
