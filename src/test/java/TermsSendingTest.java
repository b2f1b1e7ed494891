/** The document's terms, sentence by sentence: SENDING and MONEY. */
public final class TermsSendingTest {
    private static final Check CHECK = new Check("TermsSendingTest");

    public static void main(String[] args) {
        order();
        whoWaitsForWhom();
        whoIsSent();
        theDrive();
        money();
        CHECK.end();
    }

    private static void due(String what, long got, long want) {
        CHECK.due(what, got, want);
    }

    private static void waitingIs(PatrolDesk x, int... calls) {
        for (int place = 0; place < calls.length; place++) {
            due("waiting(" + place + ")", x.waiting(place), calls[place]);
        }
        due("waiting behind them", x.waiting(calls.length), -5);
    }

    // ---- SENDING

    private static void order() {
        whichCallsWait();
        leastRestFirst();
        thenByTheGreaterTier();
        thenByNumber();
    }

    private static void whichCallsWait() {
        CHECK.sentence("SENDING", "Calls that wait (in the state 0, or in the state 3 if no patrol drives to them)");
        PatrolDesk x = Desks.withLine(Desks.ofMembers(3), 3);
        waitingIs(x);
        x.call(0, 0, 12);
        waitingIs(x, 0);
        x.call(1, 8, 1);
        x.call(2, 8, 1);
        x.cancel(2);
        x.addPatrol(0, 1, false);
        x.pass(1);
        due("one waits for a tow", x.callOf(0, 5), 3);
        waitingIs(x, 0, 1);
        x.addPatrol(1, 1, true);
        x.pass(1);
        due("one drives to it for that", x.callOf(0, 6), 1);
        waitingIs(x, 1);
        due("it does not wait so", x.nearest(0), -4);
        x.pass(3);
        due("there is no garage for it", x.callOf(0, 6), -5);
        waitingIs(x, 0, 1);
        x.addGarage(0, 1);
        x.pass(1);
        due("it is towed", x.callOf(0, 5), 4);
        waitingIs(x, 1);
        PatrolDesk y = Desks.withLine(Desks.ofMembers(1), 3);
        y.addPatrol(0, 9, true);
        y.call(0, 1, 1);
        y.pass(1);
        due("one drives to it", y.callOf(0, 5), 1);
        waitingIs(y);
        y.pass(3);
        due("it is repaired", y.callOf(0, 5), 2);
        waitingIs(y);
        y.pass(5);
        due("it is done", y.callOf(0, 5), 5);
        waitingIs(y);
    }

    private static void leastRestFirst() {
        CHECK.sentence("SENDING", "are gone through by the rest of their bound (the bound minus the minutes that have"
                + " passed since they came; the least first, also below 0),");
        PatrolDesk x = Desks.ofTiers(2, 0, 0, 0, 2);
        x.setPromise(0, 30);
        x.setPromise(2, 31);
        x.call(0, 0, 1);
        x.call(1, 0, 1);
        waitingIs(x, 1, 0);
        x.pass(5);
        x.setPromise(0, 20);
        x.call(2, 0, 1);
        waitingIs(x, 2, 1, 0);
        x.setPromise(0, 24);
        x.call(3, 0, 1);
        due("rest of the first", x.callOf(0, 11), 10026);
        due("rest of the last", x.callOf(3, 11), 10024);
        waitingIs(x, 2, 3, 1, 0);
        x.pass(33);
        x.setPromise(2, 10);
        x.call(4, 0, 1);
        due("below 0", x.callOf(2, 11), 10000 - 13);
        due("below 0", x.callOf(0, 11), 10000 - 7);
        waitingIs(x, 2, 3, 1, 0, 4);
        x.addPatrol(0, 9, false);
        x.pass(1);
        due("the least goes first", x.callOf(2, 6), 0);
    }

    private static void thenByTheGreaterTier() {
        CHECK.sentence("SENDING", "then by the greater tier,");
        PatrolDesk x = Desks.ofTiers(0, 2, 1);
        for (int tier = 0; tier <= 2; tier++) {
            x.setPromise(tier, 50);
        }
        for (int member = 0; member < 3; member++) {
            x.call(member, 0, 1);
        }
        waitingIs(x, 1, 2, 0);
        x.addPatrol(0, 9, false);
        x.pass(1);
        due("the greatest tier goes first", x.callOf(1, 6), 0);
        // The rest goes ahead of the tier.
        PatrolDesk y = Desks.ofTiers(0, 2);
        y.setPromise(0, 50);
        y.setPromise(2, 51);
        y.call(0, 0, 1);
        y.call(1, 0, 1);
        waitingIs(y, 0, 1);
        // As much rest, of another bound, from another minute: the tier counts, not the number.
        y.cancel(0);
        y.pass(1);
        y.call(0, 0, 1);
        waitingIs(y, 1, 2);
    }

    private static void thenByNumber() {
        CHECK.sentence("SENDING", "then by their numbers.");
        PatrolDesk x = Desks.ofTiers(1, 1, 1);
        x.call(2, 0, 1);
        x.call(0, 0, 1);
        x.call(1, 0, 1);
        waitingIs(x, 0, 1, 2);
        x.addPatrol(0, 9, false);
        x.pass(1);
        due("the lowest goes first", x.callOf(0, 6), 0);
        waitingIs(x, 1, 2);
    }

    private static void whoWaitsForWhom() {
        waitsLikeTheOthers();
        onlyForThoseThatTowInItsRegion();
        theRegionIsWhereTheCarIs();
        eachOnce();
        thoseThatWaitAtTheBeginning();
        theFirstCallTakesTheNearest();
    }

    private static void waitsLikeTheOthers() {
        CHECK.sentence("SENDING", "A call that waits for a tow waits like the others,");
        PatrolDesk x = Desks.ofTiers(0, 2, 1);
        x.addPatrol(0, 1, false);
        x.call(0, 0, 12);
        x.pass(1);
        x.duty(0, false);
        due("it waits for a tow", x.callOf(0, 5), 3);
        x.call(1, 0, 12);
        waitingIs(x, 1, 0);
        x.pass(50);
        x.call(2, 0, 12);
        waitingIs(x, 1, 0, 2);
        x.addPatrol(0, 1, true);
        x.addGarage(0, 1);
        x.pass(1);
        due("the one of less rest goes first", x.callOf(1, 5), 4);
        x.cancel(2);
        x.setPromise(1, 240);
        x.call(2, 0, 1);
        x.fetch(0, 1);
        x.addGarage(0, 1);
        x.pass(1);
        due("the one that waits for a tow goes ahead of one of more rest", x.callOf(0, 5), 4);
        due("that one waits", x.callOf(3, 5), 0);
    }

    private static void onlyForThoseThatTowInItsRegion() {
        CHECK.sentence("SENDING", "but only for patrols that can tow and whose region is that of the area where its car is.");
        PatrolDesk x = Desks.withLine(Desks.ofMembers(1), 1);
        x.addPatrol(4, 1, true);
        x.addGarage(3, 1);
        x.call(0, 3, 12);
        x.pass(2);
        due("it waits for a tow", x.callOf(0, 5), 3);
        due("not for one of the next region, though it is there", x.nearest(0), -5);
        x.addPatrol(3, 9, false);
        due("not for one that can't tow", x.nearest(0), -5);
        x.pass(1);
        due("nobody is sent", x.callOf(0, 6), -5);
        x.addPatrol(0, 1, true);
        due("for one that can, of its region", x.nearest(0), 2);
        x.pass(1);
        due("that one is sent", x.callOf(0, 6), 2);
        due("from afar", x.patrol(2, 6), 3);
    }

    private static void theRegionIsWhereTheCarIs() {
        CHECK.sentence("SENDING", "whose region is that of the area where its car is.");
        PatrolDesk x = Desks.withLine(Desks.ofMembers(1), 1);
        x.addPatrol(3, 1, true);
        x.addGarage(5, 1);
        x.call(0, 3, 12);
        x.pass(3);
        due("the car was towed over the border", x.callOf(0, 1), 4);
        due("no more for the region from which it came", x.nearest(0), -5);
        x.addPatrol(7, 1, true);
        due("for the region where it is", x.nearest(0), 1);
        x.pass(4);
        due("towed from there", x.callOf(0, 5), 4);
        due("by that one", x.callOf(0, 6), 1);
    }

    private static void eachOnce() {
        CHECK.sentence("SENDING",
                "In each minute, the calls that wait at the beginning of this step are gone through in this order, each once.");
        PatrolDesk x = Desks.ofMembers(1);
        x.addPatrol(0, 2, false);
        x.addPatrol(0, 1, true);
        x.addGarage(0, 1);
        x.call(0, 0, 12);
        x.pass(1);
        due("it waits for a tow from now on", x.callOf(0, 5), 3);
        due("but has had its turn", x.patrol(1, 3), 0);
        x.pass(1);
        due("its turn in the next minute", x.callOf(0, 5), 4);
    }

    private static void thoseThatWaitAtTheBeginning() {
        CHECK.sentence("SENDING", "the calls that wait at the beginning of this step");
        PatrolDesk x = Desks.withLine(Desks.ofMembers(1), 2);
        x.addPatrol(0, 2, false);
        x.addPatrol(2, 1, true);
        x.addGarage(0, 1);
        x.call(0, 1, 12);
        x.pass(3);
        due("it came to wait for a tow in the step ahead", x.callOf(0, 8), 0);
        due("one drives to it already", x.callOf(0, 6), 1);
        due("two minutes", x.patrol(1, 6), 2);
    }

    private static void theFirstCallTakesTheNearest() {
        CHECK.sentence("SENDING", "are gone through in this order");
        PatrolDesk x = Desks.withLine(Desks.ofTiers(0, 2), 1);
        x.addPatrol(0, 9, false);
        x.addPatrol(3, 9, false);
        x.call(0, 0, 1);
        x.call(1, 1, 1);
        x.pass(1);
        due("the first one takes its nearest", x.callOf(1, 6), 0);
        due("the other one what is left", x.callOf(0, 6), 1);
        due("from afar", x.patrol(1, 6), 3);
    }

    private static void whoIsSent() {
        onlyFreeOnes();
        onlyOnesWithAWay();
        fromWhereItIs();
        mayTake();
        onlyOnesThatMay();
        nearestThenSkillThenNumber();
        nobodyIsThere();
    }

    private static void onlyFreeOnes() {
        CHECK.sentence("SENDING", "For each of them, of the patrols that are free,");
        // Other members keep the patrol 0 busy: it drives to 7, repairs in 2, or tows from 2 to 1.
        int[] areas = {7, 2, 2};
        int[] troubles = {1, 4, 5};
        for (int does = 1; does <= 3; does++) {
            PatrolDesk x = Desks.withLine(Desks.ofMembers(2), 1);
            x.addPatrol(2, 1, true);
            x.addGarage(1, 1);
            x.call(1, areas[does - 1], troubles[does - 1]);
            x.pass(1);
            due("what it does", x.patrol(0, 3), does);
            x.addPatrol(0, 1, false);
            x.call(0, 2, 1);
            due("the one that is free, if the other's doing is " + does, x.nearest(1), 1);
            x.pass(1);
            due("it is sent, if the other's doing is " + does, x.callOf(1, 6), 1);
        }
        PatrolDesk y = Desks.withLine(Desks.ofMembers(1), 1);
        y.addPatrol(2, 9, true);
        y.duty(0, false);
        y.call(0, 2, 1);
        due("nobody, as the one is off", y.nearest(0), -5);
        y.addPatrol(0, 1, false);
        due("the one that is not off", y.nearest(0), 1);
        y.pass(1);
        due("it is sent", y.callOf(0, 6), 1);
        y.pass(100);
        due("one that is off stays off", y.patrol(0, 3), 4);
    }

    private static void onlyOnesWithAWay() {
        CHECK.sentence("SENDING", "from whose area there is a way to that of the call,");
        PatrolDesk x = Desks.ofMembers(1);
        x.addPatrol(0, 9, true);
        x.call(0, 1, 1);
        due("no way", x.nearest(0), -5);
        x.pass(1);
        due("it waits", x.callOf(0, 5), 0);
        x.addRoad(0, 2, 60);
        due("a way to elsewhere", x.nearest(0), -5);
        x.addRoad(2, 1, 60);
        due("a way, however long", x.nearest(0), 0);
        x.pass(1);
        due("it is sent", x.patrol(0, 6), 120);
    }

    private static void fromWhereItIs() {
        CHECK.sentence("SENDING", "from whose area");
        PatrolDesk x = Desks.withLine(Desks.ofMembers(2), 1);
        x.addPatrol(0, 9, true);
        x.call(0, 3, 1);
        x.pass(9);
        due("it is away from home", x.patrol(0, 4), 3);
        x.addPatrol(1, 9, true);
        x.call(1, 3, 1);
        due("the one that is there, not the one of the nearer home", x.nearest(1), 0);
        x.pass(1);
        due("it is there at once", x.callOf(1, 5), 2);
    }

    private static void mayTake() {
        CHECK.sentence("SENDING", "A patrol may take a call that waits (state 0) if its region is that of the call's area"
                + " or next to it (the regions 0 and 1, and 1 and 2, are next to one another).");
        PatrolDesk x = Desks.ofMembers(1);
        x.addRoad(0, 4, 9);
        x.addRoad(4, 8, 9);
        x.addRoad(0, 8, 1);
        int[] homes = {0, 4, 8};
        for (int patrol = 0; patrol < 3; patrol++) {
            x.addPatrol(homes[patrol], 9, false);
        }
        int call = 0;
        for (int there = 0; there < 3; there++) {
            x.call(0, homes[there], 1);
            for (int patrol = 0; patrol < 3; patrol++) {
                for (int other = 0; other < 3; other++) {
                    x.duty(other, other == patrol);
                }
                int want = there == 2 - patrol && there != 1 ? -5 : patrol;
                due("of region " + patrol + " in region " + there, x.nearest(call), want);
            }
            x.cancel(call);
            call++;
        }
        // It may, whether it can repair or tow or neither.
        PatrolDesk y = Desks.ofMembers(1);
        y.addPatrol(0, 1, false);
        y.call(0, 0, 12);
        due("one that can do nothing there", y.nearest(0), 0);
    }

    private static void onlyOnesThatMay() {
        CHECK.sentence("SENDING", "and that may take it,");
        PatrolDesk x = Desks.withLine(Desks.ofMembers(1), 1);
        x.addRoad(3, 8, 1);
        x.addPatrol(3, 9, true);
        x.call(0, 8, 1);
        x.pass(60);
        due("one that may not is not sent", x.callOf(0, 5), 0);
        x.addPatrol(4, 1, false);
        due("the nearest of those that may", x.nearest(0), 1);
        x.pass(1);
        due("it is sent", x.callOf(0, 6), 1);
        due("the nearer one is not", x.patrol(0, 3), 0);
    }

    private static void nearestThenSkillThenNumber() {
        CHECK.sentence("SENDING", "the nearest is sent (of several the one with the greater skill,"
                + " then the one with the lower number),");
        PatrolDesk x = Desks.withLine(Desks.ofMembers(1), 1);
        int[] homes = {0, 3, 1, 3, 1};
        int[] skills = {9, 5, 4, 5, 3};
        for (int i = 0; i < 5; i++) {
            x.addPatrol(homes[i], skills[i], i % 2 == 0);
        }
        x.call(0, 2, 1);
        int[] turns = {1, 3, 2, 4, 0};
        for (int sent : turns) {
            due("nearest, then skill, then number", x.nearest(0), sent);
            PatrolDesk y = Desks.withLine(Desks.ofMembers(1), 1);
            for (int i = 0; i < 5; i++) {
                y.addPatrol(homes[i], skills[i], i % 2 == 0);
            }
            for (int before : turns) {
                if (before == sent) {
                    break;
                }
                y.duty(before, false);
            }
            y.call(0, 2, 1);
            y.pass(1);
            due("it is sent", y.callOf(0, 6), sent);
            x.duty(sent, false);
        }
        due("nobody is left", x.nearest(0), -5);
    }

    private static void nobodyIsThere() {
        CHECK.sentence("SENDING", "if there is one.");
        PatrolDesk x = Desks.ofMembers(2);
        x.call(0, 0, 1);
        due("no patrols at all", x.pass(100), 0);
        due("it waits on", x.callOf(0, 5), 0);
        x.addPatrol(0, 9, false);
        x.call(1, 4, 1);
        x.pass(1);
        due("one for the one", x.callOf(0, 6), 0);
        due("none for the other", x.callOf(1, 6), -5);
        due("which waits on", x.callOf(1, 5), 0);
    }

    private static void theDrive() {
        asManyMinutesAsTheDistance();
        thereAtOnce();
        toALaterCallInTheSameStep();
    }

    private static void asManyMinutesAsTheDistance() {
        CHECK.sentence("SENDING", "A patrol that is sent drives for as many minutes as the distance is;");
        int[] distances = {1, 2, 60, 61, 119};
        for (int distance : distances) {
            PatrolDesk x = Desks.ofMembers(1);
            x.addRoad(0, 1, Math.min(60, distance));
            x.addRoad(1, 2, Math.max(1, distance - 60));
            x.addPatrol(0, 9, false);
            x.call(0, distance > 60 ? 2 : 1, 1);
            x.pass(1);
            due("minutes left of " + distance, x.patrol(0, 6), distance);
            // A shorter road, later, does not make the drive shorter.
            x.addRoad(0, 2, 1);
            x.addRoad(0, 3, 1);
            x.pass(distance);
            due("there after " + distance, x.callOf(0, 5), 2);
            due("waited", x.callOf(0, 7), distance);
            PatrolDesk y = Desks.ofMembers(1);
            y.addRoad(0, 1, Math.min(60, distance));
            y.addRoad(1, 2, Math.max(1, distance - 60));
            y.addPatrol(0, 9, false);
            y.call(0, distance > 60 ? 2 : 1, 1);
            y.pass(distance);
            due("not yet there a minute before", y.callOf(0, 5), 1);
            due("the last minute", y.patrol(0, 6), 1);
        }
    }

    private static void thereAtOnce() {
        CHECK.sentence("SENDING", "if this is 0, it gets there at once (in the step in which it is sent;");
        PatrolDesk x = Desks.ofMembers(1);
        x.addPatrol(0, 9, false);
        x.call(0, 0, 1);
        x.pass(1);
        due("it repairs", x.patrol(0, 3), 2);
        due("all its minutes are left", x.patrol(0, 6), 5);
        due("got there", x.callOf(0, 8), 0);
        due("in its own minute", x.callOf(0, 7), 0);
        PatrolDesk y = Desks.ofMembers(1);
        y.addPatrol(0, 1, true);
        y.addGarage(0, 1);
        y.call(0, 0, 12);
        y.pass(1);
        due("it tows", y.patrol(0, 3), 3);
        due("all its minutes are left", y.patrol(0, 6), 1);
    }

    private static void toALaterCallInTheSameStep() {
        CHECK.sentence("SENDING", "if it is free again by that, it can be sent to a later call in the same step).");
        PatrolDesk x = Desks.withLine(Desks.ofTiers(2, 1, 0, 0), 4);
        x.addPatrol(0, 1, false);
        x.call(0, 0, 12);
        x.call(1, 0, 11);
        x.call(2, 1, 1);
        x.call(3, 0, 1);
        x.pass(1);
        due("the first waits for a tow", x.callOf(0, 5), 3);
        due("the second, too", x.callOf(1, 5), 3);
        due("it drives to the third", x.callOf(2, 6), 0);
        due("in the same minute", x.patrol(0, 6), 4);
        due("the fourth waits", x.callOf(3, 5), 0);
        due("both were got to in the minute 0", x.callOf(0, 8) + x.callOf(1, 8) + x.callOf(1, 7), 0);
    }

    // ---- MONEY

    private static void money() {
        costOfARepair();
        lessForACallback();
        moneyBack();
        noMoneyBackUpToTheBound();
        noMoneyBackOtherwise();
        bookedAsItHappens();
    }

    private static void costOfARepair() {
        CHECK.sentence("MONEY", "A repair costs 20 pounds for the tier 0, 10 for the tier 1, nothing for the tier 2,");
        int[] costs = {20, 10, 0};
        for (int tier = 0; tier <= 2; tier++) {
            for (int trouble : new int[] {1, 12}) {
                PatrolDesk x = Desks.ofTiers(tier);
                x.addPatrol(0, 9, false);
                x.call(0, 0, trouble);
                x.pass(61);
                due("repaired", x.callOf(0, 5), 5);
                due("of tier " + tier, x.member(0, 4), 1000 + costs[tier]);
                due("paid in all", x.count(16), costs[tier]);
            }
        }
        PatrolDesk x = Desks.ofTiers(0);
        x.addPatrol(0, 1, true);
        x.addGarage(0, 1);
        x.call(0, 0, 12);
        x.pass(2);
        due("towed", x.callOf(0, 5), 6);
        due("a tow costs nothing", x.member(0, 4), 1000);
    }

    private static void lessForACallback() {
        CHECK.sentence("MONEY", "and 5 less (0 at least) if it is a callback.");
        int[] costs = {20, 10, 0};
        int[] less = {15, 5, 0};
        for (int tier = 0; tier <= 2; tier++) {
            PatrolDesk x = Desks.ofTiers(tier);
            x.addPatrol(0, 9, false);
            x.call(0, 0, 1);
            x.pass(6);
            x.call(0, 0, 1);
            x.pass(6);
            due("a callback of tier " + tier, x.member(0, 4), 1000 + costs[tier] + less[tier]);
            due("paid in all", x.count(16), costs[tier] + less[tier]);
            x.call(0, 0, 12);
            x.cancel(2);
            due("a cancelled callback costs nothing", x.count(16), costs[tier] + less[tier]);
            Desks.passAll(x, 121);
            x.call(0, 0, 1);
            x.pass(6);
            due("later, no callback", x.count(16), costs[tier] + less[tier] + costs[tier]);
        }
        PatrolDesk y = Desks.ofTiers(0);
        y.addPatrol(0, 9, false);
        y.call(0, 0, 1);
        y.pass(6);
        y.addPatrol(4, 9, false);
        y.duty(0, false);
        y.call(0, 4, 1);
        y.pass(6);
        due("a callback that another one repairs", y.patrol(1, 7), 1);
        due("costs less, too", y.member(0, 4), 1035);
    }

    private static void moneyBack() {
        CHECK.sentence("MONEY", "A call whose first patrol got to it when it had waited for more minutes than its bound"
                + " earns its member 15 pounds back.");
        for (int waited = 18; waited <= 23; waited++) {
            PatrolDesk x = Desks.ofTiers(1, 1);
            x.setPromise(1, 10);
            x.setWeather(1);
            x.call(1, 0, 1);
            x.pass(waited);
            x.setPromise(1, 240);
            x.setWeather(5);
            x.addPatrol(0, 9, false);
            x.pass(1);
            int late = waited > 20 ? 1 : 0;
            due("waited", x.callOf(0, 7), waited);
            due("back for " + waited + " of 20", x.member(1, 4), 1000 - 15 * late);
            due("given back in all", x.count(17), 15 * late);
            due("late calls", x.member(1, 6), late);
            due("the other member", x.member(0, 4), 1000);
        }
    }

    private static void noMoneyBackUpToTheBound() {
        CHECK.sentence("MONEY", "when it had waited for more minutes than its bound");
        PatrolDesk x = Desks.ofTiers(2);
        x.setPromise(2, 240);
        x.setWeather(5);
        x.call(0, 0, 1);
        Desks.passAll(x, 290);
        x.addPatrol(0, 9, false);
        x.pass(1);
        due("290 of 290", x.count(17), 0);
        PatrolDesk y = Desks.ofTiers(2);
        y.setPromise(2, 240);
        y.setWeather(5);
        y.call(0, 0, 1);
        Desks.passAll(y, 291);
        y.addPatrol(0, 9, false);
        y.pass(1);
        due("291 of 290", y.count(17), 15);
    }

    private static void noMoneyBackOtherwise() {
        CHECK.sentence("MONEY", "A call whose first patrol got to it");
        PatrolDesk x = Desks.ofTiers(0, 1);
        x.setPromise(0, 10);
        x.call(0, 0, 1);
        x.call(1, 0, 12);
        x.pass(30);
        due("nobody got to it yet", x.count(17), 0);
        x.cancel(0);
        due("nor to one that is cancelled", x.count(17), 0);
        x.addPatrol(0, 1, false);
        x.pass(1);
        due("the first got to it in time", x.callOf(1, 7), 30);
        x.pass(60);
        x.addPatrol(0, 1, true);
        x.addGarage(0, 1);
        x.pass(1);
        due("another one tows it, late", x.callOf(1, 5), 4);
        due("but the first was in time", x.count(17), 0);
    }

    private static void bookedAsItHappens() {
        CHECK.sentence("MONEY", "Each of this is booked as it happens (the repair when it is done).");
        PatrolDesk x = Desks.ofTiers(0);
        x.setPromise(0, 10);
        x.call(0, 0, 2);
        x.pass(11);
        x.addPatrol(0, 9, false);
        due("nothing yet", x.member(0, 4), 1000);
        x.pass(1);
        due("money back as the patrol is there", x.member(0, 4), 985);
        x.pass(9);
        due("the repair is not done", x.member(0, 4), 985);
        due("nothing paid", x.count(16), 0);
        x.pass(1);
        due("the repair is done", x.member(0, 4), 1005);
        due("paid", x.count(16), 20);
        due("given back", x.count(17), 15);
        x.pass(50);
        due("once", x.member(0, 4), 1005);
    }
}
