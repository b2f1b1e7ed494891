/** The document's terms, sentence by sentence: THE MAP, MEMBERS, PATROLS AND GARAGES, CALLS. */
public final class TermsWhoTest {
    private static final Check CHECK = new Check("TermsWhoTest");
    private static final int[] REGIONS = {0, 0, 0, 0, 1, 1, 1, 1, 2, 2, 2, 2};

    public static void main(String[] args) {
        theMap();
        members();
        patrolsAndGarages();
        calls();
        CHECK.end();
    }

    private static void due(String what, long got, long want) {
        CHECK.due(what, got, want);
    }

    // ---- THE MAP

    private static void theMap() {
        twelveAreas();
        threeRegions();
        minutesOfARoad();
        thirtyRoads();
        oneRoadBetweenTwoAreas();
        minutesOfAWay();
        fewestMinutes();
    }

    private static void twelveAreas() {
        CHECK.sentence("THE MAP", "There are 12 areas, numbered from 0, in 3 regions:");
        PatrolDesk x = new PatrolDesk();
        for (int area = 0; area < 12; area++) {
            due("area " + area, x.distance(area, area), 0);
        }
        due("area -1", x.distance(-1, -1), -1);
        due("area 12", x.distance(12, 12), -1);
        due("a road to the area 11", x.addRoad(0, 11, 5), 0);
        due("a road to the area 12", x.addRoad(0, 12, 5), -1);
        due("a road to the area -1", x.addRoad(0, -1, 5), -1);
    }

    private static void threeRegions() {
        CHECK.sentence("THE MAP",
                "the areas 0 to 3 are the region 0, 4 to 7 the region 1, 8 to 11 the region 2.");
        for (int home = 0; home < 12; home++) {
            for (int area = 0; area < 12; area++) {
                PatrolDesk x = Desks.withLine(Desks.ofMembers(1), 1);
                x.addPatrol(home, 1, true);
                x.addGarage(area, 1);
                x.call(0, area, 12);
                String which = "home " + home + ", area " + area;
                int apart = Math.abs(REGIONS[home] - REGIONS[area]);
                due("nearest, " + which, x.nearest(0), apart <= 1 ? 0 : -5);
                x.pass(1 + Math.abs(home - area));
                due("state, " + which, x.callOf(0, 5), apart == 0 ? 4 : apart == 1 ? 3 : 0);
            }
        }
    }

    private static void minutesOfARoad() {
        CHECK.sentence("THE MAP",
                "Roads lead between areas; a road takes 1 to 60 minutes, in both directions.");
        PatrolDesk x = new PatrolDesk();
        due("0 minutes", x.addRoad(3, 7, 0), -2);
        due("61 minutes", x.addRoad(3, 7, 61), -2);
        due("1 minute", x.addRoad(3, 7, 1), 0);
        due("60 minutes", x.addRoad(9, 2, 60), 1);
        due("there", x.distance(3, 7), 1);
        due("and back", x.distance(7, 3), 1);
        due("from the greater one", x.distance(9, 2), 60);
        due("from the lower one", x.distance(2, 9), 60);
        due("the way there", x.wayAt(3, 7, 1), 7);
        due("the way back", x.wayAt(7, 3, 1), 3);
    }

    private static void thirtyRoads() {
        CHECK.sentence("THE MAP", "There are at most 30 roads, numbered from 0;");
        PatrolDesk x = Desks.withRoads(new PatrolDesk(), 28);
        due("the 29th", x.addRoad(9, 10, 2), 28);
        due("the 30th", x.addRoad(9, 11, 2), 29);
        due("a 31st", x.addRoad(10, 11, 1), -3);
        due("30 roads", x.count(2), 30);
        PatrolDesk y = new PatrolDesk();
        due("the first", y.addRoad(9, 10, 2), 0);
    }

    private static void oneRoadBetweenTwoAreas() {
        CHECK.sentence("THE MAP", "there is at most one between the same two areas.");
        PatrolDesk x = new PatrolDesk();
        x.addRoad(5, 2, 9);
        due("a second one", x.addRoad(5, 2, 8), -4);
        due("a second one, from the other end", x.addRoad(2, 5, 8), -4);
        due("one of the same minutes", x.addRoad(2, 5, 9), -4);
        due("the minutes stay", x.distance(2, 5), 9);
        due("one road", x.count(2), 1);
        due("though a way goes over another area", x.addRoad(2, 3, 1) + x.addRoad(3, 4, 1), 3);
        due("a road beside that way", x.addRoad(2, 4, 1), 3);
    }

    private static void minutesOfAWay() {
        CHECK.sentence("THE MAP", "A way goes over roads; the minutes of a way are those of its roads.");
        PatrolDesk x = new PatrolDesk();
        x.addRoad(0, 4, 60);
        x.addRoad(4, 8, 1);
        x.addRoad(8, 11, 7);
        due("of two roads", x.distance(0, 8), 61);
        due("of three roads", x.distance(11, 0), 68);
        due("no road, no way, though in the same region", x.distance(0, 1), -5);
        due("the areas of the way", x.wayAt(0, 11, 2), 8);
    }

    private static void fewestMinutes() {
        CHECK.sentence("THE MAP", "The distance of two areas is the fewest minutes of a way between them"
                + " (0 from an area to itself; there may be none).");
        PatrolDesk x = new PatrolDesk();
        due("to itself, without roads", x.distance(6, 6), 0);
        due("none, without roads", x.distance(6, 7), -5);
        x.addRoad(6, 7, 10);
        due("the road", x.distance(6, 7), 10);
        x.addRoad(6, 0, 4);
        x.addRoad(0, 7, 6);
        due("as many over two", x.distance(6, 7), 10);
        x.addRoad(0, 1, 1);
        x.addRoad(1, 7, 4);
        due("fewer over three", x.distance(6, 7), 9);
        due("to itself, with roads", x.distance(6, 6), 0);
        due("still none to another", x.distance(6, 5), -5);
        due("the most minutes", Desks.withLine(new PatrolDesk(), 60).distance(11, 0), 660);
    }

    // ---- MEMBERS

    private static void members() {
        twentyMembers();
        tiers();
        promisesAtFirst();
        weather();
        bound();
    }

    private static void twentyMembers() {
        CHECK.sentence("MEMBERS", "There are at most 20 members, numbered from 0.");
        PatrolDesk x = new PatrolDesk();
        due("the first", x.addMember(0), 0);
        for (int i = 1; i < 19; i++) {
            x.addMember(0);
        }
        due("the 20th", x.addMember(0), 19);
        due("a 21st", x.addMember(0), -3);
        due("20 members", x.count(3), 20);
        due("a call of the last one", x.call(19, 0, 1), 0);
        due("a call of one more", x.call(20, 0, 1), -1);
    }

    private static void tiers() {
        CHECK.sentence("MEMBERS", "A member has a tier (0, 1 or 2).");
        PatrolDesk x = new PatrolDesk();
        due("tier -1", x.addMember(-1), -2);
        due("tier 3", x.addMember(3), -2);
        for (int tier = 0; tier <= 2; tier++) {
            due("of tier " + tier, x.addMember(tier), tier);
            due("tier " + tier, x.member(tier, 0), tier);
        }
    }

    private static void promisesAtFirst() {
        CHECK.sentence("MEMBERS", "Each tier has a promise (in minutes): at first 90, 60 and 40.");
        PatrolDesk x = Desks.ofTiers(0, 1, 2);
        int[] first = {90, 60, 40};
        for (int tier = 0; tier <= 2; tier++) {
            due("promise of tier " + tier, x.count(19 + tier), first[tier]);
            x.call(tier, 0, 1);
            due("bound for tier " + tier, x.callOf(tier, 3), first[tier]);
        }
    }

    private static void weather() {
        CHECK.sentence("MEMBERS", "The weather is from 0 (calm) to 5 (at first 0).");
        PatrolDesk x = new PatrolDesk();
        due("at first", x.count(1), 0);
        due("-1", x.setWeather(-1), -2);
        due("6", x.setWeather(6), -2);
        due("5", x.setWeather(5), 0);
        due("calm", x.setWeather(0), 5);
    }

    private static void bound() {
        CHECK.sentence("MEMBERS", "The bound of a call is the promise of the tier of its member plus 10 minutes"
                + " for each degree of the weather, both as they are when the call comes.");
        for (int degree = 0; degree <= 5; degree++) {
            PatrolDesk x = Desks.ofTiers(0, 1, 2);
            x.setWeather(degree);
            for (int tier = 0; tier <= 2; tier++) {
                x.call(tier, 0, 1);
            }
            x.setWeather(degree == 0 ? 1 : degree - 1);
            x.setPromise(0, 10);
            x.setPromise(1, 10);
            x.setPromise(2, 240);
            due("tier 0, degree " + degree, x.callOf(0, 3), 90 + 10 * degree);
            due("tier 1, degree " + degree, x.callOf(1, 3), 60 + 10 * degree);
            due("tier 2, degree " + degree, x.callOf(2, 3), 40 + 10 * degree);
        }
        PatrolDesk x = Desks.ofTiers(2, 2);
        x.setPromise(2, 10);
        x.call(0, 0, 1);
        x.setPromise(2, 240);
        x.setWeather(5);
        x.call(1, 0, 1);
        due("the least", x.callOf(0, 3), 10);
        due("the most", x.callOf(1, 3), 290);
    }

    // ---- PATROLS AND GARAGES

    private static void patrolsAndGarages() {
        sixPatrols();
        whatAPatrolHas();
        theRegionIsThatOfTheHome();
        whatAPatrolDoes();
        fiveGarages();
        placesOfAGarage();
    }

    private static void sixPatrols() {
        CHECK.sentence("PATROLS AND GARAGES", "There are at most 6 patrols, numbered from 0.");
        PatrolDesk x = new PatrolDesk();
        for (int i = 0; i < 6; i++) {
            due("patrol " + i, x.addPatrol(i, 1, false), i);
        }
        due("a 7th", x.addPatrol(0, 1, false), -3);
        due("6 patrols", x.count(4), 6);
        due("the last one", x.patrol(5, 0), 5);
        due("none behind it", x.patrol(6, 0), -1);
    }

    private static void whatAPatrolHas() {
        CHECK.sentence("PATROLS AND GARAGES", "A patrol has a home area, a region (that of its home), a skill (1 to 9),"
                + " whether it can tow, and an area where it is (its home at first).");
        PatrolDesk x = new PatrolDesk();
        due("skill 0", x.addPatrol(0, 0, false), -2);
        due("skill 10", x.addPatrol(0, 10, false), -2);
        x.addPatrol(7, 1, true);
        x.addPatrol(11, 9, false);
        int[] one = {7, 1, 1, 0, 7};
        int[] two = {11, 9, 0, 0, 11};
        for (int what = 0; what <= 4; what++) {
            due("patrol(0, " + what + ")", x.patrol(0, what), one[what]);
            due("patrol(1, " + what + ")", x.patrol(1, what), two[what]);
        }
    }

    private static void theRegionIsThatOfTheHome() {
        CHECK.sentence("PATROLS AND GARAGES", "a region (that of its home)");
        PatrolDesk x = Desks.withLine(Desks.ofMembers(2), 1);
        x.addPatrol(3, 1, true);
        x.addGarage(4, 1);
        x.call(0, 4, 1);
        x.pass(7);
        due("it is in the region 1", x.patrol(0, 4), 4);
        x.call(0, 8, 1);
        due("it does not take one of the region 2", x.nearest(1), -5);
        x.cancel(1);
        x.call(0, 4, 12);
        x.pass(1);
        due("it does not tow in the region 1", x.callOf(2, 5), 3);
        x.call(1, 3, 12);
        x.pass(2);
        due("it tows in the region 0", x.callOf(3, 5), 4);
    }

    private static void whatAPatrolDoes() {
        CHECK.sentence("PATROLS AND GARAGES",
                "It is free (at first), drives to a call, repairs, or tows; or it is off.");
        PatrolDesk x = Desks.withLine(Desks.ofMembers(2), 1);
        x.addPatrol(0, 1, true);
        x.addGarage(1, 1);
        due("free at first", x.patrol(0, 3), 0);
        x.duty(0, false);
        due("off", x.patrol(0, 3), 4);
        x.duty(0, true);
        due("free again", x.patrol(0, 3), 0);
        x.call(0, 1, 1);
        x.pass(1);
        due("it drives", x.patrol(0, 3), 1);
        x.pass(1);
        due("it repairs", x.patrol(0, 3), 2);
        x.pass(5);
        due("free after it", x.patrol(0, 3), 0);
        x.call(1, 1, 12);
        x.pass(1);
        due("it tows", x.patrol(0, 3), 3);
        x.pass(1);
        due("free after that", x.patrol(0, 3), 0);
    }

    private static void fiveGarages() {
        CHECK.sentence("PATROLS AND GARAGES", "There are at most 5 garages, numbered from 0, each in an area,");
        PatrolDesk x = new PatrolDesk();
        for (int i = 0; i < 5; i++) {
            due("garage " + i, x.addGarage(11 - i, 1), i);
            due("its area", x.garage(i, 0), 11 - i);
        }
        due("a 6th", x.addGarage(0, 1), -3);
        due("5 garages", x.count(5), 5);
        due("none behind the last one", x.garage(5, 0), -1);
    }

    private static void placesOfAGarage() {
        CHECK.sentence("PATROLS AND GARAGES", "with 1 to 9 places (at first all are free);"
                + " a car that was towed there takes a place until it is fetched.");
        PatrolDesk x = Desks.ofMembers(10);
        due("0 places", x.addGarage(0, 0), -2);
        due("10 places", x.addGarage(0, 10), -2);
        x.addGarage(0, 9);
        x.addPatrol(0, 1, true);
        due("all are free at first", x.garage(0, 2), 0);
        for (int member = 0; member < 10; member++) {
            x.call(member, 0, 12);
        }
        due("nine are towed, one a minute", x.pass(10), 9);
        due("it is full", x.garage(0, 2), 9);
        due("the tenth waits", x.callOf(9, 5), 3);
        due("and waits", x.pass(100), 0);
        x.fetch(0, 1);
        due("a place is free", x.pass(2), 1);
        due("it is full again", x.garage(0, 2), 9);
        due("all are fetched", x.fetch(0, 9), 0);
        PatrolDesk y = Desks.ofMembers(2);
        y.addGarage(0, 1);
        y.addPatrol(0, 1, true);
        y.call(0, 0, 12);
        y.call(1, 0, 12);
        due("one place", y.pass(50), 1);
        due("the other waits", y.callOf(1, 5), 3);
    }

    // ---- CALLS

    private static void calls() {
        fortyCalls();
        whatACallHas();
        statesOfACall();
        drivenToWhileItWaitsForATow();
        minutesWaited();
        minutesWaitedWhenSeveralGotToIt();
        callback();
        callbackAfterTheLatestRepair();
        callbackInWhateverArea();
        countsAgainstTheRepairer();
    }

    private static void fortyCalls() {
        CHECK.sentence("CALLS", "There are at most 40 calls, numbered from 0.");
        PatrolDesk x = Desks.ofMembers(2);
        for (int i = 0; i < 39; i++) {
            due("call " + i, x.call(0, 0, 1), i);
            x.cancel(i);
        }
        due("the 40th", x.call(0, 0, 1), 39);
        due("a 41st", x.call(1, 0, 1), -3);
        x.cancel(39);
        due("a cancelled one makes no room", x.call(1, 0, 1), -3);
        PatrolDesk y = Desks.ofMembers(1);
        y.addPatrol(0, 9, false);
        y.call(0, 0, 1);
        y.pass(6);
        for (int i = 1; i < 40; i++) {
            y.call(0, 11, 1);
            due("a callback, each of them to the 40th", y.callOf(i, 10), 1);
            y.cancel(i);
        }
        due("40 calls", x.count(6), 40);
        due("the 40th is told", x.callOf(39, 5), 7);
        due("none behind it", x.callOf(40, 5), -1);
    }

    private static void whatACallHas() {
        CHECK.sentence("CALLS",
                "A call has a member, an area, a trouble (1 to 12), a bound, and the minute in which it came.");
        PatrolDesk x = Desks.ofTiers(0, 1);
        x.pass(9);
        due("trouble 0", x.call(1, 5, 0), -2);
        due("trouble 13", x.call(1, 5, 13), -2);
        x.call(1, 5, 12);
        x.call(0, 11, 1);
        x.pass(3);
        int[] one = {1, 5, 12, 60, 9};
        int[] two = {0, 11, 1, 90, 9};
        for (int what = 0; what <= 4; what++) {
            due("callOf(0, " + what + ")", x.callOf(0, what), one[what]);
            due("callOf(1, " + what + ")", x.callOf(1, what), two[what]);
        }
    }

    private static void statesOfACall() {
        CHECK.sentence("CALLS", "It is in one of these states: 0 it waits (at first), 1 a patrol drives to it,"
                + " 2 it is repaired, 3 it waits for a tow (a patrol may drive to it for that already), 4 it is towed,"
                + " 5 it is done (repaired), 6 it is done (towed to a garage), 7 it was cancelled.");
        PatrolDesk x = Desks.withLine(Desks.ofMembers(2), 1);
        x.addPatrol(0, 1, false);
        x.call(0, 1, 4);
        due("it waits", x.callOf(0, 5), 0);
        x.pass(1);
        due("a patrol drives to it", x.callOf(0, 5), 1);
        x.pass(1);
        due("it is repaired", x.callOf(0, 5), 2);
        x.pass(19);
        due("until the last minute", x.callOf(0, 5), 2);
        x.pass(1);
        due("it is done", x.callOf(0, 5), 5);
        x.call(0, 1, 5);
        x.pass(1);
        due("it waits for a tow", x.callOf(1, 5), 3);
        x.addGarage(1, 1);
        x.addPatrol(1, 1, true);
        x.pass(1);
        due("it is towed", x.callOf(1, 5), 4);
        x.pass(1);
        due("it is done by a tow", x.callOf(1, 5), 6);
        x.call(1, 11, 1);
        x.cancel(2);
        due("it was cancelled", x.callOf(2, 5), 7);
    }

    private static void drivenToWhileItWaitsForATow() {
        CHECK.sentence("CALLS", "3 it waits for a tow (a patrol may drive to it for that already)");
        PatrolDesk x = Desks.withLine(Desks.ofMembers(1), 3);
        x.addPatrol(0, 1, false);
        x.addGarage(0, 1);
        x.call(0, 0, 12);
        x.pass(1);
        due("nobody drives to it", x.callOf(0, 6), -5);
        x.addPatrol(1, 1, true);
        x.pass(3);
        due("one drives to it", x.callOf(0, 6), 1);
        due("it still waits for a tow", x.callOf(0, 5), 3);
        x.pass(1);
        due("it is towed", x.callOf(0, 5), 4);
    }

    private static void minutesWaited() {
        CHECK.sentence("CALLS", "The minutes waited of a call are the number of the minute in which a patrol first got"
                + " to it (or of the present one, if none did yet; or of that in which it was cancelled)"
                + " minus the number of the minute in which it came.");
        PatrolDesk x = Desks.withLine(Desks.ofMembers(4), 4);
        x.pass(10);
        x.call(0, 0, 1);
        due("none yet, in its own minute", x.callOf(0, 7), 0);
        x.pass(3);
        due("none yet", x.callOf(0, 7), 3);
        x.addPatrol(1, 9, false);
        x.pass(1);
        due("one drives to it", x.callOf(0, 7), 4);
        x.pass(4);
        due("one got to it in the minute 17", x.callOf(0, 7), 7);
        x.call(1, 11, 1);
        x.pass(3);
        due("it waits no more", x.callOf(0, 7), 7);
        due("the other is cancelled in the minute 21", x.cancel(1), 3);
        x.call(2, 11, 1);
        due("one is cancelled in its own minute", x.cancel(2), 0);
        x.pass(9);
        due("nor does the cancelled one wait", x.callOf(1, 7), 3);
        due("nor does the other", x.callOf(2, 7), 0);
        x.call(3, 0, 1);
        x.pass(1);
        due("one that is got to in its own minute", x.callOf(3, 7), 0);
        x.pass(5);
        due("still", x.callOf(3, 7), 0);
    }

    private static void minutesWaitedWhenSeveralGotToIt() {
        CHECK.sentence("CALLS", "in which a patrol first got to it");
        PatrolDesk x = Desks.withLine(Desks.ofMembers(1), 4);
        x.addPatrol(1, 1, false);
        x.addGarage(0, 1);
        x.call(0, 0, 12);
        x.pass(5);
        due("got to in the minute 4", x.callOf(0, 7), 4);
        x.addPatrol(2, 1, true);
        x.pass(9);
        due("the other is there", x.callOf(0, 5), 4);
        due("waited for the first one", x.callOf(0, 7), 4);
        x.pass(1);
        due("done", x.callOf(0, 5), 6);
        due("still", x.callOf(0, 7), 4);
    }

    /** A call of the member 0, repaired by the patrol 0 in the area 0 in the minute 5; it is the minute 6. */
    private static PatrolDesk repairedInMinuteFive() {
        PatrolDesk x = Desks.withLine(Desks.ofMembers(2), 1);
        x.addPatrol(0, 9, true);
        x.call(0, 0, 1);
        x.pass(6);
        due("done in the minute", x.callOf(0, 9), 5);
        return x;
    }

    private static void callback() {
        CHECK.sentence("CALLS", "A call is a callback if the latest call of the same member that was repaired (state 5),"
                + " in whatever area, was done 120 minutes before it came or less.");
        for (int before : new int[] {1, 2, 60, 119, 120, 121, 122, 240}) {
            PatrolDesk x = repairedInMinuteFive();
            Desks.passAll(x, before - 1);
            x.call(0, 0, 1);
            due("done " + before + " minutes before", x.callOf(1, 10), before <= 120 ? 1 : 0);
            due("against the patrol", x.patrol(0, 9), before <= 120 ? 1 : 0);
        }
        PatrolDesk x = repairedInMinuteFive();
        due("the first one is none", x.callOf(0, 10), 0);
        x.call(1, 0, 1);
        due("one of another member is none", x.callOf(1, 10), 0);
        x.call(0, 0, 1);
        Desks.passAll(x, 130);
        due("one stays a callback as minutes pass", x.callOf(2, 10), 1);
    }

    private static void callbackAfterTheLatestRepair() {
        CHECK.sentence("CALLS", "the latest call of the same member that was repaired (state 5)");
        PatrolDesk x = repairedInMinuteFive();
        x.call(0, 0, 1);
        x.cancel(1);
        x.addGarage(0, 1);
        x.addPatrol(0, 1, true);
        x.duty(0, false);
        x.call(0, 0, 12);
        x.pass(2);
        due("a towed one", x.callOf(2, 5), 6);
        x.call(0, 0, 1);
        due("neither the cancelled nor the towed one is repaired", x.callOf(3, 10), 1);
        due("against the repairer", x.patrol(0, 9), 3);
        due("not against the one that towed", x.patrol(1, 9), 0);
        x.pass(120);
        due("repaired by the other, in the minute 13", x.callOf(3, 9), 13);
        x.call(0, 0, 1);
        due("the latest is 115 minutes ago, the first 123", x.callOf(4, 10), 1);
        due("against the latest repairer", x.patrol(1, 9), 1);
        due("not against the first", x.patrol(0, 9), 3);
    }

    private static void callbackInWhateverArea() {
        CHECK.sentence("CALLS", "in whatever area");
        for (int area = 0; area < 12; area++) {
            PatrolDesk x = repairedInMinuteFive();
            x.call(0, area, 1);
            due("in the area " + area, x.callOf(1, 10), 1);
        }
    }

    private static void countsAgainstTheRepairer() {
        CHECK.sentence("CALLS",
                "It counts against the patrol that repaired that one, as it comes (and still if it is cancelled).");
        PatrolDesk x = repairedInMinuteFive();
        x.addPatrol(3, 9, true);
        due("none yet", x.patrol(0, 9), 0);
        x.call(0, 3, 1);
        due("as it comes", x.patrol(0, 9), 1);
        x.pass(1);
        due("the other is there", x.callOf(1, 6), 1);
        due("not against the one that is there", x.patrol(1, 9), 0);
        x.pass(5);
        due("once only", x.patrol(0, 9), 1);
        PatrolDesk y = repairedInMinuteFive();
        y.call(0, 11, 1);
        y.cancel(1);
        due("still if it is cancelled", y.patrol(0, 9), 1);
        due("it was one", y.callOf(1, 10), 1);
    }
}
