/** Promises 1 to 7, 20 and 21: a new desk, the map, and who there is. */
public final class MapAndPeopleTest {
    private static final int LEAST = Integer.MIN_VALUE;
    private static final int MOST = Integer.MAX_VALUE;
    private static final Check CHECK = new Check("MapAndPeopleTest");

    public static void main(String[] args) {
        newDesk();
        addRoad();
        addRoadWhenFull();
        addMember();
        addPatrol();
        addGarage();
        setPromise();
        setWeather();
        distance();
        distanceAsRoadsAreAdded();
        wayAt();
        wayOverTheLowestAreas();
        CHECK.end();
    }

    private static void due(String what, long got, long want) {
        CHECK.due(what, got, want);
    }

    private static void newDesk() {
        PatrolDesk x = new PatrolDesk();
        for (int what = 0; what <= 24; what++) {
            int want = what == 19 ? 90 : what == 20 ? 60 : what == 21 ? 40 : 0;
            due("1: new count(" + what + ")", x.count(what), want);
        }
        due("1: new member", x.member(0, 0), -1);
        due("1: new patrol", x.patrol(0, 0), -1);
        due("1: new garage", x.garage(0, 0), -1);
        due("1: new callOf", x.callOf(0, 0), -1);
        due("1: new waiting", x.waiting(0), -5);
        due("1: new distance", x.distance(0, 1), -5);
        due("1: new undo", x.undo(), -5);
        due("1: new restore", x.restore(), -5);
        due("1: desks share nothing", x.addMember(0), 0);
        due("1: desks share nothing", new PatrolDesk().count(3), 0);
        due("UNKNOWN", PatrolDesk.UNKNOWN, -1);
        due("BAD_VALUE", PatrolDesk.BAD_VALUE, -2);
        due("FULL", PatrolDesk.FULL, -3);
        due("NOT_POSSIBLE", PatrolDesk.NOT_POSSIBLE, -4);
        due("NONE", PatrolDesk.NONE, -5);
    }

    private static void addRoad() {
        PatrolDesk x = new PatrolDesk();
        due("2: first road", x.addRoad(0, 11, 1), 0);
        due("2: second road", x.addRoad(11, 5, 60), 1);
        for (int wrong : new int[] {LEAST, -1, 12, MOST}) {
            due("2: area " + wrong, x.addRoad(wrong, 1, 0), -1);
            due("2: other " + wrong, x.addRoad(1, wrong, 0), -1);
            due("2: both " + wrong, x.addRoad(wrong, wrong, 5), -1);
        }
        for (int wrong : new int[] {LEAST, -1, 0, 61, MOST}) {
            due("2: minutes " + wrong, x.addRoad(1, 2, wrong), -2);
            due("2: minutes ahead of not possible " + wrong, x.addRoad(0, 11, wrong), -2);
        }
        due("2: to itself", x.addRoad(3, 3, 5), -2);
        due("2: there is one", x.addRoad(0, 11, 7), -4);
        due("2: there is one, other way round", x.addRoad(11, 0, 7), -4);
        due("2: errors add nothing", x.count(2), 2);
        due("2: errors record nothing", x.count(23), 2);
        due("2: errors change no distance", x.distance(0, 5), 61);
        due("2: an act", x.undo(), 1);
        due("2: undone", x.count(2), 1);
        due("2: distance undone", x.distance(0, 5), -5);
    }

    private static void addRoadWhenFull() {
        PatrolDesk x = new PatrolDesk();
        int number = 0;
        for (int a = 0; a < 12 && number < 30; a++) {
            for (int b = a + 1; b < 12 && number < 30; b++) {
                due("2: road " + number, x.addRoad(a, b, 60), number);
                number++;
            }
        }
        due("2: full", x.addRoad(10, 11, 1), -3);
        due("2: not possible ahead of full", x.addRoad(0, 1, 1), -4);
        due("2: bad value ahead of full", x.addRoad(10, 11, 61), -2);
        due("2: unknown ahead of full", x.addRoad(10, 12, 1), -1);
        due("2: still 30", x.count(2), 30);
        due("2: history is full", x.count(23), 4);
    }

    private static void addMember() {
        PatrolDesk x = new PatrolDesk();
        for (int wrong : new int[] {LEAST, -1, 3, MOST}) {
            due("3: tier " + wrong, x.addMember(wrong), -2);
        }
        due("3: nothing recorded", x.count(23), 0);
        for (int i = 0; i < 20; i++) {
            due("3: member " + i, x.addMember(i % 3), i);
        }
        due("3: full", x.addMember(0), -3);
        due("3: bad value ahead of full", x.addMember(3), -2);
        due("3: 20 members", x.count(3), 20);
        due("3: tier of 19", x.member(19, 0), 1);
        due("3: an act", x.undo(), 3);
        due("3: undone", x.member(19, 0), -1);
        due("3: again", x.addMember(2), 19);
        due("3: new tier of 19", x.member(19, 0), 2);
    }

    private static void addPatrol() {
        PatrolDesk x = new PatrolDesk();
        for (int wrong : new int[] {LEAST, -1, 12, MOST}) {
            due("4: area " + wrong, x.addPatrol(wrong, 0, true), -1);
        }
        for (int wrong : new int[] {LEAST, 0, 10, MOST}) {
            due("4: skill " + wrong, x.addPatrol(0, wrong, true), -2);
        }
        due("4: nothing recorded", x.count(23), 0);
        due("4: first", x.addPatrol(11, 9, true), 0);
        due("4: second", x.addPatrol(0, 1, false), 1);
        int[] first = {11, 9, 1, 0, 11, -5, -5, 0, 0, 0, 0, 0};
        int[] second = {0, 1, 0, 0, 0, -5, -5, 0, 0, 0, 0, 0};
        for (int what = 0; what < 12; what++) {
            due("4: patrol(0, " + what + ")", x.patrol(0, what), first[what]);
            due("4: patrol(1, " + what + ")", x.patrol(1, what), second[what]);
        }
        for (int i = 2; i < 6; i++) {
            due("4: patrol " + i, x.addPatrol(5, 5, false), i);
        }
        due("4: full", x.addPatrol(0, 1, true), -3);
        due("4: bad value ahead of full", x.addPatrol(0, 0, true), -2);
        due("4: unknown ahead of full", x.addPatrol(12, 0, true), -1);
        due("4: on duty", x.count(22), 6);
        due("4: an act", x.undo(), 3);
        due("4: undone", x.count(4), 5);
    }

    private static void addGarage() {
        PatrolDesk x = new PatrolDesk();
        for (int wrong : new int[] {LEAST, -1, 12, MOST}) {
            due("5: area " + wrong, x.addGarage(wrong, 0), -1);
        }
        for (int wrong : new int[] {LEAST, 0, 10, MOST}) {
            due("5: places " + wrong, x.addGarage(0, wrong), -2);
        }
        due("5: nothing recorded", x.count(23), 0);
        due("5: first", x.addGarage(11, 9), 0);
        due("5: second in the same area", x.addGarage(11, 1), 1);
        int[] first = {11, 9, 0, 0, 0};
        for (int what = 0; what < 5; what++) {
            due("5: garage(0, " + what + ")", x.garage(0, what), first[what]);
        }
        for (int i = 2; i < 5; i++) {
            due("5: garage " + i, x.addGarage(0, 2), i);
        }
        due("5: full", x.addGarage(0, 1), -3);
        due("5: bad value ahead of full", x.addGarage(0, 0), -2);
        due("5: unknown ahead of full", x.addGarage(-1, 0), -1);
        due("5: an act", x.undo(), 3);
        due("5: undone", x.count(5), 4);
    }

    private static void setPromise() {
        PatrolDesk x = new PatrolDesk();
        for (int wrong : new int[] {LEAST, -1, 3, MOST}) {
            due("6: tier " + wrong, x.setPromise(wrong, 60), -2);
        }
        for (int wrong : new int[] {LEAST, -1, 9, 241, MOST}) {
            due("6: minutes " + wrong, x.setPromise(1, wrong), -2);
        }
        due("6: so already", x.setPromise(0, 90), -5);
        due("6: so already", x.setPromise(1, 60), -5);
        due("6: so already", x.setPromise(2, 40), -5);
        due("6: nothing recorded", x.count(23), 0);
        due("6: least", x.setPromise(2, 10), 40);
        due("6: most", x.setPromise(2, 240), 10);
        due("6: told", x.count(21), 240);
        due("6: other tiers stay", x.count(20), 60);
        x.addMember(2);
        x.call(0, 0, 1);
        x.setPromise(2, 50);
        due("6: not for calls that came", x.callOf(0, 3), 240);
        x.cancel(0);
        x.call(0, 0, 1);
        due("6: for calls from now on", x.callOf(1, 3), 50);
        x.undo();
        x.undo();
        due("6: an act", x.undo(), 1);
        due("6: undone", x.count(21), 240);
    }

    private static void setWeather() {
        PatrolDesk x = new PatrolDesk();
        for (int wrong : new int[] {LEAST, -1, 6, MOST}) {
            due("7: degree " + wrong, x.setWeather(wrong), -2);
        }
        due("7: so already", x.setWeather(0), -5);
        due("7: nothing recorded", x.count(23), 0);
        due("7: previous", x.setWeather(5), 0);
        due("7: previous", x.setWeather(2), 5);
        due("7: told", x.count(1), 2);
        x.addMember(0);
        x.call(0, 0, 1);
        due("7: ten minutes a degree", x.callOf(0, 3), 110);
        x.setWeather(0);
        due("7: not for calls that came", x.callOf(0, 3), 110);
        due("7: an act", x.undo(), 3);
        due("7: undone", x.count(1), 2);
    }

    private static void distance() {
        PatrolDesk x = new PatrolDesk();
        x.addRoad(0, 1, 10);
        x.addRoad(1, 2, 10);
        x.addRoad(0, 2, 21);
        x.addRoad(5, 6, 60);
        due("20: over two roads", x.distance(0, 2), 20);
        due("20: both directions", x.distance(2, 0), 20);
        due("20: to itself", x.distance(7, 7), 0);
        due("20: no way", x.distance(0, 5), -5);
        due("20: a road", x.distance(6, 5), 60);
        for (int wrong : new int[] {LEAST, -1, 12, MOST}) {
            due("20: area " + wrong, x.distance(wrong, 0), -1);
            due("20: other " + wrong, x.distance(0, wrong), -1);
            due("20: both " + wrong, x.distance(wrong, wrong), -1);
        }
        due("20: no act", x.count(23), 4);
    }

    private static void distanceAsRoadsAreAdded() {
        PatrolDesk x = new PatrolDesk();
        for (int a = 0; a < 11; a++) {
            x.addRoad(a, a + 1, 60);
        }
        due("20: the longest way", x.distance(0, 11), 660);
        x.addRoad(3, 9, 1);
        due("20: a shorter way, from afar", x.distance(0, 11), 301);
        due("20: a shorter way, backwards", x.distance(8, 2), 121);
        due("20: the old way is shorter", x.distance(5, 6), 60);
        x.undo();
        due("20: the road undone", x.distance(0, 11), 660);
    }

    private static void wayAt() {
        PatrolDesk x = new PatrolDesk();
        x.addRoad(4, 2, 5);
        x.addRoad(2, 9, 5);
        x.addRoad(4, 9, 11);
        int[] way = {4, 2, 9, -5, -5};
        for (int place = 0; place < 5; place++) {
            due("21: wayAt(4, 9, " + place + ")", x.wayAt(4, 9, place), way[place]);
        }
        due("21: backwards", x.wayAt(9, 4, 0), 9);
        due("21: backwards", x.wayAt(9, 4, 2), 4);
        due("21: from itself", x.wayAt(7, 7, 0), 7);
        due("21: from itself, no more", x.wayAt(7, 7, 1), -5);
        due("21: no way", x.wayAt(4, 5, 0), -5);
        due("21: far behind", x.wayAt(4, 9, MOST), -5);
        due("21: negative", x.wayAt(4, 9, -1), -2);
        due("21: negative", x.wayAt(4, 5, LEAST), -2);
        for (int wrong : new int[] {LEAST, -1, 12, MOST}) {
            due("21: from " + wrong, x.wayAt(wrong, 0, -1), -1);
            due("21: to " + wrong, x.wayAt(0, wrong, -1), -1);
        }
        PatrolDesk line = new PatrolDesk();
        for (int a = 0; a < 11; a++) {
            line.addRoad(a, a + 1, 1);
        }
        due("21: the twelfth area", line.wayAt(0, 11, 11), 11);
        due("21: no thirteenth", line.wayAt(0, 11, 12), -5);
    }

    private static void wayOverTheLowestAreas() {
        PatrolDesk x = new PatrolDesk();
        // 0-1-9-11 and 0-2-3-11 take as long: 1 is lower than 2, whatever follows.
        x.addRoad(0, 2, 1);
        x.addRoad(2, 3, 1);
        x.addRoad(3, 11, 1);
        x.addRoad(0, 1, 1);
        x.addRoad(1, 9, 1);
        x.addRoad(9, 11, 1);
        due("21: lowest first", x.wayAt(0, 11, 1), 1);
        due("21: then what follows", x.wayAt(0, 11, 2), 9);
        due("21: backwards from its own beginning", x.wayAt(11, 0, 1), 3);
        due("21: backwards from its own beginning", x.wayAt(11, 0, 2), 2);
        // More roads over a lower area, as many minutes.
        PatrolDesk y = new PatrolDesk();
        y.addRoad(4, 8, 4);
        y.addRoad(4, 5, 2);
        y.addRoad(5, 8, 2);
        due("21: the lower area beside the road itself", y.wayAt(4, 8, 1), 5);
        due("21: fewest minutes go ahead of low areas", y.wayAt(8, 4, 1), 4);
    }
}
