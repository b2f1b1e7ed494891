/** Promises 13, 24 and 25: tows, borders and garages. */
public final class TowingTest {
    private static final Check CHECK = new Check("TowingTest");

    public static void main(String[] args) {
        towInOneRegion();
        towWithinAnArea();
        nearestGarageWithAFreePlace();
        placesUnderWay();
        lowerPatrolFirst();
        noGarage();
        noWayToAGarage();
        relayAtTheBorder();
        nextAreaAloneOverTheBorder();
        garageAtTheBorder();
        wayThatComesBack();
        reservedAsFarAsTheBorder();
        shortestWayOverLowAreas();
        towOnlyInItsOwnRegion();
        whatGarageIsAsked();
        CHECK.end();
    }

    private static void due(String what, long got, long want) {
        CHECK.due(what, got, want);
    }

    private static PatrolDesk deskOfMembers(int members) {
        PatrolDesk x = new PatrolDesk();
        for (int i = 0; i < members; i++) {
            x.addMember(0);
        }
        return x;
    }

    private static void garageIs(PatrolDesk x, int garage, int cars, int underWay, int towed) {
        due("24: cars in " + garage, x.garage(garage, 2), cars);
        due("24: under way to " + garage, x.garage(garage, 3), underWay);
        due("24: towed to " + garage, x.garage(garage, 4), towed);
    }

    private static void towInOneRegion() {
        PatrolDesk x = deskOfMembers(1);
        x.addRoad(0, 1, 3);
        x.addRoad(1, 2, 4);
        x.addPatrol(0, 1, true);
        x.addGarage(2, 1);
        x.call(0, 0, 12);
        x.pass(1);
        due("13: towed at once", x.callOf(0, 5), 4);
        due("13: twice the minutes", x.patrol(0, 6), 14);
        due("23: what it does", x.patrol(0, 3), 3);
        due("25: by the patrol", x.callOf(0, 6), 0);
        garageIs(x, 0, 0, 1, 0);
        x.pass(13);
        due("23: where it came from", x.patrol(0, 4), 0);
        due("25: from where it is towed", x.callOf(0, 1), 0);
        due("25: not in a garage", x.callOf(0, 12), -5);
        due("23: no tow done", x.patrol(0, 8), 0);
        due("13: done", x.pass(1), 1);
        due("25: state", x.callOf(0, 5), 6);
        due("25: the area of the garage", x.callOf(0, 1), 2);
        due("25: the garage", x.callOf(0, 12), 0);
        due("25: the minute", x.callOf(0, 9), 14);
        due("23: there", x.patrol(0, 4), 2);
        due("23: free", x.patrol(0, 3), 0);
        due("23: a tow done", x.patrol(0, 8), 1);
        due("23: no repair done", x.patrol(0, 7), 0);
        due("23: minutes at work", x.patrol(0, 11), 14);
        garageIs(x, 0, 1, 0, 1);
        due("29: nothing is paid for a tow", x.count(16), 0);
        x.fetch(0, 1);
        garageIs(x, 0, 0, 0, 1);
        due("25: the garage stays told", x.callOf(0, 12), 0);
        due("25: the area, too", x.callOf(0, 1), 2);
    }

    private static void towWithinAnArea() {
        PatrolDesk x = deskOfMembers(1);
        x.addPatrol(0, 1, true);
        x.addGarage(0, 1);
        x.call(0, 0, 12);
        due("13: not done in the minute of its beginning", x.pass(1), 0);
        due("13: one minute at least", x.patrol(0, 6), 1);
        due("13: done in the next one", x.pass(1), 1);
        due("25: the minute", x.callOf(0, 9), 1);
    }

    private static void nearestGarageWithAFreePlace() {
        PatrolDesk x = deskOfMembers(4);
        x.addRoad(0, 1, 5);
        x.addRoad(0, 2, 5);
        x.addRoad(0, 3, 4);
        x.addGarage(2, 1);
        x.addGarage(1, 1);
        x.addGarage(3, 1);
        x.addPatrol(0, 1, true);
        int[] garages = {2, 0, 1};
        for (int i = 0; i < 3; i++) {
            x.call(i, 0, 12);
            x.pass(11);
            due("25: the garage of the tow " + i, x.callOf(i, 12), garages[i]);
            x.goHome(0);
        }
        x.call(3, 0, 12);
        x.pass(11);
        due("13: all are full", x.callOf(3, 5), 3);
        x.fetch(1, 1);
        x.pass(11);
        due("25: the one with a free place", x.callOf(3, 12), 1);
        garageIs(x, 1, 1, 0, 2);
    }

    private static void placesUnderWay() {
        PatrolDesk x = deskOfMembers(2);
        x.addRoad(0, 1, 5);
        x.addRoad(0, 2, 50);
        x.addGarage(1, 1);
        x.addGarage(2, 1);
        x.addPatrol(0, 1, true);
        x.addPatrol(0, 1, true);
        x.call(0, 0, 12);
        x.call(1, 0, 12);
        x.pass(1);
        garageIs(x, 0, 0, 1, 0);
        garageIs(x, 1, 0, 1, 0);
        due("13: to the near one", x.patrol(0, 6), 10);
        due("13: the near one's place is not free", x.patrol(1, 6), 100);
        due("13: both", x.pass(100), 2);
        due("25: the first", x.callOf(0, 12), 0);
        due("25: the second", x.callOf(1, 12), 1);
    }

    private static void lowerPatrolFirst() {
        PatrolDesk x = deskOfMembers(2);
        x.addRoad(0, 1, 5);
        x.addRoad(2, 3, 5);
        x.addRoad(0, 2, 1);
        x.addGarage(0, 1);
        x.addPatrol(3, 1, true);
        x.addPatrol(1, 1, true);
        x.call(0, 0, 12);
        x.call(1, 2, 12);
        x.pass(6);
        due("13: both got there in the same minute", x.callOf(0, 8) + 10 * x.callOf(1, 8), 1);
        due("13: the lower patrol tows", x.callOf(1, 5), 4);
        due("13: the other's call waits for a tow", x.callOf(0, 5), 3);
        due("13: the other is free", x.patrol(1, 3), 0);
    }

    private static void noGarage() {
        PatrolDesk x = deskOfMembers(1);
        x.addRoad(0, 1, 3);
        x.addPatrol(0, 1, true);
        x.call(0, 1, 12);
        x.pass(4);
        due("13: no garage", x.callOf(0, 5), 3);
        due("13: the patrol is free, there", x.patrol(0, 4), 1);
        due("13: free", x.patrol(0, 3), 0);
        due("13: it waits", x.waiting(0), 0);
        x.pass(5);
        due("13: again and again", x.callOf(0, 5), 3);
        due("23: no minutes by that", x.patrol(0, 11), 3);
        due("25: it got to it once", x.callOf(0, 7), 3);
        x.goHome(0);
        x.pass(1);
        due("13: sent again from afar", x.patrol(0, 6), 3);
        due("25: though it waits for a tow", x.callOf(0, 5), 3);
        due("9: it can't be cancelled", x.cancel(0), -4);
        x.pass(3);
        due("13: in vain", x.patrol(0, 3), 0);
        x.addGarage(1, 1);
        x.pass(2);
        due("13: with a garage", x.callOf(0, 5), 6);
    }

    private static void noWayToAGarage() {
        PatrolDesk x = deskOfMembers(1);
        x.addGarage(1, 1);
        x.addPatrol(0, 1, true);
        x.call(0, 0, 12);
        x.pass(3);
        due("13: no way", x.callOf(0, 5), 3);
        garageIs(x, 0, 0, 0, 0);
        x.addRoad(0, 1, 60);
        x.pass(1);
        due("13: a way", x.patrol(0, 6), 120);
    }

    private static void relayAtTheBorder() {
        PatrolDesk x = deskOfMembers(1);
        x.addRoad(0, 2, 3);
        x.addRoad(2, 4, 4);
        x.addRoad(4, 6, 5);
        x.addPatrol(0, 1, true);
        x.addPatrol(6, 1, true);
        x.addGarage(6, 2);
        x.call(0, 0, 12);
        x.pass(1);
        due("13: as far as 2 only", x.patrol(0, 6), 6);
        garageIs(x, 0, 0, 1, 0);
        x.duty(1, false);
        x.pass(5);
        due("25: still from 0", x.callOf(0, 1), 0);
        // At the border it is sent again in the same minute: from there the tow goes over it.
        due("13: at the border is not done", x.pass(1), 0);
        due("23: a tow at a border counts", x.patrol(0, 8), 1);
        due("25: its car is at the border", x.callOf(0, 1), 2);
        due("13: on over the border", x.patrol(0, 6), 8);
        garageIs(x, 0, 0, 1, 0);
        x.pass(8);
        due("25: beyond the border", x.callOf(0, 1), 4);
        due("25: waits for a tow", x.callOf(0, 5), 3);
        due("25: nobody drives to it", x.callOf(0, 6), -5);
        due("23: the patrol is there", x.patrol(0, 4), 4);
        due("23: two tows", x.patrol(0, 8), 2);
        garageIs(x, 0, 0, 0, 0);
        due("27: not for the one of region 0", x.nearest(0), -5);
        x.duty(1, true);
        due("27: for the one of region 1", x.nearest(0), 1);
        x.pass(6);
        due("13: its tow", x.patrol(1, 6), 10);
        due("13: done", x.pass(10), 1);
        garageIs(x, 0, 1, 0, 1);
        due("25: the first who got to it", x.callOf(0, 8), 0);
        due("25: waited until then", x.callOf(0, 7), 0);
        due("23: one tow", x.patrol(1, 8), 1);
        due("23: it waited for the first alone", x.patrol(1, 10), 0);
    }

    private static void nextAreaAloneOverTheBorder() {
        PatrolDesk x = deskOfMembers(1);
        x.addRoad(3, 4, 7);
        x.addRoad(4, 5, 1);
        x.addRoad(5, 8, 1);
        x.addPatrol(3, 1, true);
        x.addGarage(8, 1);
        x.call(0, 3, 12);
        x.pass(1);
        due("13: to the next area alone", x.patrol(0, 6), 14);
        x.pass(14);
        due("25: there", x.callOf(0, 1), 4);
        due("25: waits for a tow", x.callOf(0, 5), 3);
    }

    private static void garageAtTheBorder() {
        // The garage stands in the next area over the border: the tow that goes there is the last.
        PatrolDesk x = deskOfMembers(1);
        x.addRoad(3, 4, 7);
        x.addPatrol(3, 1, true);
        x.addGarage(4, 1);
        x.call(0, 3, 12);
        x.pass(1);
        due("13: fourteen minutes", x.patrol(0, 6), 14);
        due("13: done over the border", x.pass(14), 1);
        garageIs(x, 0, 1, 0, 1);
        // In two steps if it begins one area ahead of the border.
        PatrolDesk y = deskOfMembers(1);
        y.addRoad(2, 3, 2);
        y.addRoad(3, 4, 7);
        y.addPatrol(2, 1, true);
        y.addGarage(4, 1);
        y.addGarage(4, 9);
        y.call(0, 2, 12);
        y.pass(5);
        due("23: at the border", y.patrol(0, 8), 1);
        due("13: on over it", y.patrol(0, 6), 14);
        due("13: done", y.pass(14), 1);
        due("25: in the lower of both", y.callOf(0, 12), 0);
    }

    private static void wayThatComesBack() {
        // 0-1-4-2: the garage is in the region, but the way leaves it.
        PatrolDesk x = deskOfMembers(1);
        x.addRoad(0, 1, 1);
        x.addRoad(1, 4, 1);
        x.addRoad(4, 2, 1);
        x.addRoad(0, 2, 50);
        x.addPatrol(0, 1, true);
        x.addPatrol(4, 1, true);
        x.addGarage(2, 1);
        x.call(0, 0, 12);
        x.pass(1);
        due("13: to the last area ahead of where it first leaves", x.patrol(0, 6), 2);
        x.pass(2);
        due("25: at the border", x.callOf(0, 1), 1);
        due("13: on over it", x.patrol(0, 6), 2);
        x.pass(2);
        due("25: beyond it", x.callOf(0, 1), 4);
        due("13: the other tows back over the border", x.patrol(1, 6), 2);
        due("13: done", x.pass(2), 1);
        due("25: in the garage", x.callOf(0, 12), 0);
    }

    private static void reservedAsFarAsTheBorder() {
        PatrolDesk x = deskOfMembers(2);
        x.addRoad(2, 3, 10);
        x.addRoad(3, 4, 1);
        x.addRoad(4, 5, 1);
        x.addGarage(5, 1);
        x.addPatrol(2, 1, true);
        x.addPatrol(4, 1, true);
        x.call(0, 2, 12);
        x.pass(1);
        due("13: a tow to the border takes the place", x.garage(0, 3), 1);
        x.call(1, 4, 12);
        x.pass(3);
        due("13: no place for the other", x.callOf(1, 5), 3);
        due("24: one is under way", x.garage(0, 3), 1);
        // At the border the place is free, and the call with the least rest goes first.
        x.pass(17);
        due("13: in the minute 20 it is at the border", x.callOf(0, 1), 3);
        due("13: it goes on", x.callOf(0, 5), 4);
        due("24: again under way", x.garage(0, 3), 1);
        due("13: the other waits on", x.callOf(1, 5), 3);
        x.pass(2);
        due("13: over the border", x.callOf(0, 1), 4);
        due("13: the region's patrol tows it", x.callOf(0, 6), 1);
        x.pass(2);
        due("13: done", x.callOf(0, 5), 6);
        x.pass(1);
        due("13: now it is full", x.callOf(1, 5), 3);
        garageIs(x, 0, 1, 0, 1);
    }

    private static void shortestWayOverLowAreas() {
        // From 0 to 5 by 1-6 or by 4: both take 6; the way over 1 is lower and leaves at 1.
        PatrolDesk x = deskOfMembers(1);
        x.addRoad(0, 4, 3);
        x.addRoad(4, 5, 3);
        x.addRoad(0, 1, 1);
        x.addRoad(1, 6, 2);
        x.addRoad(6, 5, 3);
        x.addPatrol(0, 1, true);
        x.addGarage(5, 1);
        x.call(0, 0, 12);
        x.pass(3);
        due("13: over the lowest areas", x.callOf(0, 1), 1);
    }

    private static void towOnlyInItsOwnRegion() {
        PatrolDesk x = deskOfMembers(1);
        x.addRoad(3, 4, 1);
        x.addPatrol(3, 1, true);
        x.addGarage(4, 1);
        x.addGarage(3, 1);
        x.call(0, 4, 12);
        x.pass(2);
        due("13: it does not tow in another region", x.callOf(0, 5), 3);
        due("13: it is free", x.patrol(0, 3), 0);
        due("25: the first who got to it", x.callOf(0, 8), 0);
        x.pass(10);
        due("13: nor later", x.callOf(0, 5), 3);
    }

    private static void whatGarageIsAsked() {
        PatrolDesk x = new PatrolDesk();
        due("24: no garages yet", x.garage(0, 0), -1);
        x.addGarage(7, 3);
        due("24: area", x.garage(0, 0), 7);
        due("24: places", x.garage(0, 1), 3);
        for (int wrong : new int[] {Integer.MIN_VALUE, -1, 1, Integer.MAX_VALUE}) {
            due("24: garage " + wrong, x.garage(wrong, 9), -1);
        }
        for (int wrong : new int[] {Integer.MIN_VALUE, -1, 5, Integer.MAX_VALUE}) {
            due("24: what " + wrong, x.garage(0, wrong), -2);
        }
        due("24: no act", x.count(23), 1);
    }
}
