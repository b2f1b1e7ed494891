/** Promise 13 in its steps, 26 and 27: who is sent to which call, and what a patrol does there. */
public final class SendingTest {
    private static final Check CHECK = new Check("SendingTest");

    public static void main(String[] args) {
        order();
        orderByTierAndNumber();
        orderOfTows();
        nearest();
        nearestBySkillAndNumber();
        regionsNextToOneAnother();
        nearestForATow();
        driveAndArrival();
        atOnceAndOnToALaterCall();
        eachCallOnceInAStep();
        waitsForATowInTheSameMinute();
        whatSkillCanDo();
        CHECK.end();
    }

    private static void due(String what, long got, long want) {
        CHECK.due(what, got, want);
    }

    private static PatrolDesk deskOfTiers(int... tiers) {
        PatrolDesk x = new PatrolDesk();
        for (int tier : tiers) {
            x.addMember(tier);
        }
        return x;
    }

    private static void waitingIs(PatrolDesk x, int... calls) {
        for (int place = 0; place < calls.length; place++) {
            due("26: waiting(" + place + ")", x.waiting(place), calls[place]);
        }
        due("26: no more", x.waiting(calls.length), -5);
    }

    private static void order() {
        PatrolDesk x = deskOfTiers(0, 1, 2, 0);
        waitingIs(x);
        due("26: negative", x.waiting(-1), -2);
        due("26: negative", x.waiting(Integer.MIN_VALUE), -2);
        due("26: far behind", x.waiting(Integer.MAX_VALUE), -5);
        x.call(0, 0, 1);
        x.call(1, 0, 1);
        x.call(2, 0, 1);
        waitingIs(x, 2, 1, 0);
        x.pass(51);
        x.call(3, 0, 1);
        waitingIs(x, 2, 1, 0, 3);
        x.cancel(2);
        waitingIs(x, 1, 0, 3);
        // The rest of 39 minutes is that of the call 0; below 0 the order goes on.
        x.setPromise(2, 38);
        x.call(2, 0, 1);
        waitingIs(x, 1, 4, 0, 3);
        x.pass(60);
        waitingIs(x, 1, 4, 0, 3);
        due("26: no act", x.count(23), 4);
        // The one patrol goes to the first of them, not to the nearest.
        x.addPatrol(0, 9, true);
        x.pass(1);
        due("13: the least rest first", x.callOf(1, 6), 0);
        waitingIs(x, 4, 0, 3);
    }

    private static void orderByTierAndNumber() {
        PatrolDesk x = deskOfTiers(0, 1, 2, 2, 1, 0);
        x.setPromise(0, 50);
        x.setPromise(1, 50);
        x.setPromise(2, 50);
        for (int member = 0; member < 6; member++) {
            x.call(member, 0, 1);
        }
        waitingIs(x, 2, 3, 1, 4, 0, 5);
        // A bound that is a minute longer, and came a minute earlier, is the same rest.
        PatrolDesk y = deskOfTiers(0, 2);
        y.setPromise(0, 50);
        y.setPromise(2, 51);
        y.call(1, 0, 1);
        y.pass(1);
        y.call(0, 0, 1);
        waitingIs(y, 0, 1);
        y.cancel(0);
        y.setPromise(2, 50);
        y.call(1, 0, 1);
        waitingIs(y, 2, 1);
    }

    private static void orderOfTows() {
        PatrolDesk x = deskOfTiers(0, 2);
        x.addPatrol(0, 1, false);
        x.call(0, 0, 12);
        x.pass(1);
        due("13: the call waits for a tow", x.callOf(0, 5), 3);
        x.call(1, 11, 1);
        waitingIs(x, 1, 0);
        x.pass(60);
        x.cancel(1);
        x.setPromise(2, 240);
        x.call(1, 11, 1);
        waitingIs(x, 0, 2);
        // One to which a patrol drives for its tow does not wait.
        x.addRoad(0, 1, 5);
        x.addPatrol(1, 1, true);
        x.addGarage(1, 1);
        x.pass(1);
        due("13: driven to for a tow", x.callOf(0, 6), 1);
        due("13: still in the state 3", x.callOf(0, 5), 3);
        due("27: it does not wait so", x.nearest(0), -4);
        waitingIs(x, 2);
        x.pass(5);
        due("13: the tow begins", x.callOf(0, 5), 4);
        due("13: for twice the minutes", x.patrol(1, 6), 10);
        waitingIs(x, 2);
    }

    private static void nearest() {
        PatrolDesk x = deskOfTiers(0, 1);
        x.addRoad(0, 1, 10);
        x.addRoad(1, 2, 9);
        x.addRoad(2, 3, 30);
        due("27: no calls yet", x.nearest(0), -1);
        x.call(0, 1, 1);
        due("27: call -1", x.nearest(-1), -1);
        due("27: call 1", x.nearest(1), -1);
        due("27: call at the end of ints", x.nearest(Integer.MAX_VALUE), -1);
        due("27: no patrols", x.nearest(0), -5);
        x.addPatrol(5, 9, true);
        due("27: no way", x.nearest(0), -5);
        x.addPatrol(0, 9, true);
        x.addPatrol(2, 1, false);
        due("27: the nearest, whatever it can do", x.nearest(0), 2);
        x.duty(2, false);
        due("27: of those that are free", x.nearest(0), 1);
        x.duty(2, true);
        due("27: no act", x.count(23), 4);
        x.pass(1);
        due("13: the nearest is sent", x.callOf(0, 6), 2);
        due("27: it waits no more", x.nearest(0), -4);
        x.call(1, 1, 1);
        due("27: the one that is left", x.nearest(1), 1);
        x.cancel(1);
        due("27: not a cancelled one", x.nearest(1), -4);
        x.pass(9);
        due("27: not in repair", x.nearest(0), -4);
        x.pass(5);
        due("27: not repaired", x.nearest(0), -4);
    }

    private static void nearestBySkillAndNumber() {
        PatrolDesk x = deskOfTiers(0);
        x.addRoad(0, 1, 5);
        x.addRoad(1, 2, 5);
        x.addPatrol(0, 3, true);
        x.addPatrol(2, 4, false);
        x.addPatrol(0, 4, true);
        x.addPatrol(3, 9, true);
        x.call(0, 1, 1);
        due("27: greater skill, then lower number", x.nearest(0), 1);
        x.duty(1, false);
        due("27: greater skill", x.nearest(0), 2);
        x.duty(2, false);
        due("27: the one that is left", x.nearest(0), 0);
        x.addRoad(3, 1, 4);
        due("27: nearer goes ahead of skill", x.nearest(0), 3);
        x.duty(3, false);
        x.addPatrol(1, 1, false);
        due("27: nearer goes ahead of skill", x.nearest(0), 4);
    }

    private static void regionsNextToOneAnother() {
        PatrolDesk x = deskOfTiers(0, 0, 0);
        x.addRoad(3, 4, 1);
        x.addRoad(7, 8, 1);
        x.addRoad(4, 7, 1);
        x.addPatrol(3, 9, true);
        x.call(0, 8, 1);
        x.call(1, 4, 1);
        due("27: not two regions away", x.nearest(0), -5);
        due("27: the region next to it", x.nearest(1), 0);
        x.pass(60);
        due("13: it waits on", x.callOf(0, 5), 0);
        due("13: the other is repaired", x.callOf(1, 5), 5);
        due("27: the region of its home counts, not where it is", x.nearest(0), -5);
        x.addPatrol(8, 9, true);
        x.duty(1, false);
        x.call(2, 0, 1);
        due("27: no way to 0", x.nearest(2), -5);
        x.addRoad(0, 3, 1);
        due("27: a way to 0", x.nearest(2), 0);
        x.duty(0, false);
        x.duty(1, true);
        due("27: region 2 does not take region 0", x.nearest(2), -5);
        x.cancel(2);
        x.call(2, 7, 1);
        due("27: region 2 takes region 1", x.nearest(3), 1);
        x.cancel(3);
        x.call(2, 8, 1);
        due("27: region 2 takes region 2", x.nearest(4), 1);
    }

    private static void nearestForATow() {
        PatrolDesk x = deskOfTiers(0);
        x.addRoad(3, 4, 1);
        x.addRoad(3, 2, 50);
        x.addPatrol(4, 1, true);
        x.call(0, 3, 5);
        due("27: for the call itself", x.nearest(0), 0);
        x.pass(2);
        due("13: it waits for a tow", x.callOf(0, 5), 3);
        due("13: the patrol is there, free", x.patrol(0, 4), 3);
        due("27: not one of another region", x.nearest(0), -5);
        x.addPatrol(3, 9, false);
        due("27: not one that can't tow", x.nearest(0), -5);
        x.addPatrol(2, 1, true);
        due("27: one that can tow, of the region", x.nearest(0), 2);
        x.addPatrol(5, 1, true);
        x.addRoad(5, 3, 1);
        due("27: though another is nearer", x.nearest(0), 2);
    }

    private static void driveAndArrival() {
        PatrolDesk x = deskOfTiers(0);
        x.addRoad(0, 1, 3);
        x.addPatrol(0, 9, false);
        x.pass(10);
        x.call(0, 1, 2);
        x.pass(1);
        due("13: it drives", x.patrol(0, 3), 1);
        due("13: as many minutes", x.patrol(0, 6), 3);
        due("13: to the call", x.patrol(0, 5), 0);
        due("13: from where it was", x.patrol(0, 4), 0);
        due("13: state", x.callOf(0, 5), 1);
        // A road that is built does not shorten a drive.
        x.addRoad(0, 2, 1);
        x.addRoad(2, 1, 1);
        x.pass(2);
        due("13: still", x.patrol(0, 6), 1);
        due("13: nobody got to it yet", x.callOf(0, 8), -5);
        due("13: it waits", x.callOf(0, 7), 3);
        x.pass(1);
        due("13: it repairs", x.patrol(0, 3), 2);
        due("13: there", x.patrol(0, 4), 1);
        due("13: five minutes a trouble", x.patrol(0, 6), 10);
        due("13: who got to it", x.callOf(0, 8), 0);
        due("13: state", x.callOf(0, 5), 2);
        due("13: waited", x.callOf(0, 7), 3);
        x.pass(9);
        due("13: the last minute", x.patrol(0, 6), 1);
        due("13: not done", x.callOf(0, 9), -5);
        due("13: done", x.pass(1), 1);
        due("13: state", x.callOf(0, 5), 5);
        due("13: in the minute 23", x.callOf(0, 9), 23);
        due("13: free", x.patrol(0, 3), 0);
        due("13: free", x.patrol(0, 5), -5);
        due("13: free", x.callOf(0, 6), -5);
        due("13: stays there", x.patrol(0, 4), 1);
        due("13: waited no longer", x.callOf(0, 7), 3);
    }

    private static void atOnceAndOnToALaterCall() {
        PatrolDesk x = deskOfTiers(2, 1, 0);
        x.addRoad(0, 1, 4);
        x.addPatrol(0, 1, false);
        x.call(0, 0, 12);
        x.call(1, 0, 11);
        x.call(2, 1, 2);
        x.pass(1);
        due("13: there at once, waits for a tow", x.callOf(0, 5), 3);
        due("13: the next one in the same step", x.callOf(1, 5), 3);
        due("13: and sent to the third", x.callOf(2, 6), 0);
        due("13: got there in the minute 0", x.callOf(0, 7), 0);
        x.pass(9);
        due("13: waited nothing", x.callOf(1, 7), 0);
        due("13: repairs the third", x.callOf(2, 5), 2);
        due("13: minutes of the drive and of the repair", x.patrol(0, 11), 9);
    }

    private static void eachCallOnceInAStep() {
        PatrolDesk x = deskOfTiers(0);
        x.addPatrol(0, 2, false);
        x.addPatrol(0, 1, true);
        x.addGarage(0, 1);
        x.call(0, 0, 12);
        x.pass(1);
        due("13: gone through once", x.callOf(0, 5), 3);
        due("13: the other is free", x.patrol(1, 3), 0);
        x.pass(1);
        due("13: its tow in the next minute", x.callOf(0, 5), 4);
        due("13: by the other", x.callOf(0, 6), 1);
        due("13: the first one got to it first", x.callOf(0, 8), 0);
    }

    private static void waitsForATowInTheSameMinute() {
        PatrolDesk x = deskOfTiers(0);
        x.addRoad(0, 1, 2);
        x.addRoad(1, 2, 9);
        x.addPatrol(0, 2, false);
        x.addPatrol(2, 1, true);
        x.addGarage(0, 1);
        x.call(0, 1, 12);
        x.pass(3);
        due("13: gotten to in step 1, sent for in step 2", x.callOf(0, 6), 1);
        due("13: in the state 3", x.callOf(0, 5), 3);
        due("13: the first is free", x.patrol(0, 3), 0);
        due("13: drives nine", x.patrol(1, 6), 9);
        x.pass(9);
        due("13: tows", x.patrol(1, 3), 3);
        due("13: the call it waited for is counted once", x.patrol(1, 10), 0);
        due("13: for the first", x.patrol(0, 10), 2);
    }

    private static void whatSkillCanDo() {
        for (int skill = 1; skill <= 9; skill++) {
            for (int trouble = 1; trouble <= 12; trouble++) {
                PatrolDesk x = deskOfTiers(0);
                x.addPatrol(0, skill, true);
                x.addGarage(0, 1);
                x.call(0, 0, trouble);
                x.pass(1);
                boolean repairs = skill >= trouble - 3;
                due("13: skill " + skill + ", trouble " + trouble, x.callOf(0, 5), repairs ? 2 : 4);
                due("13: minutes", x.patrol(0, 6), repairs ? 5 * trouble : 1);
            }
        }
    }
}
