/** Promises 22, 23, 25, 28 and 29: what is told of members, patrols and calls, forecasts and counts. */
public final class ToldTest {
    private static final int LEAST = Integer.MIN_VALUE;
    private static final int MOST = Integer.MAX_VALUE;
    private static final Check CHECK = new Check("ToldTest");

    public static void main(String[] args) {
        member();
        money();
        moneyForCallbacks();
        late();
        patrol();
        callOf();
        waitFor();
        waitForAsFarAsItGoes();
        waitForChangesNothing();
        count();
        CHECK.end();
    }

    private static void due(String what, long got, long want) {
        CHECK.due(what, got, want);
    }

    private static PatrolDesk deskOfTiers(int... tiers) {
        PatrolDesk x = new PatrolDesk();
        for (int tier : tiers) {
            x.addMember(tier);
        }
        return x;
    }

    private static void member() {
        PatrolDesk x = deskOfTiers(2, 1);
        for (int wrong : new int[] {LEAST, -1, 2, MOST}) {
            due("22: member " + wrong, x.member(wrong, 9), -1);
        }
        for (int wrong : new int[] {LEAST, -1, 7, MOST}) {
            due("22: what " + wrong, x.member(0, wrong), -2);
        }
        int[] first = {2, 0, -5, 0, 1000, 0, 0};
        for (int what = 0; what <= 6; what++) {
            due("22: new member(0, " + what + ")", x.member(0, what), first[what]);
        }
        x.call(1, 0, 1);
        x.pass(10);
        x.cancel(0);
        x.call(0, 0, 1);
        x.call(1, 0, 1);
        x.pass(7);
        due("22: calls", x.member(1, 1), 2);
        due("22: its call", x.member(1, 2), 2);
        due("22: the other's call", x.member(0, 2), 1);
        due("22: minutes waited by all of them", x.member(1, 3), 17);
        due("22: minutes waited by the other's", x.member(0, 3), 7);
        due("29: minutes waited by all", x.count(15), 24);
        x.cancel(2);
        due("22: no call", x.member(1, 2), -5);
        x.pass(5);
        due("22: the cancelled ones wait no more", x.member(1, 3), 17);
        due("22: the other waits on", x.member(0, 3), 12);
        due("22: calls of the other", x.member(0, 1), 1);
        due("22: no act", x.count(23), 4);
    }

    private static void money() {
        int[] prices = {20, 10, 0};
        for (int tier = 0; tier <= 2; tier++) {
            PatrolDesk x = deskOfTiers(tier);
            x.addPatrol(0, 9, false);
            x.call(0, 0, 1);
            x.pass(5);
            due("22: not yet paid", x.member(0, 4), 1000);
            x.pass(1);
            due("22: a repair for the tier " + tier, x.member(0, 4), 1000 + prices[tier]);
            due("29: paid", x.count(16), prices[tier]);
            due("29: given back", x.count(17), 0);
        }
    }

    private static void moneyForCallbacks() {
        int[] prices = {35, 15, 0};
        for (int tier = 0; tier <= 2; tier++) {
            PatrolDesk x = deskOfTiers(tier);
            x.addPatrol(0, 9, false);
            x.call(0, 0, 1);
            x.pass(6);
            x.call(0, 0, 1);
            x.pass(6);
            due("22: a callback", x.member(0, 5), 1);
            due("22: both repairs for the tier " + tier, x.member(0, 4), 1000 + prices[tier]);
            due("29: paid", x.count(16), prices[tier]);
        }
    }

    private static void late() {
        PatrolDesk x = deskOfTiers(2, 2);
        x.setPromise(2, 10);
        x.call(0, 0, 1);
        x.call(1, 8, 1);
        x.pass(10);
        x.addPatrol(0, 9, false);
        x.pass(1);
        due("25: in the last minute of the bound", x.callOf(0, 7), 10);
        due("22: is not late", x.member(0, 6), 0);
        due("22: earns nothing", x.member(0, 4), 1000);
        due("22: one that nobody got to is not late", x.member(1, 6), 0);
        due("22: and earns nothing yet", x.member(1, 4), 1000);
        x.addPatrol(8, 1, false);
        x.pass(1);
        due("25: a minute above the bound", x.callOf(1, 7), 11);
        due("22: is late", x.member(1, 6), 1);
        due("22: earns 15, as it happens", x.member(1, 4), 985);
        due("29: given back", x.count(17), 15);
        due("29: nothing paid", x.count(16), 0);
        x.pass(6);
        due("22: earned once", x.member(1, 4), 985);
        lateThoughTowed();
        cancelledLate();
    }

    private static void lateThoughTowed() {
        PatrolDesk x = deskOfTiers(1);
        x.setPromise(1, 10);
        x.call(0, 0, 12);
        x.pass(30);
        x.addPatrol(0, 1, false);
        x.pass(1);
        due("22: late as the first got to it", x.member(0, 4), 985);
        x.addPatrol(0, 1, true);
        x.addGarage(0, 1);
        x.pass(3);
        due("25: towed", x.callOf(0, 5), 6);
        due("22: once only, and nothing paid", x.member(0, 4), 985);
        due("22: one late call", x.member(0, 6), 1);
        PatrolDesk y = deskOfTiers(1);
        y.addPatrol(0, 1, false);
        y.call(0, 0, 12);
        y.pass(90);
        y.addPatrol(0, 1, true);
        y.addGarage(0, 1);
        y.pass(3);
        due("22: a late tow of a call that was got to in time", y.member(0, 6), 0);
    }

    private static void cancelledLate() {
        PatrolDesk x = deskOfTiers(0);
        x.setPromise(0, 10);
        x.call(0, 0, 12);
        x.pass(30);
        due("9: waited", x.cancel(0), 30);
        due("22: no patrol got to it", x.member(0, 6), 0);
        due("22: earns nothing", x.member(0, 4), 1000);
    }

    private static void patrol() {
        PatrolDesk x = deskOfTiers(0, 0);
        due("23: no patrols yet", x.patrol(0, 0), -1);
        x.addRoad(1, 2, 4);
        x.addPatrol(1, 5, false);
        for (int wrong : new int[] {LEAST, -1, 1, MOST}) {
            due("23: patrol " + wrong, x.patrol(wrong, 12), -1);
        }
        for (int wrong : new int[] {LEAST, -1, 12, MOST}) {
            due("23: what " + wrong, x.patrol(0, wrong), -2);
        }
        x.call(0, 2, 2);
        x.pass(1);
        // Sent in this minute: none of its minutes has become less yet.
        int[] sent = {1, 5, 0, 1, 1, 0, 4, 0, 0, 0, 0, 0};
        int[] near = {1, 5, 0, 1, 1, 0, 1, 0, 0, 0, 0, 3};
        int[] there = {1, 5, 0, 2, 2, 0, 10, 0, 0, 0, 4, 4};
        int[] done = {1, 5, 0, 0, 2, -5, -5, 1, 0, 0, 4, 14};
        patrolIs(x, sent);
        x.pass(3);
        patrolIs(x, near);
        x.pass(1);
        patrolIs(x, there);
        x.pass(10);
        patrolIs(x, done);
        x.call(0, 1, 3);
        x.call(1, 2, 9);
        x.pass(28);
        // Four minutes to the call 1, fifteen of repair, four to the call 2, which it can't repair.
        due("25: the call 1 waited", x.callOf(1, 7), 4);
        due("25: the call 2 waited", x.callOf(2, 7), 4 + 15 + 4);
        patrolIs(x, new int[] {1, 5, 0, 0, 2, -5, -5, 2, 0, 1, 4 + 4 + 23, 14 + 4 + 15 + 4});
        due("23: no act", x.count(23), 4);
    }

    private static void patrolIs(PatrolDesk x, int[] told) {
        for (int what = 0; what < told.length; what++) {
            due("23: patrol(0, " + what + ") in minute " + x.count(0), x.patrol(0, what), told[what]);
        }
    }

    private static void callOf() {
        PatrolDesk x = deskOfTiers(0);
        due("25: no calls yet", x.callOf(0, 0), -1);
        x.addRoad(0, 1, 5);
        x.addPatrol(0, 9, false);
        x.pass(3);
        x.call(0, 1, 2);
        for (int wrong : new int[] {LEAST, -1, 1, MOST}) {
            due("25: call " + wrong, x.callOf(wrong, 13), -1);
        }
        for (int wrong : new int[] {LEAST, -1, 13, MOST}) {
            due("25: what " + wrong, x.callOf(0, wrong), -2);
        }
        callIs(x, new int[] {0, 1, 2, 90, 3, 0, -5, 0, -5, -5, 0, 10090, -5});
        x.pass(1);
        callIs(x, new int[] {0, 1, 2, 90, 3, 1, 0, 1, -5, -5, 0, 10089, -5});
        x.pass(5);
        callIs(x, new int[] {0, 1, 2, 90, 3, 2, 0, 5, 0, -5, 0, -5, -5});
        x.pass(10);
        callIs(x, new int[] {0, 1, 2, 90, 3, 5, -5, 5, 0, 18, 0, -5, -5});
        x.duty(0, false);
        x.call(0, 1, 2);
        x.pass(95);
        due("25: a callback", x.callOf(1, 10), 1);
        due("25: the rest of its bound below 0", x.callOf(1, 11), 9995);
        x.cancel(1);
        due("25: no rest of a cancelled one", x.callOf(1, 11), -5);
        due("25: cancelled in", x.callOf(1, 9), 114);
        due("25: the first stays", x.callOf(0, 9), 18);
    }

    private static void callIs(PatrolDesk x, int[] told) {
        for (int what = 0; what < told.length; what++) {
            due("25: callOf(0, " + what + ") in minute " + x.count(0), x.callOf(0, what), told[what]);
        }
    }

    private static void waitFor() {
        PatrolDesk x = deskOfTiers(0, 2, 0, 0);
        due("28: no calls yet", x.waitFor(0), -1);
        x.addRoad(0, 1, 4);
        x.call(0, 1, 2);
        due("28: call -1", x.waitFor(-1), -1);
        due("28: call 1", x.waitFor(1), -1);
        due("28: call at the end of ints", x.waitFor(MOST), -1);
        due("28: no patrols", x.waitFor(0), -5);
        x.pass(10);
        x.addPatrol(0, 9, false);
        due("28: from when it came", x.waitFor(0), 14);
        x.call(1, 0, 1);
        due("28: the other one goes first", x.waitFor(1), 0);
        due("28: after its repair", x.waitFor(0), 10 + 5 + 4);
        x.pass(7);
        due("28: driven to", x.callOf(0, 5), 1);
        due("28: one that is driven to", x.waitFor(0), 19);
        x.call(2, 0, 1);
        due("28: a later one", x.waitFor(2), 12 + 4);
        x.pass(3);
        due("28: not in repair", x.waitFor(0), -4);
        x.pass(20);
        due("28: as it was told", x.callOf(0, 7), 19);
        due("28: as it was told", x.callOf(2, 7), 16);
        due("28: not repaired", x.waitFor(0), -4);
        x.call(3, 0, 1);
        x.cancel(3);
        due("28: not a cancelled one", x.waitFor(3), -4);
        x.call(3, 0, 12);
        x.addPatrol(0, 1, false);
        x.pass(1);
        x.duty(0, false);
        PatrolDesk y = deskOfTiers(0);
        y.addPatrol(0, 1, false);
        y.call(0, 0, 12);
        y.pass(1);
        due("28: not one that waits for a tow", y.waitFor(0), -4);
    }

    private static void waitForAsFarAsItGoes() {
        PatrolDesk x = deskOfTiers(0, 0);
        x.addRoad(0, 1, 60);
        x.addRoad(1, 2, 60);
        x.addRoad(2, 3, 60);
        x.addRoad(3, 4, 59);
        x.addRoad(3, 5, 60);
        x.addPatrol(0, 9, false);
        x.call(0, 4, 1);
        due("28: in the 240th minute", x.waitFor(0), 239);
        x.cancel(0);
        x.call(0, 5, 1);
        due("28: not in the 241st", x.waitFor(1), -5);
        x.pass(1);
        due("28: a minute later", x.waitFor(1), 240);
        PatrolDesk y = deskOfTiers(0, 0);
        y.addRoad(0, 1, 9);
        y.addRoad(0, 2, 10);
        y.addPatrol(0, 9, false);
        for (int i = 0; i < 23; i++) {
            y.pass(120);
        }
        y.pass(110);
        y.call(0, 1, 1);
        due("28: in the minute 2879", y.waitFor(0), 9);
        y.cancel(0);
        y.call(0, 2, 1);
        due("28: not in the minute 2880", y.waitFor(1), -5);
        y.cancel(1);
        y.pass(9);
        y.call(0, 0, 1);
        due("28: in the last minute of all", y.waitFor(2), 0);
        y.pass(1);
        due("28: none is left", y.callOf(2, 7), 0);
        y.call(1, 0, 1);
        due("28: no minute is left", y.waitFor(3), -5);
    }

    private static void waitForChangesNothing() {
        PatrolDesk x = deskOfTiers(0, 1);
        x.addRoad(0, 1, 4);
        x.addPatrol(0, 1, true);
        x.addGarage(0, 1);
        x.call(0, 1, 12);
        x.call(1, 1, 12);
        x.pass(1);
        due("28: in the far future", x.waitFor(0), 4 + 8 + 4);
        due("28: the minute stays", x.count(0), 1);
        due("28: the history stays", x.count(23), 4);
        due("28: the calls stay", x.callOf(1, 5) + 10 * x.callOf(0, 5), 1);
        due("28: the patrol stays", x.patrol(0, 6), 4);
        due("28: the garage stays", x.garage(0, 4), 0);
        due("28: the members stay", x.member(0, 3), 1);
        due("28: the same again", x.waitFor(0), 16);
    }

    private static void count() {
        PatrolDesk x = deskOfTiers(0, 1, 2, 0, 0, 0);
        for (int wrong : new int[] {LEAST, -1, 25, MOST}) {
            due("29: what " + wrong, x.count(wrong), -2);
        }
        x.addRoad(0, 1, 30);
        x.addPatrol(0, 9, false);
        x.addPatrol(4, 1, true);
        x.addPatrol(4, 9, true);
        x.addGarage(4, 9);
        x.duty(2, false);
        x.setPromise(1, 61);
        x.setWeather(3);
        x.type('a');
        x.type('b');
        x.call(0, 0, 1);
        x.pass(6);
        x.call(0, 1, 1);
        x.call(1, 4, 12);
        x.call(2, 8, 1);
        x.call(3, 8, 1);
        x.call(4, 8, 1);
        x.cancel(4);
        x.cancel(5);
        x.pass(1);
        int[] told = {7, 3, 1, 6, 3, 1, 6, 1, 1, 0, 0, 1, 1, 0, 2};
        for (int what = 0; what < told.length; what++) {
            due("29: count(" + what + ")", x.count(what), told[what]);
        }
        int[] more = {1 + 0 + 1, 20, 0, 1, 90, 61, 40, 2, 4, 2};
        for (int i = 0; i < more.length; i++) {
            due("29: count(" + (15 + i) + ")", x.count(15 + i), more[i]);
        }
        x.pass(1);
        due("29: towed", x.count(13), 1);
        due("29: no longer in a tow", x.count(11), 0);
        x.pass(30);
        due("29: in repair", x.count(9), 1);
        x.call(1, 4, 12);
        x.fetch(0, 1);
        x.pass(1);
        due("29: in a tow", x.count(11), 1);
        x.pass(5);
        due("29: both repaired", x.count(12), 2);
        due("29: paid, less for the callback", x.count(16), 35);
        PatrolDesk y = deskOfTiers(0);
        y.addPatrol(0, 1, false);
        y.call(0, 0, 12);
        y.pass(1);
        due("29: waits for a tow", y.count(10), 1);
    }
}
