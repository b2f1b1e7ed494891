/** Promises 17 to 19: undo, and the snapshot. */
public final class HistoryTest {
    private static final Check CHECK = new Check("HistoryTest");

    public static void main(String[] args) {
        undo();
        onlyTheLatestFour();
        undoBringsBackEverything();
        keepAndRestore();
        restoreIsAnAct();
        everyActIsUndone();
        placesUsedAnew();
        CHECK.end();
    }

    private static void due(String what, long got, long want) {
        CHECK.due(what, got, want);
    }

    private static void undo() {
        PatrolDesk x = new PatrolDesk();
        due("17: nothing to undo", x.undo(), -5);
        x.setWeather(1);
        x.setWeather(2);
        x.setWeather(2);
        x.setWeather(9);
        due("17: errors and NONE record nothing", x.count(23), 2);
        due("17: one left", x.undo(), 1);
        due("17: weather back", x.count(1), 1);
        due("17: none left", x.undo(), 0);
        due("17: weather back", x.count(1), 0);
        due("17: nothing more", x.undo(), -5);
        due("17: nothing changed", x.count(1), 0);
        x.setWeather(3);
        due("17: recorded anew", x.count(23), 1);
    }

    private static void onlyTheLatestFour() {
        PatrolDesk x = new PatrolDesk();
        for (int i = 0; i < 7; i++) {
            x.addMember(i % 3);
        }
        due("17: four are kept", x.count(23), 4);
        for (int left = 3; left >= 0; left--) {
            due("17: undo", x.undo(), left);
            due("17: members", x.count(3), 3 + left);
        }
        due("17: the oldest are dropped", x.undo(), -5);
        due("17: three members stay", x.count(3), 3);
        x.addMember(1);
        x.undo();
        x.addMember(2);
        due("17: the new one's tier", x.member(3, 0), 2);
        due("17: the others' tiers", x.member(2, 0), 2);
        due("17: one recorded", x.count(23), 1);
    }

    private static void undoBringsBackEverything() {
        int[] before = Desks.told(busyDesk());
        PatrolDesk x = busyDesk();
        x.pass(40);
        due("17: a cancel to undo", x.cancel(4), 41);
        due("17: a duty to undo", x.duty(0, false), 2);
        x.type('z');
        due("17: the text is no state", x.count(24), 1);
        due("17: undo duty", x.undo(), 3);
        due("17: undo cancel", x.undo(), 2);
        due("17: undo pass", x.undo(), 1);
        same("17: all as before", Desks.told(x), before);
        due("17: the text stays", x.count(24), 1);
        PatrolDesk y = busyDesk();
        y.keep();
        y.pass(100);
        due("17: undo keeps the snapshot", y.undo(), 3);
        y.pass(7);
        due("19: the minute of the snapshot", y.restore(), 3);
        same("19: all as before", Desks.told(y), before);
        y.pass(9);
        due("19: the snapshot stays", y.restore(), 3);
        same("19: all as before", Desks.told(y), before);
    }

    private static void keepAndRestore() {
        PatrolDesk x = new PatrolDesk();
        due("19: no snapshot", x.restore(), -5);
        due("19: records nothing", x.count(23), 0);
        due("18: at minute 0", x.keep(), 0);
        due("18: no act", x.count(23), 0);
        x.pass(5);
        due("18: at minute 5", x.keep(), 5);
        x.pass(6);
        due("19: the later snapshot", x.restore(), 5);
        due("19: minute", x.count(0), 5);
        x.addMember(1);
        x.type('m');
        due("19: members of the snapshot", x.restore(), 5);
        due("19: no members", x.count(3), 0);
        due("19: the text stays", x.count(24), 1);
        x.addMember(2);
        due("19: the snapshot is not touched by acts", x.restore(), 5);
        due("19: no members", x.count(3), 0);
    }

    private static void restoreIsAnAct() {
        PatrolDesk x = new PatrolDesk();
        x.keep();
        x.pass(8);
        due("19: restored", x.restore(), 0);
        due("19: two states", x.count(23), 2);
        due("17: undo the restore", x.undo(), 1);
        due("17: the minute before", x.count(0), 8);
        due("17: undo the pass", x.undo(), 0);
        due("19: the snapshot outlasts undo", x.restore(), 0);
    }

    private static void everyActIsUndone() {
        for (int act = 0; act < 14; act++) {
            PatrolDesk x = busyDesk();
            x.keep();
            if (act >= 9) {
                x.pass(110);
            }
            for (char c : "m5@1!2".toCharArray()) {
                x.type(c);
            }
            int[] before = Desks.told(x);
            int answer = doAct(x, act);
            if (answer < 0) {
                due("17: act " + act + " is done", answer, 0);
            }
            x.undo();
            same("17: act " + act + " undone", Desks.told(x), before);
        }
    }

    private static int doAct(PatrolDesk x, int act) {
        return switch (act) {
            case 0 -> x.addRoad(7, 8, 9);
            case 1 -> x.addMember(2);
            case 2 -> x.addPatrol(9, 9, true);
            case 3 -> x.addGarage(9, 9);
            case 4 -> x.setPromise(1, 99);
            case 5 -> x.setWeather(4);
            case 6 -> x.call(5, 3, 4);
            case 7 -> x.cancel(4);
            case 8 -> x.pass(60);
            case 9 -> x.duty(2, false);
            case 10 -> x.goHome(1);
            case 11 -> x.fetch(0, 1);
            case 12 -> x.readCalls();
            default -> x.restore();
        };
    }

    /** Who is added after a restore, in the place of one that is there no more, brings nothing from that one. */
    private static void placesUsedAnew() {
        PatrolDesk x = new PatrolDesk();
        x.keep();
        x.addMember(0);
        x.addPatrol(0, 9, true);
        x.addGarage(0, 1);
        x.call(0, 0, 1);
        x.pass(6);
        x.call(0, 0, 1);
        x.pass(6);
        x.addPatrol(0, 1, true);
        x.duty(0, false);
        x.call(0, 0, 12);
        x.pass(9);
        x.fetch(0, 1);
        x.call(0, 0, 12);
        x.pass(1);
        due("19: much was done", x.patrol(0, 9) + 10 * x.patrol(0, 7) + 100 * x.patrol(1, 8), 123);
        x.restore();
        for (int i = 0; i < 2; i++) {
            x.addMember(1);
            x.addPatrol(5, 3, false);
            x.addGarage(6, 4);
        }
        int[] patrol = {5, 3, 0, 0, 5, -5, -5, 0, 0, 0, 0, 0};
        for (int what = 0; what < patrol.length; what++) {
            due("19: patrol(0, " + what + ") anew", x.patrol(0, what), patrol[what]);
            due("19: patrol(1, " + what + ") anew", x.patrol(1, what), patrol[what]);
        }
        int[] garage = {6, 4, 0, 0, 0};
        for (int what = 0; what < garage.length; what++) {
            due("19: garage(0, " + what + ") anew", x.garage(0, what), garage[what]);
        }
        x.call(1, 11, 2);
        int[] call = {1, 11, 2, 60, 0, 0, -5, 0, -5, -5, 0, 10060, -5};
        for (int what = 0; what < call.length; what++) {
            due("19: callOf(0, " + what + ") anew", x.callOf(0, what), call[what]);
        }
        due("19: no member's account from before", x.member(0, 4), 1000);
    }

    /** Everybody at work: a drive, a repair, a tow, a wait for a tow, a wait, and a cancelled call. */
    private static PatrolDesk busyDesk() {
        PatrolDesk x = new PatrolDesk();
        x.addRoad(0, 1, 9);
        x.addRoad(1, 2, 9);
        x.addRoad(2, 4, 9);
        for (int i = 0; i < 6; i++) {
            x.addMember(i % 3);
        }
        x.addPatrol(0, 9, false);
        x.addPatrol(1, 1, true);
        x.addPatrol(2, 5, false);
        x.addGarage(4, 1);
        x.call(0, 0, 4);
        x.call(1, 1, 12);
        x.call(2, 2, 12);
        x.pass(2);
        x.call(3, 0, 2);
        x.call(4, 11, 2);
        x.call(5, 11, 2);
        x.cancel(5);
        x.pass(1);
        x.setWeather(2);
        x.undo();
        return x;
    }

    private static void same(String what, int[] got, int[] want) {
        for (int i = 0; i < got.length; i++) {
            due(what + " (" + i + ")", got[i], want[i]);
        }
    }
}
