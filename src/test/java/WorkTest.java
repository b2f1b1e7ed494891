/** Promises 8 to 13: calls, cancels, duty, ways home, fetched cars and minutes that pass. */
public final class WorkTest {
    private static final int LEAST = Integer.MIN_VALUE;
    private static final int MOST = Integer.MAX_VALUE;
    private static final Check CHECK = new Check("WorkTest");

    public static void main(String[] args) {
        call();
        callInEachState();
        callWhenFull();
        callback();
        callbackAgainstTheLatestRepairer();
        cancel();
        cancelOfOneDrivenTo();
        duty();
        goHome();
        fetch();
        pass();
        passUpToTheLastMinute();
        CHECK.end();
    }

    private static void due(String what, long got, long want) {
        CHECK.due(what, got, want);
    }

    private static void call() {
        PatrolDesk x = new PatrolDesk();
        due("8: no members yet", x.call(0, 0, 1), -1);
        x.addMember(1);
        x.addMember(2);
        for (int wrong : new int[] {LEAST, -1, 2, MOST}) {
            due("8: member " + wrong, x.call(wrong, 0, 0), -1);
        }
        for (int wrong : new int[] {LEAST, -1, 12, MOST}) {
            due("8: area " + wrong, x.call(0, wrong, 0), -1);
        }
        for (int wrong : new int[] {LEAST, 0, 13, MOST}) {
            due("8: trouble " + wrong, x.call(0, 0, wrong), -2);
        }
        due("8: errors take nothing", x.count(6), 0);
        due("8: errors record nothing", x.count(23), 2);
        x.pass(7);
        x.setWeather(2);
        due("8: its number", x.call(1, 11, 12), 0);
        due("8: an act", x.count(23), 4);
        int[] told = {1, 11, 12, 60, 7, 0, -5, 0, -5, -5, 0, 10060, -5};
        for (int what = 0; what <= 12; what++) {
            due("8: callOf(0, " + what + ")", x.callOf(0, what), told[what]);
        }
        due("8: an open call", x.call(1, 0, 1), -4);
        due("8: trouble ahead of the open call", x.call(1, 0, 13), -2);
        due("8: another member", x.call(0, 0, 1), 1);
        x.undo();
        due("8: undone", x.count(6), 1);
    }

    private static void callInEachState() {
        PatrolDesk x = new PatrolDesk();
        x.addRoad(0, 1, 2);
        x.addMember(0);
        x.addPatrol(0, 1, true);
        x.addGarage(1, 1);
        x.call(0, 1, 4);
        due("8: state 0", x.callOf(0, 5), 0);
        due("8: not in state 0", x.call(0, 0, 1), -4);
        x.pass(1);
        due("8: state 1", x.callOf(0, 5), 1);
        due("8: not in state 1", x.call(0, 0, 1), -4);
        x.pass(2);
        due("8: state 2", x.callOf(0, 5), 2);
        due("8: not in state 2", x.call(0, 0, 1), -4);
        x.pass(20);
        due("8: state 5", x.callOf(0, 5), 5);
        due("8: after state 5", x.call(0, 0, 12), 1);
        x.pass(3);
        due("8: state 4", x.callOf(1, 5), 4);
        due("8: not in state 4", x.call(0, 0, 1), -4);
        x.pass(4);
        due("8: state 6", x.callOf(1, 5), 6);
        due("8: after state 6", x.call(0, 0, 12), 2);
        x.pass(3);
        due("8: state 3, as the garage is full", x.callOf(2, 5), 3);
        due("8: not in state 3", x.call(0, 0, 1), -4);
        x.fetch(0, 1);
        x.pass(5);
        due("8: state 6", x.callOf(2, 5), 6);
        x.call(0, 1, 1);
        x.cancel(3);
        due("8: after state 7", x.call(0, 1, 1), 4);
    }

    private static void callWhenFull() {
        PatrolDesk x = new PatrolDesk();
        x.addMember(0);
        x.addMember(0);
        for (int i = 0; i < 39; i++) {
            due("8: call " + i, x.call(0, 0, 1), i);
            x.cancel(i);
        }
        due("8: the fortieth", x.call(0, 0, 1), 39);
        due("8: full", x.call(1, 0, 1), -3);
        due("8: not possible ahead of full", x.call(0, 0, 1), -4);
        due("8: trouble ahead of full", x.call(1, 0, 0), -2);
        due("8: unknown ahead of full", x.call(1, 12, 1), -1);
        due("8: 40 calls", x.count(6), 40);
    }

    /** A desk whose call 0, of member 0, was repaired by the patrol 0 in the minute 5. */
    private static PatrolDesk repairedInMinuteFive() {
        PatrolDesk x = new PatrolDesk();
        x.addMember(0);
        x.addPatrol(0, 9, false);
        x.call(0, 0, 1);
        due("13: repaired", x.pass(6), 1);
        due("13: in the minute 5", x.callOf(0, 9), 5);
        return x;
    }

    private static void callback() {
        PatrolDesk x = repairedInMinuteFive();
        x.pass(119);
        due("8: 120 minutes later", x.call(0, 11, 3), 1);
        due("8: is a callback, in whatever area", x.callOf(1, 10), 1);
        due("8: the first was none", x.callOf(0, 10), 0);
        due("8: counts against the patrol", x.patrol(0, 9), 1);
        due("8: counts for the member", x.member(0, 5), 1);
        due("8: counts in all", x.count(18), 1);
        x.cancel(1);
        due("8: still if it is cancelled", x.patrol(0, 9), 1);
        due("8: still if it is cancelled", x.count(18), 1);
        due("8: a cancelled call between", x.call(0, 0, 3), 2);
        due("8: is none of those that were repaired", x.callOf(2, 10), 1);
        due("8: counts again", x.patrol(0, 9), 2);
        x.undo();
        due("8: undone", x.patrol(0, 9), 1);
        x.pass(1);
        due("8: 121 minutes later", x.call(0, 0, 3), 2);
        due("8: is no callback", x.callOf(2, 10), 0);
        due("8: counts no more", x.patrol(0, 9), 1);
        PatrolDesk y = repairedInMinuteFive();
        y.addMember(0);
        y.call(1, 0, 1);
        due("8: another member's is none", y.callOf(1, 10), 0);
        due("8: another member's is none", y.patrol(0, 9), 0);
    }

    private static void callbackAgainstTheLatestRepairer() {
        PatrolDesk x = repairedInMinuteFive();
        x.addPatrol(4, 9, false);
        x.duty(0, false);
        x.call(0, 4, 1);
        due("8: a callback", x.patrol(0, 9), 1);
        x.pass(6);
        due("8: repaired by the other", x.patrol(1, 7), 1);
        x.call(0, 4, 1);
        due("8: against the latest repairer", x.patrol(1, 9), 1);
        due("8: against that one alone", x.patrol(0, 9), 1);
        // A tow is no repair: the latest repaired call stays the one before it.
        PatrolDesk y = repairedInMinuteFive();
        y.addPatrol(0, 1, true);
        y.addGarage(0, 2);
        y.duty(0, false);
        y.call(0, 0, 12);
        y.pass(2);
        due("8: towed", y.callOf(1, 5), 6);
        y.call(0, 0, 1);
        due("8: against the repairer", y.patrol(0, 9), 2);
        due("8: not against the one that towed", y.patrol(1, 9), 0);
        y.cancel(2);
        y.pass(118);
        y.call(0, 0, 1);
        due("8: 121 minutes after the repair", y.callOf(3, 10), 0);
    }

    private static void cancel() {
        PatrolDesk x = new PatrolDesk();
        x.addMember(0);
        due("9: no calls yet", x.cancel(0), -1);
        x.pass(10);
        x.call(0, 0, 1);
        x.pass(25);
        for (int wrong : new int[] {LEAST, -1, 1, MOST}) {
            due("9: call " + wrong, x.cancel(wrong), -1);
        }
        due("9: nothing recorded", x.count(23), 4);
        due("9: minutes waited", x.cancel(0), 25);
        due("9: state", x.callOf(0, 5), 7);
        due("9: its minute", x.callOf(0, 9), 35);
        due("9: no more to cancel", x.cancel(0), -4);
        x.pass(9);
        due("9: waits no more", x.callOf(0, 7), 25);
        due("9: its minute stays", x.callOf(0, 9), 35);
        due("9: sums", x.count(15), 25);
        x.undo();
        due("9: an act", x.undo(), 2);
        due("9: undone", x.callOf(0, 5), 0);
        PatrolDesk y = new PatrolDesk();
        y.addMember(0);
        y.addPatrol(0, 1, false);
        y.call(0, 0, 4);
        y.pass(1);
        due("9: not in repair", y.cancel(0), -4);
        y.pass(20);
        due("9: not repaired", y.cancel(0), -4);
        y.call(0, 0, 5);
        y.pass(1);
        due("9: it waits for a tow", y.callOf(1, 5), 3);
        due("9: not one that waits for a tow", y.cancel(1), -4);
        y.addPatrol(0, 1, true);
        y.addGarage(0, 1);
        y.pass(1);
        due("9: it is towed", y.callOf(1, 5), 4);
        due("9: not in a tow", y.cancel(1), -4);
        y.pass(1);
        due("9: not towed", y.cancel(1), -4);
    }

    private static void cancelOfOneDrivenTo() {
        PatrolDesk x = new PatrolDesk();
        x.addRoad(0, 1, 10);
        x.addMember(0);
        x.addPatrol(0, 9, true);
        x.call(0, 1, 1);
        x.pass(5);
        due("9: driven to", x.callOf(0, 6), 0);
        due("9: cancelled on the way", x.cancel(0), 5);
        due("9: the patrol is free", x.patrol(0, 3), 0);
        due("9: where it came from", x.patrol(0, 4), 0);
        due("9: without a call", x.patrol(0, 5), -5);
        due("9: without minutes left", x.patrol(0, 6), -5);
        due("9: its minutes count", x.patrol(0, 11), 4);
        due("9: nobody got to it", x.callOf(0, 8), -5);
        due("9: nobody drives to it", x.callOf(0, 6), -5);
        x.pass(20);
        due("9: it does not drive on", x.patrol(0, 4), 0);
        due("9: no more minutes", x.patrol(0, 11), 4);
        due("9: another call", x.call(0, 1, 1), 1);
        x.pass(1);
        due("9: it drives the whole way", x.patrol(0, 6), 10);
    }

    private static void duty() {
        PatrolDesk x = new PatrolDesk();
        due("10: no patrols yet", x.duty(0, true), -1);
        x.addPatrol(0, 9, true);
        x.addPatrol(1, 1, true);
        x.addMember(0);
        for (int wrong : new int[] {LEAST, -1, 2, MOST}) {
            due("10: patrol " + wrong, x.duty(wrong, false), -1);
        }
        due("10: on already", x.duty(0, true), -5);
        due("10: nothing recorded", x.count(23), 3);
        due("10: off", x.duty(0, false), 1);
        due("10: told", x.patrol(0, 3), 4);
        due("10: without a call", x.patrol(0, 5), -5);
        due("10: without minutes", x.patrol(0, 6), -5);
        due("10: off already", x.duty(0, false), -5);
        x.call(0, 0, 1);
        x.pass(5);
        due("10: one that is off is not sent", x.callOf(0, 5), 0);
        due("10: nor is it nearest", x.nearest(0), -5);
        due("10: on", x.duty(0, true), 2);
        due("10: free, where it was", x.patrol(0, 4), 0);
        x.pass(1);
        due("10: it repairs", x.patrol(0, 3), 2);
        due("10: not off in a repair", x.duty(0, false), -4);
        due("10: on already in a repair", x.duty(0, true), -5);
        x.addRoad(0, 2, 5);
        x.pass(5);
        x.call(0, 2, 1);
        x.pass(1);
        due("10: it drives", x.patrol(0, 3), 1);
        due("10: not off in a drive", x.duty(0, false), -4);
        x.cancel(1);
        due("10: off, the one", x.duty(0, false), 1);
        due("10: off, the other", x.duty(1, false), 0);
        due("10: an act", x.undo(), 3);
        due("10: undone", x.count(22), 1);
        dutyInATowAndAfterIt();
    }

    private static void dutyInATowAndAfterIt() {
        PatrolDesk x = new PatrolDesk();
        x.addRoad(0, 1, 5);
        x.addMember(0);
        x.addPatrol(0, 1, true);
        x.addGarage(1, 1);
        x.call(0, 0, 12);
        x.pass(2);
        due("10: it tows", x.patrol(0, 3), 3);
        due("10: not off in a tow", x.duty(0, false), -4);
        x.pass(9);
        due("10: off after it", x.duty(0, false), 0);
        due("10: on after it", x.duty(0, true), 1);
        due("10: where it was", x.patrol(0, 4), 1);
    }

    private static void goHome() {
        PatrolDesk x = new PatrolDesk();
        due("11: no patrols yet", x.goHome(0), -1);
        x.addRoad(0, 1, 6);
        x.addRoad(1, 2, 5);
        x.addRoad(0, 2, 20);
        x.addMember(0);
        x.addPatrol(0, 9, true);
        for (int wrong : new int[] {LEAST, -1, 1, MOST}) {
            due("11: patrol " + wrong, x.goHome(wrong), -1);
        }
        due("11: at home", x.goHome(0), -5);
        x.duty(0, false);
        due("11: off, though at home", x.goHome(0), -4);
        x.duty(0, true);
        x.call(0, 2, 1);
        x.pass(1);
        due("11: not in a drive", x.goHome(0), -4);
        x.pass(11);
        due("11: not in a repair", x.goHome(0), -4);
        x.pass(5);
        due("11: it is there", x.patrol(0, 4), 2);
        x.duty(0, false);
        due("11: not if it is off", x.goHome(0), -4);
        x.duty(0, true);
        due("11: the distance", x.goHome(0), 11);
        due("11: at home then", x.patrol(0, 4), 0);
        due("11: without any minutes", x.count(0), 17);
        due("11: not at work", x.patrol(0, 11), 16);
        due("11: an act", x.undo(), 3);
        due("11: undone", x.patrol(0, 4), 2);
        // Roads stay, so a patrol always has a way back; here it has none to anywhere else.
        PatrolDesk y = new PatrolDesk();
        y.addPatrol(0, 9, true);
        due("11: at home without roads", y.goHome(0), -5);
    }

    private static void fetch() {
        PatrolDesk x = new PatrolDesk();
        due("12: no garages yet", x.fetch(0, 1), -1);
        x.addGarage(0, 2);
        x.addMember(0);
        x.addMember(0);
        x.addPatrol(0, 1, true);
        for (int wrong : new int[] {LEAST, -1, 1, MOST}) {
            due("12: garage " + wrong, x.fetch(wrong, 0), -1);
        }
        for (int wrong : new int[] {LEAST, -1, 0, 10, MOST}) {
            due("12: cars " + wrong, x.fetch(0, wrong), -2);
        }
        due("12: it is empty", x.fetch(0, 1), -4);
        due("12: it is empty", x.fetch(0, 9), -4);
        x.call(0, 0, 12);
        x.call(1, 0, 12);
        due("12: both towed", x.pass(3), 2);
        due("12: too many", x.fetch(0, 3), -4);
        due("12: one", x.fetch(0, 1), 1);
        due("12: the other", x.fetch(0, 1), 0);
        due("12: towed so far", x.garage(0, 4), 2);
        due("12: none left", x.fetch(0, 1), -4);
        due("12: an act", x.undo(), 3);
        due("12: undone", x.garage(0, 2), 1);
        x.undo();
        due("12: both at once", x.fetch(0, 2), 0);
    }

    private static void pass() {
        PatrolDesk x = new PatrolDesk();
        for (int wrong : new int[] {LEAST, -1, 0, 121, MOST}) {
            due("13: minutes " + wrong, x.pass(wrong), -2);
        }
        due("13: nothing recorded", x.count(23), 0);
        due("13: nothing done", x.pass(120), 0);
        due("13: the minute", x.count(0), 120);
        x.addMember(0);
        x.addMember(1);
        x.addMember(2);
        x.addPatrol(0, 1, true);
        x.addPatrol(1, 1, true);
        x.addGarage(0, 1);
        x.call(0, 0, 12);
        x.call(1, 1, 1);
        x.call(2, 9, 1);
        x.cancel(2);
        due("13: a tow is done", x.pass(2), 1);
        due("13: a repair is not yet", x.pass(3), 0);
        due("13: a repair is done", x.pass(1), 1);
        x.undo();
        x.undo();
        x.undo();
        due("13: both at once, the cancelled one not", x.pass(6), 2);
        due("13: an act", x.undo(), 1);
        due("13: undone", x.count(0), 120);
    }

    private static void passUpToTheLastMinute() {
        PatrolDesk x = new PatrolDesk();
        for (int i = 0; i < 23; i++) {
            x.pass(120);
        }
        x.pass(119);
        due("13: minute 2879", x.count(0), 2879);
        due("13: too far", x.pass(2), -4);
        due("13: bad value ahead of too far", x.pass(121), -2);
        due("13: nothing changes", x.count(0), 2879);
        due("13: the last one", x.pass(1), 0);
        due("13: minute 2880", x.count(0), 2880);
        due("13: no more", x.pass(1), -4);
        due("13: an act", x.undo(), 3);
    }
}
