/** Promises 1 to 13, sentence by sentence: a new desk, who there is, and work. */
public final class PromisesActsTest {
    private static final Check CHECK = new Check("PromisesActsTest");

    public static void main(String[] args) {
        newDesk();
        addRoad();
        addMember();
        addPatrol();
        addGarage();
        setPromise();
        setWeather();
        call();
        callErrors();
        cancel();
        cancelErrors();
        duty();
        dutyErrors();
        goHome();
        goHomeErrors();
        fetch();
        pass();
        passErrors();
        CHECK.end();
    }

    private static void due(String what, long got, long want) {
        CHECK.due(what, got, want);
    }

    private static void newDesk() {
        CHECK.sentence("Promise 1", "Creates a desk without roads, members, patrols and garages.");
        PatrolDesk x = new PatrolDesk();
        for (int what = 0; what <= 18; what++) {
            due("count(" + what + ")", x.count(what), 0);
        }
        due("no member", x.member(0, 0), -1);
        due("no patrol", x.patrol(0, 0), -1);
        due("no garage", x.garage(0, 0), -1);
        due("no call", x.callOf(0, 0), -1);
        for (int area = 1; area < 12; area++) {
            due("no road", x.distance(0, area), -5);
        }
        x.addMember(1);
        due("each object for itself", new PatrolDesk().count(3), 0);
        due("each object for itself", x.count(3), 1);
    }

    private static void addRoad() {
        PatrolDesk x = new PatrolDesk();
        CHECK.sentence("Promise 2", "Adds a road. This is an act.");
        due("added", x.addRoad(5, 6, 9), 0);
        due("recorded", x.count(23), 1);
        due("undone", x.undo() + x.count(2), 0);
        CHECK.sentence("Promise 2", "`area`: 0 to 11");
        due("area 0", x.addRoad(0, 5, 9), 0);
        due("area 11", x.addRoad(11, 5, 9), 1);
        CHECK.sentence("Promise 2", "`other`: 0 to 11");
        due("other 0", x.addRoad(3, 0, 9), 2);
        due("other 11", x.addRoad(3, 11, 9), 3);
        CHECK.sentence("Promise 2", "`minutes`: 1 to 60");
        due("minutes 1", x.addRoad(1, 2, 1), 4);
        due("minutes 60", x.addRoad(2, 4, 60), 5);
        CHECK.sentence("Promise 2", "Returns its number;");
        due("the next one", x.addRoad(7, 8, 9), 6);
        x.undo();
        due("the same number after undo", x.addRoad(7, 9, 9), 6);
        CHECK.sentence("Promise 2", "UNKNOWN (area, other);");
        for (int wrong : Desks.beside(0, 11)) {
            due("area " + wrong, x.addRoad(wrong, 1, 9), -1);
            due("other " + wrong, x.addRoad(1, wrong, 9), -1);
        }
        CHECK.sentence("Promise 2", "BAD_VALUE (minutes, or both areas are the same);");
        for (int wrong : Desks.beside(1, 60)) {
            due("minutes " + wrong, x.addRoad(1, 9, wrong), -2);
        }
        for (int area = 0; area < 12; area++) {
            due("both " + area, x.addRoad(area, area, 9), -2);
        }
        CHECK.sentence("Promise 2", "NOT_POSSIBLE if there is a road between them;");
        due("there is one", x.addRoad(0, 5, 9), -4);
        due("there is one", x.addRoad(5, 0, 60), -4);
        CHECK.sentence("Promise 2", "FULL if there are 30.");
        PatrolDesk y = Desks.withRoads(new PatrolDesk(), 29);
        due("there are 29", y.addRoad(11, 10, 9), 29);
        due("there are 30", y.addRoad(11, 9, 9), -3);
        y.undo();
        due("there are 29 again", y.addRoad(11, 9, 9), 29);
    }

    private static void addMember() {
        PatrolDesk x = new PatrolDesk();
        CHECK.sentence("Promise 3", "Adds a member. This is an act.");
        due("added", x.addMember(2), 0);
        due("recorded", x.count(23), 1);
        due("undone", x.undo() + x.count(3), 0);
        CHECK.sentence("Promise 3", "`tier`: 0 to 2");
        for (int tier = 0; tier <= 2; tier++) {
            due("tier " + tier, x.addMember(tier), tier);
        }
        CHECK.sentence("Promise 3", "Returns the member's number; BAD_VALUE;");
        for (int wrong : Desks.beside(0, 2)) {
            due("tier " + wrong, x.addMember(wrong), -2);
        }
        due("the next one", x.addMember(0), 3);
        CHECK.sentence("Promise 3", "FULL if there are 20.");
        PatrolDesk y = Desks.ofMembers(19);
        due("there are 19", y.addMember(1), 19);
        due("there are 20", y.addMember(1), -3);
        y.undo();
        due("there are 19 again", y.addMember(2), 19);
    }

    private static void addPatrol() {
        PatrolDesk x = new PatrolDesk();
        CHECK.sentence("Promise 4", "Adds a patrol. This is an act.");
        due("added", x.addPatrol(4, 4, true), 0);
        due("recorded", x.count(23), 1);
        due("undone", x.undo() + x.count(4), 0);
        CHECK.sentence("Promise 4", "`area`: 0 to 11: its home");
        due("area 0", x.addPatrol(0, 4, true), 0);
        due("area 11", x.addPatrol(11, 4, true), 1);
        due("home", x.patrol(0, 0), 0);
        due("home", x.patrol(1, 0), 11);
        CHECK.sentence("Promise 4", "`skill`: 1 to 9");
        due("skill 1", x.addPatrol(4, 1, true), 2);
        due("skill 9", x.addPatrol(4, 9, false), 3);
        due("skill", x.patrol(2, 1), 1);
        due("skill", x.patrol(3, 1), 9);
        CHECK.sentence("Promise 4", "`tows`: whether it can tow");
        due("it can", x.patrol(2, 2), 1);
        due("it can't", x.patrol(3, 2), 0);
        CHECK.sentence("Promise 4", "Returns its number; UNKNOWN; BAD_VALUE;");
        for (int wrong : Desks.beside(0, 11)) {
            due("area " + wrong, x.addPatrol(wrong, 4, true), -1);
        }
        for (int wrong : Desks.beside(1, 9)) {
            due("skill " + wrong, x.addPatrol(4, wrong, true), -2);
        }
        due("the next one", x.addPatrol(4, 4, true), 4);
        CHECK.sentence("Promise 4", "FULL if there are 6.");
        due("there are 5", x.addPatrol(4, 4, true), 5);
        due("there are 6", x.addPatrol(4, 4, true), -3);
        x.duty(5, false);
        due("though one is off", x.addPatrol(4, 4, true), -3);
    }

    private static void addGarage() {
        PatrolDesk x = new PatrolDesk();
        CHECK.sentence("Promise 5", "Adds a garage. This is an act.");
        due("added", x.addGarage(4, 4), 0);
        due("recorded", x.count(23), 1);
        due("undone", x.undo() + x.count(5), 0);
        CHECK.sentence("Promise 5", "`area`: 0 to 11");
        due("area 0", x.addGarage(0, 4), 0);
        due("area 11", x.addGarage(11, 4), 1);
        CHECK.sentence("Promise 5", "`places`: 1 to 9");
        due("places 1", x.addGarage(4, 1), 2);
        due("places 9, in the same area", x.addGarage(4, 9), 3);
        CHECK.sentence("Promise 5", "Returns its number; UNKNOWN; BAD_VALUE;");
        for (int wrong : Desks.beside(0, 11)) {
            due("area " + wrong, x.addGarage(wrong, 4), -1);
        }
        for (int wrong : Desks.beside(1, 9)) {
            due("places " + wrong, x.addGarage(4, wrong), -2);
        }
        CHECK.sentence("Promise 5", "FULL if there are 5.");
        due("there are 4", x.addGarage(4, 4), 4);
        due("there are 5", x.addGarage(4, 4), -3);
    }

    private static void setPromise() {
        PatrolDesk x = Desks.ofTiers(0, 1, 2);
        CHECK.sentence("Promise 6", "Sets the promise of a tier, for calls that come from now on. This is an act.");
        x.call(0, 0, 1);
        due("set", x.setPromise(0, 100), 90);
        due("not for one that came", x.callOf(0, 3), 90);
        x.cancel(0);
        x.call(0, 0, 1);
        due("for one that comes", x.callOf(1, 3), 100);
        x.setPromise(0, 120);
        due("undone", x.undo(), 3);
        due("the promise before", x.count(19), 100);
        CHECK.sentence("Promise 6", "`tier`: 0 to 2");
        for (int tier = 0; tier <= 2; tier++) {
            x.setPromise(tier, 200 + tier);
        }
        for (int tier = 0; tier <= 2; tier++) {
            due("of the tier " + tier, x.count(19 + tier), 200 + tier);
        }
        CHECK.sentence("Promise 6", "`minutes`: 10 to 240");
        due("10", x.setPromise(1, 10), 201);
        due("240", x.setPromise(1, 240), 10);
        CHECK.sentence("Promise 6", "Returns the previous one; BAD_VALUE;");
        due("the previous one", x.setPromise(1, 11), 240);
        for (int wrong : Desks.beside(0, 2)) {
            due("tier " + wrong, x.setPromise(wrong, 60), -2);
        }
        for (int wrong : Desks.beside(10, 240)) {
            due("minutes " + wrong, x.setPromise(1, wrong), -2);
        }
        CHECK.sentence("Promise 6", "NONE if it is so already.");
        due("so already", x.setPromise(1, 11), -5);
        due("not so of another tier", x.setPromise(2, 11), 202);
        PatrolDesk y = new PatrolDesk();
        due("so at first", y.setPromise(2, 40), -5);
        due("nothing is recorded", y.count(23), 0);
    }

    private static void setWeather() {
        PatrolDesk x = Desks.ofTiers(0);
        CHECK.sentence("Promise 7", "Sets the weather. This is an act.");
        due("set", x.setWeather(3), 0);
        due("it is so", x.count(1), 3);
        due("undone", x.undo(), 1);
        due("the weather before", x.count(1), 0);
        CHECK.sentence("Promise 7", "`degree`: 0 to 5");
        due("5", x.setWeather(5), 0);
        due("0", x.setWeather(0), 5);
        CHECK.sentence("Promise 7", "Returns the previous one; BAD_VALUE;");
        due("the previous one", x.setWeather(4), 0);
        due("the previous one", x.setWeather(1), 4);
        for (int wrong : Desks.beside(0, 5)) {
            due("degree " + wrong, x.setWeather(wrong), -2);
        }
        CHECK.sentence("Promise 7", "NONE if it is so already.");
        due("so already", x.setWeather(1), -5);
        due("so at first", new PatrolDesk().setWeather(0), -5);
        due("nothing is recorded", x.count(23), 4);
    }

    private static void call() {
        PatrolDesk x = Desks.ofMembers(20);
        CHECK.sentence("Promise 8", "Takes a call. This is an act.");
        due("taken", x.call(4, 4, 4), 0);
        due("undone", x.undo(), 3);
        due("no calls", x.count(6), 0);
        CHECK.sentence("Promise 8", "`member`: a member");
        due("member 0", x.call(0, 4, 4), 0);
        due("member 19", x.call(19, 4, 4), 1);
        CHECK.sentence("Promise 8", "`area`: 0 to 11");
        due("area 0", x.call(1, 0, 4), 2);
        due("area 11", x.call(2, 11, 4), 3);
        CHECK.sentence("Promise 8", "`trouble`: 1 to 12");
        due("trouble 1", x.call(3, 4, 1), 4);
        due("trouble 12", x.call(4, 4, 12), 5);
        CHECK.sentence("Promise 8", "Returns its number; UNKNOWN (member or area);");
        for (int wrong : Desks.beside(0, 19)) {
            due("member " + wrong, x.call(wrong, 4, 4), -1);
        }
        for (int wrong : Desks.beside(0, 11)) {
            due("area " + wrong, x.call(5, wrong, 4), -1);
        }
        due("the next one", x.call(5, 4, 4), 6);
        PatrolDesk y = Desks.ofMembers(1);
        due("one that is not there yet", y.call(1, 4, 4), -1);
    }

    private static void callErrors() {
        CHECK.sentence("Promise 8", "BAD_VALUE;");
        PatrolDesk x = Desks.ofMembers(3);
        for (int wrong : Desks.beside(1, 12)) {
            due("trouble " + wrong, x.call(0, 4, wrong), -2);
        }
        CHECK.sentence("Promise 8", "NOT_POSSIBLE if the member has a call in one of the states 0 to 4;");
        x.addRoad(0, 1, 2);
        x.addPatrol(0, 1, true);
        x.addGarage(1, 1);
        x.call(0, 1, 1);
        int[] minutes = {0, 1, 2};
        for (int state = 0; state <= 2; state++) {
            due("nothing is done", minutes[state] == 0 ? 0 : x.pass(minutes[state]), 0);
            due("state", x.callOf(0, 5), state);
            due("not in the state " + state, x.call(0, 0, 1), -4);
        }
        x.pass(5);
        due("in the state 5", x.call(0, 0, 12), 1);
        x.pass(3);
        due("state", x.callOf(1, 5), 4);
        due("not in the state 4", x.call(0, 0, 1), -4);
        x.pass(4);
        due("in the state 6", x.call(0, 1, 12), 2);
        x.pass(1);
        due("state", x.callOf(2, 5), 3);
        due("not in the state 3", x.call(0, 0, 1), -4);
        due("another member", x.call(1, 9, 1), 3);
        x.cancel(3);
        due("in the state 7", x.call(1, 9, 1), 4);
        CHECK.sentence("Promise 8", "FULL if there are 40.");
        PatrolDesk y = Desks.ofMembers(20);
        for (int member = 0; member < 20; member++) {
            y.call(member, 0, 1);
        }
        for (int number = 20; number < 40; number++) {
            y.cancel(number - 20);
            due("the call " + number, y.call(number - 20, 0, 1), number);
        }
        y.cancel(39);
        due("there are 40", y.call(19, 0, 1), -3);
    }

    private static void cancel() {
        CHECK.sentence("Promise 9", "Cancels a call that waits, or to which a patrol drives (which is free then; it stays"
                + " in the area from which it came). This is an act.");
        PatrolDesk x = Desks.withLine(Desks.ofMembers(2), 5);
        x.call(0, 2, 1);
        due("one that waits", x.cancel(0), 0);
        due("it is cancelled", x.callOf(0, 5), 7);
        x.addPatrol(0, 9, true);
        x.call(0, 2, 1);
        x.pass(7);
        due("one to which a patrol drives", x.callOf(1, 6), 0);
        due("is cancelled", x.cancel(1), 7);
        due("the patrol is free", x.patrol(0, 3), 0);
        due("without a call", x.patrol(0, 5), -5);
        due("without minutes left", x.patrol(0, 6), -5);
        due("in the area from which it came", x.patrol(0, 4), 0);
        due("nobody drives to the call", x.callOf(1, 6), -5);
        x.call(1, 1, 1);
        due("it is free for another one", x.nearest(2), 0);
        x.pass(1);
        due("from where it is", x.patrol(0, 6), 5);
        due("an act", x.undo(), 3);
        x.undo();
        x.undo();
        due("undone", x.callOf(1, 5), 1);
        due("it drives again", x.patrol(0, 6), 4);
        PatrolDesk away = Desks.withLine(Desks.ofMembers(1), 5);
        away.addPatrol(0, 9, true);
        away.call(0, 1, 1);
        away.pass(11);
        away.call(0, 3, 1);
        away.pass(4);
        due("cancelled, as it drives from 1 to 3", away.cancel(1), 4);
        due("neither at home nor at the call", away.patrol(0, 4), 1);
        away.call(0, 1, 1);
        away.pass(1);
        due("there at once", away.callOf(2, 5), 2);
        CHECK.sentence("Promise 9", "Returns the minutes that it has waited;");
        PatrolDesk y = Desks.ofMembers(1);
        y.pass(17);
        y.call(0, 0, 1);
        Desks.passAll(y, 250);
        due("250 minutes", y.cancel(0), 250);
    }

    private static void cancelErrors() {
        CHECK.sentence("Promise 9", "`call`: a call");
        PatrolDesk every = Desks.ofMembers(20);
        for (int call = 0; call < 20; call++) {
            every.call(call, 0, 1);
        }
        every.pass(3);
        for (int call = 19; call >= 0; call--) {
            due("call " + call, every.cancel(call), 3);
            due("state of " + call, every.callOf(call, 5), 7);
        }
        CHECK.sentence("Promise 9", "UNKNOWN;");
        PatrolDesk x = Desks.busy();
        for (int wrong : Desks.beside(0, 6)) {
            due("call " + wrong, x.cancel(wrong), -1);
        }
        due("no calls at all", new PatrolDesk().cancel(0), -1);
        CHECK.sentence("Promise 9", "NOT_POSSIBLE if it is in none of the states 0 and 1.");
        int[] states = {5, 2, 6, 3, 7};
        for (int call = 0; call < 5; call++) {
            due("state", x.callOf(call, 5), states[call]);
            due("not in the state " + states[call], x.cancel(call), -4);
        }
        due("one waits for a tow for which a patrol drives", x.callOf(3, 6), 1);
        due("it drives on", x.patrol(1, 3), 1);
        due("in the state 0", x.callOf(5, 5), 0);
        due("it is possible", x.cancel(5), 1);
        due("in the state 1", x.callOf(6, 5), 1);
        due("it is possible", x.cancel(6), 1);
        due("but once", x.cancel(6), -4);
        PatrolDesk y = Desks.ofMembers(1);
        y.addPatrol(0, 1, true);
        y.call(0, 0, 12);
        y.pass(1);
        due("state", y.callOf(0, 5), 3);
        due("not if nobody drives for its tow", y.cancel(0), -4);
        y.addGarage(0, 1);
        y.pass(1);
        due("state", y.callOf(0, 5), 4);
        due("not in the state 4", y.cancel(0), -4);
    }

    private static void duty() {
        CHECK.sentence("Promise 10", "Puts a patrol on duty, or off. One that comes on duty is free, where it was. This is an act.");
        PatrolDesk x = Desks.withLine(Desks.ofMembers(2), 1);
        x.addPatrol(0, 9, true);
        x.addPatrol(1, 9, true);
        x.call(0, 2, 1);
        x.pass(7);
        due("it is at the call", x.patrol(1, 4), 2);
        due("off", x.duty(1, false), 1);
        due("it is off", x.patrol(1, 3), 4);
        due("where it was", x.patrol(1, 4), 2);
        x.call(1, 2, 1);
        x.pass(1);
        due("it is not sent", x.callOf(1, 6), 0);
        due("on", x.duty(1, true), 2);
        due("free", x.patrol(1, 3), 0);
        due("where it was", x.patrol(1, 4), 2);
        due("without a call", x.patrol(1, 5), -5);
        due("an act", x.undo(), 3);
        due("undone", x.patrol(1, 3), 4);
        PatrolDesk y = new PatrolDesk();
        for (int i = 0; i < 6; i++) {
            y.addPatrol(0, 9, true);
        }
        CHECK.sentence("Promise 10", "`patrol`: a patrol");
        y.duty(4, false);
        for (int i = 0; i < 6; i++) {
            due("what the patrol " + i + " does", y.patrol(i, 3), i == 4 ? 4 : 0);
        }
        CHECK.sentence("Promise 10", "`on`: whether it is on duty then");
        y.duty(4, true);
        due("on", y.patrol(4, 3), 0);
        y.duty(5, false);
        due("off", y.patrol(5, 3), 4);
        y.duty(5, true);
        CHECK.sentence("Promise 10", "Returns how many patrols are on duty then;");
        for (int i = 0; i < 6; i++) {
            due("patrols on duty", y.duty(i, false), 5 - i);
        }
        for (int i = 0; i < 6; i++) {
            due("patrols on duty", y.duty(i, true), i + 1);
        }
    }

    private static void dutyErrors() {
        PatrolDesk x = Desks.busy();
        CHECK.sentence("Promise 10", "UNKNOWN;");
        for (int wrong : Desks.beside(0, 2)) {
            due("on, patrol " + wrong, x.duty(wrong, true), -1);
            due("off, patrol " + wrong, x.duty(wrong, false), -1);
        }
        CHECK.sentence("Promise 10", "NOT_POSSIBLE if it is to be off and drives, repairs or tows;");
        due("it repairs", x.patrol(0, 3), 2);
        due("not off", x.duty(0, false), -4);
        due("it drives", x.patrol(2, 3), 1);
        due("not off", x.duty(2, false), -4);
        x.pass(8);
        due("it tows", x.patrol(1, 3), 3);
        due("not off", x.duty(1, false), -4);
        due("it tows on", x.patrol(1, 3), 3);
        CHECK.sentence("Promise 10", "NONE if it is so already.");
        due("on already, and repairs", x.duty(0, true), -5);
        due("on already, and tows", x.duty(1, true), -5);
        due("on already, and drives", x.duty(2, true), -5);
        PatrolDesk y = new PatrolDesk();
        y.addPatrol(0, 9, true);
        due("on already, and free", y.duty(0, true), -5);
        y.duty(0, false);
        due("off already", y.duty(0, false), -5);
        due("two acts only", y.count(23), 2);
    }

    private static void goHome() {
        CHECK.sentence("Promise 11", "Brings a free patrol to its home, without any minutes. This is an act.");
        PatrolDesk x = Desks.withLine(Desks.ofMembers(1), 7);
        x.addPatrol(1, 9, true);
        x.call(0, 3, 1);
        x.pass(20);
        due("it is away", x.patrol(0, 4), 3);
        due("brought home", x.goHome(0), 14);
        due("it is there", x.patrol(0, 4), 1);
        due("free", x.patrol(0, 3), 0);
        due("without any minutes", x.count(0), 20);
        due("nor any of its own", x.patrol(0, 11), 19);
        due("an act", x.undo(), 3);
        due("undone", x.patrol(0, 4), 3);
        CHECK.sentence("Promise 11", "Returns the distance;");
        x.addRoad(3, 1, 13);
        due("the distance, as it is then", x.goHome(0), 13);
        CHECK.sentence("Promise 11", "`patrol`: a patrol");
        PatrolDesk y = Desks.withLine(Desks.ofMembers(2), 1);
        y.addPatrol(0, 9, true);
        y.addPatrol(3, 9, true);
        y.call(0, 1, 1);
        y.call(1, 2, 1);
        y.pass(7);
        due("the patrol 1", y.goHome(1), 1);
        due("is at its home", y.patrol(1, 4), 3);
        due("the other one is not", y.patrol(0, 4), 1);
        due("the patrol 0", y.goHome(0), 1);
        due("is at its home", y.patrol(0, 4), 0);
    }

    private static void goHomeErrors() {
        PatrolDesk x = Desks.busy();
        CHECK.sentence("Promise 11", "UNKNOWN;");
        for (int wrong : Desks.beside(0, 2)) {
            due("patrol " + wrong, x.goHome(wrong), -1);
        }
        // Roads never go within a state, and a patrol gets about by roads alone: there always is a way.
        CHECK.sentence("Promise 11", "NOT_POSSIBLE if it is not free (one that is off is not), or there is no way;");
        due("it repairs", x.goHome(0), -4);
        due("it drives", x.goHome(2), -4);
        x.pass(8);
        due("it tows", x.patrol(1, 3), 3);
        due("it tows", x.goHome(1), -4);
        x.pass(33);
        due("it is away, free", x.patrol(2, 4), 0);
        x.duty(2, false);
        due("it is off", x.goHome(2), -4);
        due("it stays", x.patrol(2, 4), 0);
        x.duty(2, true);
        due("it is free", x.goHome(2), 18);
        CHECK.sentence("Promise 11", "NONE if it is there.");
        due("it is there", x.goHome(2), -5);
        x.duty(2, false);
        due("it is there, but off", x.goHome(2), -4);
        PatrolDesk y = new PatrolDesk();
        y.addPatrol(11, 9, true);
        due("at first, without roads", y.goHome(0), -5);
    }

    private static void fetch() {
        CHECK.sentence("Promise 12", "Fetches cars from a garage. This is an act.");
        PatrolDesk x = Desks.ofMembers(9);
        x.addGarage(0, 9);
        x.addGarage(1, 9);
        x.addPatrol(0, 1, true);
        for (int member = 0; member < 9; member++) {
            x.call(member, 0, 12);
        }
        x.pass(10);
        due("nine cars", x.garage(0, 2), 9);
        due("two fetched", x.fetch(0, 2), 7);
        due("seven cars", x.garage(0, 2), 7);
        due("an act", x.undo(), 3);
        due("undone", x.garage(0, 2), 9);
        CHECK.sentence("Promise 12", "`garage`: a garage");
        due("the garage 1 has none", x.fetch(1, 1), -4);
        due("the garage 0 has nine", x.fetch(0, 1), 8);
        due("the garage 1 still has none", x.garage(1, 2), 0);
        x.undo();
        CHECK.sentence("Promise 12", "`cars`: 1 to 9");
        due("9", x.fetch(0, 9), 0);
        x.undo();
        due("1", x.fetch(0, 1), 8);
        CHECK.sentence("Promise 12", "Returns how many are left there; UNKNOWN; BAD_VALUE;");
        due("left", x.fetch(0, 3), 5);
        for (int wrong : Desks.beside(0, 1)) {
            due("garage " + wrong, x.fetch(wrong, 1), -1);
        }
        for (int wrong : Desks.beside(1, 9)) {
            due("cars " + wrong, x.fetch(0, wrong), -2);
        }
        CHECK.sentence("Promise 12", "NOT_POSSIBLE if there are not so many.");
        due("6 of 5", x.fetch(0, 6), -4);
        due("9 of 5", x.fetch(0, 9), -4);
        due("5 of 5", x.fetch(0, 5), 0);
        due("1 of 0", x.fetch(0, 1), -4);
        due("1 of an empty one", x.fetch(1, 1), -4);
        x.call(0, 0, 12);
        x.pass(1);
        due("one is under way", x.garage(0, 3), 1);
        due("which is not there", x.fetch(0, 1), -4);
    }

    private static void pass() {
        CHECK.sentence("Promise 13", "Lets minutes pass, one after the other. This is an act.");
        PatrolDesk x = Desks.busy();
        PatrolDesk y = Desks.busy();
        x.pass(60);
        for (int i = 0; i < 60; i++) {
            y.pass(1);
        }
        int[] one = Desks.told(x);
        int[] other = Desks.told(y);
        for (int i = 0; i < one.length; i++) {
            due("one after the other [" + i + "]", one[i], other[i]);
        }
        due("an act", x.undo(), 3);
        due("undone", x.count(0), 9);
        CHECK.sentence("Promise 13", "`minutes`: 1 to 120");
        due("1", x.pass(1), 0);
        due("the minute", x.count(0), 10);
        due("120", x.pass(120), 3);
        due("the minute", x.count(0), 130);
        CHECK.sentence("Promise 13", "Returns how many calls are done in them;");
        PatrolDesk z = Desks.busy();
        due("none in 17", z.pass(17), 0);
        due("a repair in the next", z.pass(1), 1);
        due("a tow and a repair", z.pass(12), 2);
        z.cancel(5);
        due("none after that", z.pass(120), 0);
    }

    private static void passErrors() {
        PatrolDesk x = Desks.busy();
        CHECK.sentence("Promise 13", "BAD_VALUE;");
        for (int wrong : Desks.beside(1, 120)) {
            due("minutes " + wrong, x.pass(wrong), -2);
        }
        due("the minute stays", x.count(0), 9);
        CHECK.sentence("Promise 13", "NOT_POSSIBLE if the minute would become more than 2880.");
        Desks.passAll(x, 2880 - 9 - 77);
        due("78 minutes", x.pass(78), -4);
        due("120 minutes", x.pass(120), -4);
        due("the minute stays", x.count(0), 2803);
        due("77 minutes", x.pass(77), 0);
        due("the last minute", x.count(0), 2880);
        for (int minutes : new int[] {1, 2, 120}) {
            due("no more", x.pass(minutes), -4);
        }
        for (int wrong : Desks.beside(1, 120)) {
            due("minutes " + wrong + " then", x.pass(wrong), -2);
        }
    }
}
