/** The desk of a breakdown service: ../shared/DOC.md says what it promises. */
public final class PatrolDesk {
    /** There is no such area, road, member, patrol, garage or call. */
    public static final int UNKNOWN = -1;
    /** Another argument is out of range. */
    public static final int BAD_VALUE = -2;
    /** There is no more room. */
    public static final int FULL = -3;
    /** This is not possible. */
    public static final int NOT_POSSIBLE = -4;
    /** There is no such thing; not an error. */
    public static final int NONE = -5;

    private static final int AREAS = 12;
    private static final int AREAS_OF_A_REGION = 4;
    private static final int MOST_ROADS = 30;
    private static final int LONGEST_ROAD = 60;
    /** More than any way takes, and so little that three of it still make an int. */
    private static final int NO_WAY = 1_000_000;

    private static final int TIERS = 3;
    private static final int MOST_MEMBERS = 20;
    private static final int SHORTEST_PROMISE = 10;
    private static final int LONGEST_PROMISE = 240;
    private static final int WORST_WEATHER = 5;
    private static final int MINUTES_A_DEGREE = 10;

    private static final int MOST_PATROLS = 6;
    private static final int GREATEST_SKILL = 9;
    private static final int MOST_GARAGES = 5;
    private static final int MOST_PLACES = 9;

    private static final int MOST_CALLS = 40;
    private static final int GREATEST_TROUBLE = 12;
    private static final int TROUBLE_ABOVE_SKILL = 3;
    private static final int REPAIR_MINUTES = 5;
    private static final int CALLBACK_MINUTES = 120;

    private static final int CALLBACK_REBATE = 5;
    private static final int LATE_PAYMENT = 15;
    private static final int ACCOUNT_BASE = 1000;
    private static final int REST_BASE = 10000;

    private static final int LAST_MINUTE = 2880;
    private static final int MOST_MINUTES_A_PASS = 120;
    private static final int FORECAST_MINUTES = 240;

    private static final int MOST_HISTORY = 4;
    private static final int LONGEST_TEXT = 60;
    private static final int TEXT_FAULT = -100;
    private static final int NO_FAULT = -1;
    private static final int NUMBERS_OF_A_CALL = 3;

    // The states of a call.
    private static final int WAITS = 0;
    private static final int DRIVEN_TO = 1;
    private static final int IN_REPAIR = 2;
    private static final int WAITS_FOR_TOW = 3;
    private static final int IN_TOW = 4;
    private static final int REPAIRED = 5;
    private static final int TOWED = 6;
    private static final int CANCELLED = 7;
    private static final int CALL_STATES = 8;

    // What a patrol does.
    private static final int FREE = 0;
    private static final int DRIVES = 1;
    private static final int REPAIRS = 2;
    private static final int TOWS = 3;
    private static final int OFF = 4;

    // What can be summed over calls.
    private static final int SUM_CALLS = 0;
    private static final int SUM_WAITED = 1;
    private static final int SUM_PAID = 2;
    private static final int SUM_GIVEN_BACK = 3;
    private static final int SUM_CALLBACKS = 4;
    private static final int SUM_LATE = 5;

    /** What a check answers if nothing speaks against it: no error is 0. */
    private static final int FINE = 0;

    private final State now = new State();
    private final State kept = new State();
    /** For what may have to be dropped again: a forecast, and calls that are read. */
    private final State trial = new State();
    /** The oldest one first; all of them are made here, as a run has little room for new ones. */
    private final State[] history = new State[MOST_HISTORY];
    private int recorded;
    private boolean hasKept;
    private final CallText text = new CallText();

    public PatrolDesk() {
        for (int i = 0; i < MOST_HISTORY; i++) {
            history[i] = new State();
        }
    }

    // ---- the map and who there is

    public int addRoad(int area, int other, int minutes) {
        if (!isArea(area) || !isArea(other)) {
            return UNKNOWN;
        }
        if (minutes < 1 || minutes > LONGEST_ROAD || area == other) {
            return BAD_VALUE;
        }
        if (now.map.road(area, other) > 0) {
            return NOT_POSSIBLE;
        }
        if (now.map.roads >= MOST_ROADS) {
            return FULL;
        }
        record();
        return now.map.build(area, other, minutes);
    }

    public int addMember(int tier) {
        if (!isTier(tier)) {
            return BAD_VALUE;
        }
        if (now.members >= MOST_MEMBERS) {
            return FULL;
        }
        record();
        return now.enrol(tier);
    }

    public int addPatrol(int area, int skill, boolean tows) {
        if (!isArea(area)) {
            return UNKNOWN;
        }
        if (skill < 1 || skill > GREATEST_SKILL) {
            return BAD_VALUE;
        }
        if (now.patrolCount >= MOST_PATROLS) {
            return FULL;
        }
        record();
        return now.hire(area, skill, tows);
    }

    public int addGarage(int area, int places) {
        if (!isArea(area)) {
            return UNKNOWN;
        }
        if (places < 1 || places > MOST_PLACES) {
            return BAD_VALUE;
        }
        if (now.garageCount >= MOST_GARAGES) {
            return FULL;
        }
        record();
        return now.open(area, places);
    }

    public int setPromise(int tier, int minutes) {
        if (!isTier(tier) || minutes < SHORTEST_PROMISE || minutes > LONGEST_PROMISE) {
            return BAD_VALUE;
        }
        int previous = now.promises[tier];
        if (previous == minutes) {
            return NONE;
        }
        record();
        now.promises[tier] = minutes;
        return previous;
    }

    public int setWeather(int degree) {
        if (degree < 0 || degree > WORST_WEATHER) {
            return BAD_VALUE;
        }
        int previous = now.weather;
        if (previous == degree) {
            return NONE;
        }
        record();
        now.weather = degree;
        return previous;
    }

    // ---- work

    public int call(int member, int area, int trouble) {
        int error = now.refusal(member, area, trouble);
        if (error != FINE) {
            return error;
        }
        record();
        return now.take(member, area, trouble);
    }

    public int cancel(int call) {
        if (!now.isCall(call)) {
            return UNKNOWN;
        }
        Breakdown breakdown = now.calls[call];
        if (!breakdown.isUnattended()) {
            return NOT_POSSIBLE;
        }
        record();
        int sent = now.patrolOf(call);
        if (now.isPatrol(sent)) {
            now.patrols[sent].becomeFree();
        }
        breakdown.end(CANCELLED, now.minute);
        return breakdown.waited(now.minute);
    }

    public int duty(int patrol, boolean on) {
        if (!now.isPatrol(patrol)) {
            return UNKNOWN;
        }
        Patrol told = now.patrols[patrol];
        if (!on && told.isBusy()) {
            return NOT_POSSIBLE;
        }
        if (on == (told.doing != OFF)) {
            return NONE;
        }
        record();
        told.doing = on ? FREE : OFF;
        return now.patrolsOnDuty();
    }

    public int goHome(int patrol) {
        if (!now.isPatrol(patrol)) {
            return UNKNOWN;
        }
        Patrol told = now.patrols[patrol];
        int distance = now.map.between(told.area, told.home);
        if (told.doing != FREE || distance >= NO_WAY) {
            return NOT_POSSIBLE;
        }
        if (told.area == told.home) {
            return NONE;
        }
        record();
        told.area = told.home;
        return distance;
    }

    public int fetch(int garage, int cars) {
        if (!now.isGarage(garage)) {
            return UNKNOWN;
        }
        if (cars < 1 || cars > MOST_PLACES) {
            return BAD_VALUE;
        }
        Garage told = now.garages[garage];
        if (cars > told.cars) {
            return NOT_POSSIBLE;
        }
        record();
        told.cars -= cars;
        return told.cars;
    }

    public int pass(int minutes) {
        if (minutes < 1 || minutes > MOST_MINUTES_A_PASS) {
            return BAD_VALUE;
        }
        if (now.minute + minutes > LAST_MINUTE) {
            return NOT_POSSIBLE;
        }
        record();
        int done = 0;
        for (int i = 0; i < minutes; i++) {
            done += Work.passMinute(now);
        }
        return done;
    }

    // ---- texts

    public int type(char character) {
        return text.append(character) ? text.length : FULL;
    }

    public int clearText() {
        int had = text.length;
        text.length = 0;
        return had;
    }

    public int readCalls() {
        int fault = text.read();
        if (fault != NO_FAULT) {
            return TEXT_FAULT - fault;
        }
        trial.copyFrom(now);
        int error = takeAll(trial);
        if (error != FINE) {
            return error;
        }
        record();
        now.copyFrom(trial);
        return text.calls();
    }

    /** Takes the calls that were read, up to the first that is refused; its error, or FINE. */
    private int takeAll(State state) {
        for (int i = 0; i < text.calls(); i++) {
            int member = text.number(i, 0);
            int area = text.number(i, 1);
            int trouble = text.number(i, 2);
            int error = state.refusal(member, area, trouble);
            if (error != FINE) {
                return error;
            }
            state.take(member, area, trouble);
        }
        return FINE;
    }

    // ---- history

    public int undo() {
        if (recorded < 1 || recorded > MOST_HISTORY) {
            return NONE;
        }
        recorded--;
        now.copyFrom(history[recorded]);
        return recorded;
    }

    public int keep() {
        kept.copyFrom(now);
        hasKept = true;
        return now.minute;
    }

    public int restore() {
        if (!hasKept) {
            return NONE;
        }
        record();
        now.copyFrom(kept);
        return now.minute;
    }

    /** Puts the present state into the history; where that is full, into the place of the oldest one. */
    private void record() {
        if (recorded >= MOST_HISTORY) {
            State oldest = history[0];
            for (int i = 1; i < MOST_HISTORY; i++) {
                history[i - 1] = history[i];
            }
            history[MOST_HISTORY - 1] = oldest;
            recorded = MOST_HISTORY - 1;
        }
        history[recorded].copyFrom(now);
        recorded++;
    }

    // ---- what is told

    public int distance(int area, int other) {
        if (!isArea(area) || !isArea(other)) {
            return UNKNOWN;
        }
        int minutes = now.map.between(area, other);
        return minutes < NO_WAY ? minutes : NONE;
    }

    public int wayAt(int from, int to, int place) {
        if (!isArea(from) || !isArea(to)) {
            return UNKNOWN;
        }
        if (place < 0) {
            return BAD_VALUE;
        }
        // A shortest way goes over no area twice.
        if (place >= AREAS || now.map.between(from, to) >= NO_WAY) {
            return NONE;
        }
        int area = from;
        for (int step = 0; step < place && area != NONE; step++) {
            area = now.map.nextOnWay(area, to);
        }
        return area;
    }

    public int member(int member, int what) {
        if (!now.isMember(member)) {
            return UNKNOWN;
        }
        switch (what) {
            case 0:
                return now.tiers[member];
            case 1:
                return Books.ofMember(now, SUM_CALLS, member);
            case 2:
                return now.openCallOf(member);
            case 3:
                return Books.ofMember(now, SUM_WAITED, member);
            case 4:
                return ACCOUNT_BASE + Books.ofMember(now, SUM_PAID, member)
                        - Books.ofMember(now, SUM_GIVEN_BACK, member);
            case 5:
                return Books.ofMember(now, SUM_CALLBACKS, member);
            case 6:
                return Books.ofMember(now, SUM_LATE, member);
            default:
                return BAD_VALUE;
        }
    }

    public int patrol(int patrol, int what) {
        if (!now.isPatrol(patrol)) {
            return UNKNOWN;
        }
        Patrol told = now.patrols[patrol];
        switch (what) {
            case 0:
                return told.home;
            case 1:
                return told.skill;
            case 2:
                return told.canTow ? 1 : 0;
            case 3:
                return told.doing;
            case 4:
                return told.area;
            case 5:
                return told.call;
            case 6:
                return told.left;
            case 7:
                return told.repairs;
            case 8:
                return told.towsDone;
            case 9:
                return told.callbacks;
            case 10:
                return told.waitedForIt;
            case 11:
                return told.busyMinutes;
            default:
                return BAD_VALUE;
        }
    }

    public int garage(int garage, int what) {
        if (!now.isGarage(garage)) {
            return UNKNOWN;
        }
        Garage told = now.garages[garage];
        switch (what) {
            case 0:
                return told.area;
            case 1:
                return told.places;
            case 2:
                return told.cars;
            case 3:
                return told.underWay;
            case 4:
                return told.towedSoFar;
            default:
                return BAD_VALUE;
        }
    }

    public int callOf(int call, int what) {
        if (!now.isCall(call)) {
            return UNKNOWN;
        }
        Breakdown told = now.calls[call];
        switch (what) {
            case 0:
                return told.member;
            case 1:
                return told.area;
            case 2:
                return told.trouble;
            case 3:
                return told.bound;
            case 4:
                return told.came;
            case 5:
                return told.state;
            case 6:
                return now.patrolOf(call);
            case 7:
                return told.waited(now.minute);
            case 8:
                return told.first;
            case 9:
                return told.ended;
            case 10:
                return told.callback ? 1 : 0;
            case 11:
                return told.isUnattended() ? told.due() - now.minute + REST_BASE : NONE;
            case 12:
                return told.garage;
            default:
                return BAD_VALUE;
        }
    }

    public int waiting(int place) {
        if (place < 0) {
            return BAD_VALUE;
        }
        return place < Sending.putInOrder(now) && place < MOST_CALLS ? now.order[place] : NONE;
    }

    public int nearest(int call) {
        if (!now.isCall(call)) {
            return UNKNOWN;
        }
        if (!Sending.waits(now, call)) {
            return NOT_POSSIBLE;
        }
        return Sending.nearestPatrol(now, now.calls[call]);
    }

    public int waitFor(int call) {
        if (!now.isCall(call)) {
            return UNKNOWN;
        }
        if (!now.calls[call].isUnattended()) {
            return NOT_POSSIBLE;
        }
        trial.copyFrom(now);
        Breakdown told = trial.calls[call];
        for (int i = 0; i < FORECAST_MINUTES && trial.minute < LAST_MINUTE; i++) {
            Work.passMinute(trial);
            if (told.first != NONE) {
                return told.waited(trial.minute);
            }
        }
        return NONE;
    }

    public int count(int what) {
        if (what >= 7 && what < 7 + CALL_STATES) {
            return now.callsIn(what - 7);
        }
        switch (what) {
            case 0:
                return now.minute;
            case 1:
                return now.weather;
            case 2:
                return now.map.roads;
            case 3:
                return now.members;
            case 4:
                return now.patrolCount;
            case 5:
                return now.garageCount;
            case 6:
                return now.callCount;
            case 15:
                return Books.ofAll(now, SUM_WAITED);
            case 16:
                return Books.ofAll(now, SUM_PAID);
            case 17:
                return Books.ofAll(now, SUM_GIVEN_BACK);
            case 18:
                return Books.ofAll(now, SUM_CALLBACKS);
            case 19:
            case 20:
            case 21:
                return now.promises[what - 19];
            case 22:
                return now.patrolsOnDuty();
            case 23:
                return recorded;
            case 24:
                return text.length;
            default:
                return BAD_VALUE;
        }
    }

    private static boolean isArea(int number) {
        return number >= 0 && number < AREAS;
    }

    private static boolean isTier(int number) {
        return number >= 0 && number < TIERS;
    }

    private static int regionOf(int area) {
        return area / AREAS_OF_A_REGION;
    }

    /** The areas, their roads, and the distances, which are kept up as roads are built. */
    private static final class RoadMap {
        private int roads;
        /** 0 where there is no road. */
        private final int[] roadMinutes = new int[AREAS * AREAS];
        private final int[] distances = new int[AREAS * AREAS];

        RoadMap() {
            for (int i = 0; i < AREAS * AREAS; i++) {
                distances[i] = NO_WAY;
            }
            for (int area = 0; area < AREAS; area++) {
                distances[area * AREAS + area] = 0;
            }
        }

        void copyFrom(RoadMap other) {
            roads = other.roads;
            System.arraycopy(other.roadMinutes, 0, roadMinutes, 0, AREAS * AREAS);
            System.arraycopy(other.distances, 0, distances, 0, AREAS * AREAS);
        }

        int road(int area, int other) {
            return isArea(area) && isArea(other) ? roadMinutes[area * AREAS + other] : 0;
        }

        /** The distance; NO_WAY if there is no way. */
        int between(int area, int other) {
            if (area < 0 || area >= AREAS || other < 0 || other >= AREAS) {
                return NO_WAY;
            }
            return distances[area * AREAS + other];
        }

        int build(int area, int other, int minutes) {
            if (!isArea(area) || !isArea(other)) {
                return UNKNOWN;
            }
            roadMinutes[area * AREAS + other] = minutes;
            roadMinutes[other * AREAS + area] = minutes;
            for (int from = 0; from < AREAS; from++) {
                for (int to = 0; to < AREAS; to++) {
                    int there = between(from, area) + minutes + between(other, to);
                    int back = between(from, other) + minutes + between(area, to);
                    int shortest = Math.min(between(from, to), Math.min(there, back));
                    distances[from * AREAS + to] = shortest;
                }
            }
            roads++;
            return roads - 1;
        }

        /** The area behind the first one of a shortest way; NONE if the way ends there, or is none. */
        int nextOnWay(int from, int to) {
            if (from < 0 || from >= AREAS || to < 0 || to >= AREAS) {
                return NONE;
            }
            int left = distances[from * AREAS + to];
            for (int area = 0; area < AREAS && left < NO_WAY; area++) {
                int minutes = roadMinutes[from * AREAS + area];
                if (minutes > 0 && minutes + distances[area * AREAS + to] == left) {
                    return area;
                }
            }
            return NONE;
        }
    }

    private static final class Breakdown {
        private int member;
        private int area;
        private int trouble;
        private int bound;
        private int came;
        private int state;
        /** The patrol that got to it first, and the minute of that; NONE both if none did. */
        private int first;
        private int reached;
        private int ended;
        private int garage;
        private boolean callback;

        void begin(int member, int area, int trouble, int bound, int minute) {
            this.member = member;
            this.area = area;
            this.trouble = trouble;
            this.bound = bound;
            came = minute;
            state = WAITS;
            first = NONE;
            reached = NONE;
            ended = NONE;
            garage = NONE;
            callback = false;
        }

        void copyFrom(Breakdown other) {
            member = other.member;
            area = other.area;
            trouble = other.trouble;
            bound = other.bound;
            came = other.came;
            state = other.state;
            first = other.first;
            reached = other.reached;
            ended = other.ended;
            garage = other.garage;
            callback = other.callback;
        }

        void end(int endState, int minute) {
            state = endState;
            ended = minute;
        }

        boolean isUnattended() {
            return state == WAITS || state == DRIVEN_TO;
        }

        boolean isOpen() {
            return state <= IN_TOW;
        }

        boolean isLate() {
            return reached != NONE && reached > due();
        }

        /** The minute at which the rest of its bound is 0. */
        int due() {
            return came + bound;
        }

        int waited(int minute) {
            if (reached != NONE) {
                return reached - came;
            }
            return (ended != NONE ? ended : minute) - came;
        }
    }

    private static final class Patrol {
        private int home;
        private int skill;
        private boolean canTow;
        private int doing;
        private int area;
        private int call;
        private int left;
        /** Where a tow ends, and for which garage it is; NONE both if it does not tow. */
        private int target;
        private int garage;
        private int repairs;
        private int towsDone;
        private int callbacks;
        private int waitedForIt;
        private int busyMinutes;

        void begin(int home, int skill, boolean canTow) {
            this.home = home;
            this.skill = skill;
            this.canTow = canTow;
            area = home;
            repairs = 0;
            towsDone = 0;
            callbacks = 0;
            waitedForIt = 0;
            busyMinutes = 0;
            becomeFree();
        }

        void copyFrom(Patrol other) {
            home = other.home;
            skill = other.skill;
            canTow = other.canTow;
            doing = other.doing;
            area = other.area;
            call = other.call;
            left = other.left;
            target = other.target;
            garage = other.garage;
            repairs = other.repairs;
            towsDone = other.towsDone;
            callbacks = other.callbacks;
            waitedForIt = other.waitedForIt;
            busyMinutes = other.busyMinutes;
        }

        void becomeFree() {
            doing = FREE;
            call = NONE;
            left = NONE;
            target = NONE;
            garage = NONE;
        }

        void leaveFor(int number, int distance) {
            doing = DRIVES;
            call = number;
            left = distance;
        }

        boolean isBusy() {
            return doing == DRIVES || doing == REPAIRS || doing == TOWS;
        }
    }

    private static final class Garage {
        private int area;
        private int places;
        private int cars;
        private int underWay;
        private int towedSoFar;

        void begin(int area, int places) {
            this.area = area;
            this.places = places;
            cars = 0;
            underWay = 0;
            towedSoFar = 0;
        }

        void copyFrom(Garage other) {
            area = other.area;
            places = other.places;
            cars = other.cars;
            underWay = other.underWay;
            towedSoFar = other.towedSoFar;
        }

        boolean hasRoom() {
            return cars + underWay < places;
        }
    }

    /** Everything that undo and the snapshot bring back. */
    private static final class State {
        private final RoadMap map = new RoadMap();
        private final int[] tiers = new int[MOST_MEMBERS];
        private int members;
        private final Patrol[] patrols = new Patrol[MOST_PATROLS];
        private int patrolCount;
        private final Garage[] garages = new Garage[MOST_GARAGES];
        private int garageCount;
        private final Breakdown[] calls = new Breakdown[MOST_CALLS];
        private int callCount;
        private final int[] promises = {90, 60, 40};
        private int weather;
        private int minute;
        /** Room to put waiting calls in their order; it means nothing between two uses. */
        private final int[] order = new int[MOST_CALLS];

        State() {
            for (int i = 0; i < MOST_PATROLS; i++) {
                patrols[i] = new Patrol();
            }
            for (int i = 0; i < MOST_GARAGES; i++) {
                garages[i] = new Garage();
            }
            for (int i = 0; i < MOST_CALLS; i++) {
                calls[i] = new Breakdown();
            }
        }

        void copyFrom(State other) {
            map.copyFrom(other.map);
            System.arraycopy(other.tiers, 0, tiers, 0, MOST_MEMBERS);
            System.arraycopy(other.promises, 0, promises, 0, TIERS);
            // What stands behind the counts is made anew, whole, when it comes into use.
            for (int i = 0; i < other.patrolCount && i < MOST_PATROLS; i++) {
                patrols[i].copyFrom(other.patrols[i]);
            }
            for (int i = 0; i < other.garageCount && i < MOST_GARAGES; i++) {
                garages[i].copyFrom(other.garages[i]);
            }
            for (int i = 0; i < other.callCount && i < MOST_CALLS; i++) {
                calls[i].copyFrom(other.calls[i]);
            }
            members = other.members;
            patrolCount = other.patrolCount;
            garageCount = other.garageCount;
            callCount = other.callCount;
            weather = other.weather;
            minute = other.minute;
        }

        boolean isMember(int number) {
            return number >= 0 && number < members && number < MOST_MEMBERS;
        }

        boolean isPatrol(int number) {
            return number >= 0 && number < patrolCount && number < MOST_PATROLS;
        }

        boolean isGarage(int number) {
            return number >= 0 && number < garageCount && number < MOST_GARAGES;
        }

        boolean isCall(int number) {
            return number >= 0 && number < callCount && number < MOST_CALLS;
        }

        int enrol(int tier) {
            if (members >= MOST_MEMBERS) {
                return FULL;
            }
            tiers[members] = tier;
            members++;
            return members - 1;
        }

        int hire(int area, int skill, boolean tows) {
            if (patrolCount >= MOST_PATROLS) {
                return FULL;
            }
            patrols[patrolCount].begin(area, skill, tows);
            patrolCount++;
            return patrolCount - 1;
        }

        int open(int area, int places) {
            if (garageCount >= MOST_GARAGES) {
                return FULL;
            }
            garages[garageCount].begin(area, places);
            garageCount++;
            return garageCount - 1;
        }

        /** The error that a call earns as it comes, or FINE. */
        int refusal(int member, int area, int trouble) {
            if (!isMember(member) || !isArea(area)) {
                return UNKNOWN;
            }
            if (trouble < 1 || trouble > GREATEST_TROUBLE) {
                return BAD_VALUE;
            }
            if (openCallOf(member) != NONE) {
                return NOT_POSSIBLE;
            }
            return callCount >= MOST_CALLS ? FULL : FINE;
        }

        int take(int member, int area, int trouble) {
            if (!isMember(member) || callCount >= MOST_CALLS) {
                return FULL;
            }
            int before = repairedBefore(member);
            int bound = promiseOf(member) + MINUTES_A_DEGREE * weather;
            Breakdown call = calls[callCount];
            call.begin(member, area, trouble, bound, minute);
            if (isCall(before)) {
                call.callback = true;
                int repairer = calls[before].first;
                if (isPatrol(repairer)) {
                    patrols[repairer].callbacks++;
                }
            }
            callCount++;
            return callCount - 1;
        }

        /** The latest repaired call of a member, if that was lately enough for a callback. */
        private int repairedBefore(int member) {
            for (int i = callCount - 1; i >= 0 && i < MOST_CALLS; i--) {
                if (calls[i].member == member && calls[i].state == REPAIRED) {
                    return minute - calls[i].ended <= CALLBACK_MINUTES ? i : NONE;
                }
            }
            return NONE;
        }

        private int promiseOf(int member) {
            int tier = tierOf(member);
            return isTier(tier) ? promises[tier] : 0;
        }

        int tierOf(int member) {
            return isMember(member) ? tiers[member] : NONE;
        }

        int openCallOf(int member) {
            for (int i = 0; i < callCount && i < MOST_CALLS; i++) {
                if (calls[i].member == member && calls[i].isOpen()) {
                    return i;
                }
            }
            return NONE;
        }

        int callsIn(int callState) {
            int found = 0;
            for (int i = 0; i < callCount && i < MOST_CALLS; i++) {
                if (calls[i].state == callState) {
                    found++;
                }
            }
            return found;
        }

        int patrolOf(int call) {
            for (int i = 0; i < patrolCount && i < MOST_PATROLS; i++) {
                if (patrols[i].call == call) {
                    return i;
                }
            }
            return NONE;
        }

        int patrolsOnDuty() {
            int found = 0;
            for (int i = 0; i < patrolCount && i < MOST_PATROLS; i++) {
                if (patrols[i].doing != OFF) {
                    found++;
                }
            }
            return found;
        }
    }

    /** Who is sent, and in which order the calls have their turns. */
    private static final class Sending {
        static boolean waits(State state, int call) {
            if (!state.isCall(call)) {
                return false;
            }
            int callState = state.calls[call].state;
            return callState == WAITS
                    || callState == WAITS_FOR_TOW && state.patrolOf(call) == NONE;
        }

        /** Puts the calls that wait into the order of their turns; how many they are. */
        static int putInOrder(State state) {
            int found = 0;
            for (int call = 0; call < state.callCount && found < MOST_CALLS; call++) {
                if (waits(state, call)) {
                    int place = found;
                    while (place > 0 && isAheadOf(state, call, state.order[place - 1])) {
                        state.order[place] = state.order[place - 1];
                        place--;
                    }
                    state.order[place] = call;
                    found++;
                }
            }
            return found;
        }

        /** Whether a call has its turn ahead of one with a lower number. */
        private static boolean isAheadOf(State state, int call, int other) {
            if (!state.isCall(call) || !state.isCall(other)) {
                return false;
            }
            Breakdown one = state.calls[call];
            Breakdown two = state.calls[other];
            if (one.due() != two.due()) {
                return one.due() < two.due();
            }
            return state.tierOf(one.member) > state.tierOf(two.member);
        }

        static int nearestPatrol(State state, Breakdown call) {
            int best = NONE;
            int bestSkill = 0;
            int bestDistance = NO_WAY;
            for (int i = 0; i < state.patrolCount && i < MOST_PATROLS; i++) {
                Patrol patrol = state.patrols[i];
                int distance = state.map.between(patrol.area, call.area);
                boolean better = distance < bestDistance
                        || distance == bestDistance && patrol.skill > bestSkill;
                if (patrol.doing == FREE && distance < NO_WAY && better && mayTake(patrol, call)) {
                    best = i;
                    bestSkill = patrol.skill;
                    bestDistance = distance;
                }
            }
            return best;
        }

        private static boolean mayTake(Patrol patrol, Breakdown call) {
            int regionsApart = Math.abs(regionOf(patrol.home) - regionOf(call.area));
            if (call.state == WAITS_FOR_TOW) {
                return patrol.canTow && regionsApart == 0;
            }
            return regionsApart <= 1;
        }
    }

    /** What happens as a minute passes. */
    private static final class Work {
        /** Lets one minute pass; how many calls are done in it. */
        static int passMinute(State state) {
            int done = 0;
            for (int i = 0; i < state.patrolCount && i < MOST_PATROLS; i++) {
                if (state.patrols[i].isBusy()) {
                    done += goOn(state, i);
                }
            }
            sendPatrols(state);
            state.minute++;
            return done;
        }

        /** A minute of a busy patrol; 1 if its call is done by that, otherwise 0. */
        private static int goOn(State state, int number) {
            Patrol patrol = state.patrols[number];
            patrol.busyMinutes++;
            patrol.left--;
            if (patrol.left > 0 || !state.isCall(patrol.call)) {
                return 0;
            }
            Breakdown call = state.calls[patrol.call];
            if (patrol.doing == DRIVES) {
                arrive(state, number, call);
                return 0;
            }
            if (patrol.doing == TOWS) {
                return endTow(state, patrol, call);
            }
            call.end(REPAIRED, state.minute);
            patrol.repairs++;
            patrol.becomeFree();
            return 1;
        }

        private static void sendPatrols(State state) {
            int waiting = Sending.putInOrder(state);
            for (int place = 0; place < waiting && place < MOST_CALLS; place++) {
                int number = state.order[place];
                if (!state.isCall(number)) {
                    continue;
                }
                Breakdown call = state.calls[number];
                int sent = Sending.nearestPatrol(state, call);
                if (!state.isPatrol(sent)) {
                    continue;
                }
                Patrol patrol = state.patrols[sent];
                patrol.leaveFor(number, state.map.between(patrol.area, call.area));
                call.state = call.state == WAITS ? DRIVEN_TO : call.state;
                if (patrol.left == 0) {
                    arrive(state, sent, call);
                }
            }
        }

        private static void arrive(State state, int number, Breakdown call) {
            Patrol patrol = state.patrols[number];
            patrol.area = call.area;
            if (call.state == WAITS_FOR_TOW) {
                startTow(state, patrol, call);
                return;
            }
            call.first = number;
            call.reached = state.minute;
            patrol.waitedForIt += call.waited(state.minute);
            if (patrol.skill >= call.trouble - TROUBLE_ABOVE_SKILL) {
                patrol.doing = REPAIRS;
                patrol.left = REPAIR_MINUTES * call.trouble;
                call.state = IN_REPAIR;
            } else if (patrol.canTow && regionOf(patrol.home) == regionOf(call.area)) {
                startTow(state, patrol, call);
            } else {
                call.state = WAITS_FOR_TOW;
                patrol.becomeFree();
            }
        }

        private static void startTow(State state, Patrol patrol, Breakdown call) {
            int chosen = nearestGarage(state, call.area);
            if (!state.isGarage(chosen)) {
                call.state = WAITS_FOR_TOW;
                patrol.becomeFree();
                return;
            }
            Garage garage = state.garages[chosen];
            garage.underWay++;
            call.state = IN_TOW;
            patrol.doing = TOWS;
            patrol.garage = chosen;
            patrol.target = endOfTow(state.map, call.area, garage.area);
            // A part of a shortest way is a shortest way, so its roads take the distance.
            patrol.left = Math.max(1, 2 * state.map.between(call.area, patrol.target));
        }

        private static int nearestGarage(State state, int area) {
            int best = NONE;
            int bestDistance = NO_WAY;
            for (int i = 0; i < state.garageCount && i < MOST_GARAGES; i++) {
                int distance = state.map.between(area, state.garages[i].area);
                if (state.garages[i].hasRoom() && distance < bestDistance) {
                    best = i;
                    bestDistance = distance;
                }
            }
            return best;
        }

        /** A tow begins in the region of its patrol only, so that is the region of its first area. */
        private static int endOfTow(RoadMap map, int from, int to) {
            int end = from;
            int next = map.nextOnWay(from, to);
            for (int step = 0; step < AREAS && next != NONE; step++) {
                if (regionOf(next) != regionOf(from)) {
                    return end == from ? next : end;
                }
                end = next;
                next = map.nextOnWay(end, to);
            }
            return end;
        }

        /** 1 if the call is done by the end of the tow, 0 if the car is at a border. */
        private static int endTow(State state, Patrol patrol, Breakdown call) {
            int end = patrol.target;
            int towedFor = patrol.garage;
            patrol.area = end;
            patrol.towsDone++;
            patrol.becomeFree();
            call.area = end;
            call.state = WAITS_FOR_TOW;
            if (!state.isGarage(towedFor)) {
                return 0;
            }
            Garage garage = state.garages[towedFor];
            garage.underWay--;
            if (garage.area != end) {
                return 0;
            }
            garage.cars++;
            garage.towedSoFar++;
            call.garage = towedFor;
            call.end(TOWED, state.minute);
            return 1;
        }
    }

    /** Sums over calls, reckoned from what the calls tell, so that nothing is booked twice. */
    private static final class Books {
        private static final int[] REPAIR_COSTS = {20, 10, 0};

        static int ofAll(State state, int kind) {
            int sum = 0;
            for (int i = 0; i < state.callCount && i < MOST_CALLS; i++) {
                sum += amount(state, kind, state.calls[i]);
            }
            return sum;
        }

        static int ofMember(State state, int kind, int member) {
            int sum = 0;
            for (int i = 0; i < state.callCount && i < MOST_CALLS; i++) {
                if (state.calls[i].member == member) {
                    sum += amount(state, kind, state.calls[i]);
                }
            }
            return sum;
        }

        private static int amount(State state, int kind, Breakdown call) {
            switch (kind) {
                case SUM_CALLS:
                    return 1;
                case SUM_WAITED:
                    return call.waited(state.minute);
                case SUM_PAID:
                    return call.state == REPAIRED ? cost(state, call) : 0;
                case SUM_GIVEN_BACK:
                    return call.isLate() ? LATE_PAYMENT : 0;
                case SUM_CALLBACKS:
                    return call.callback ? 1 : 0;
                case SUM_LATE:
                    return call.isLate() ? 1 : 0;
                default:
                    return 0;
            }
        }

        private static int cost(State state, Breakdown call) {
            int tier = state.tierOf(call.member);
            if (!isTier(tier)) {
                return 0;
            }
            return Math.max(0, REPAIR_COSTS[tier] - (call.callback ? CALLBACK_REBATE : 0));
        }
    }

    /** The text that is typed, and the numbers of the calls that were last read from it. */
    private static final class CallText {
        private static final char[] MARKS = {'m', '@', '!'};
        private static final char BETWEEN_CALLS = ';';
        /** What stands at a place behind the end: no character is below 0. */
        private static final int END = -1;

        private final char[] signs = new char[LONGEST_TEXT];
        private int length;
        /** A number takes two characters at least, its mark and a digit. */
        private final int[] numbers = new int[LONGEST_TEXT / 2];
        private int numberCount;

        boolean append(char sign) {
            if (length >= LONGEST_TEXT) {
                return false;
            }
            signs[length] = sign;
            length++;
            return true;
        }

        /** Reads the numbers of all calls; the fault of the text, or NO_FAULT. */
        int read() {
            numberCount = 0;
            int at = 0;
            while (at < LONGEST_TEXT) {
                for (int part = 0; part < NUMBERS_OF_A_CALL; part++) {
                    if (signAt(at) != MARKS[part]) {
                        return at;
                    }
                    at++;
                    int digits = digitsAt(at);
                    if (digits == 0) {
                        return at;
                    }
                    addNumber(at, digits);
                    at += digits;
                }
                if (signAt(at) == END) {
                    return NO_FAULT;
                }
                if (signAt(at) != BETWEEN_CALLS) {
                    return at;
                }
                at++;
            }
            return at;
        }

        private int signAt(int place) {
            return place >= 0 && place < length && place < LONGEST_TEXT ? signs[place] : END;
        }

        private static boolean isDigit(int sign) {
            return sign >= '0' && sign <= '9';
        }

        /** How many digits the number at a place has. */
        private int digitsAt(int place) {
            if (!isDigit(signAt(place))) {
                return 0;
            }
            return signAt(place) != '0' && isDigit(signAt(place + 1)) ? 2 : 1;
        }

        private void addNumber(int place, int digits) {
            int number = 0;
            for (int i = 0; i < digits; i++) {
                number = number * 10 + signAt(place + i) - '0';
            }
            if (numberCount < LONGEST_TEXT / 2) {
                numbers[numberCount] = number;
                numberCount++;
            }
        }

        int calls() {
            return numberCount / NUMBERS_OF_A_CALL;
        }

        int number(int call, int part) {
            int place = call * NUMBERS_OF_A_CALL + part;
            return place >= 0 && place < numberCount && place < LONGEST_TEXT / 2 ? numbers[place] : NONE;
        }
    }
}
