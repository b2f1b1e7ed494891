import java.util.ArrayDeque;
import java.util.ArrayList;
import java.util.Comparator;
import java.util.Deque;
import java.util.List;

/**
 * The document once more, written another way than the program: whole states are copied, ways are kept
 * as lists of areas, and whatever can be told from something else is looked up when it is asked for.
 */
final class DeskModel {
    static final int UNKNOWN = -1;
    static final int BAD_VALUE = -2;
    static final int FULL = -3;
    static final int NOT_POSSIBLE = -4;
    static final int NONE = -5;

    record Road(int area, int other, int minutes) { }

    record Way(int minutes, List<Integer> areas) { }

    static final class Car {
        int member, area, trouble, bound, came, state, ended = NONE, garage = NONE;
        int firstPatrol = NONE, firstMinute = NONE;
        boolean callback;
        int countsAgainst = NONE;
        int paid, back;

        Car copy() {
            Car c = new Car();
            c.member = member;
            c.area = area;
            c.trouble = trouble;
            c.bound = bound;
            c.came = came;
            c.state = state;
            c.ended = ended;
            c.garage = garage;
            c.firstPatrol = firstPatrol;
            c.firstMinute = firstMinute;
            c.callback = callback;
            c.countsAgainst = countsAgainst;
            c.paid = paid;
            c.back = back;
            return c;
        }
    }

    static final class Van {
        int home, skill, does, area, call = NONE, left = NONE, towTo = NONE, towGarage = NONE;
        int worked, tows;
        boolean towing;

        Van copy() {
            Van v = new Van();
            v.home = home;
            v.skill = skill;
            v.towing = towing;
            v.does = does;
            v.area = area;
            v.call = call;
            v.left = left;
            v.towTo = towTo;
            v.towGarage = towGarage;
            v.worked = worked;
            v.tows = tows;
            return v;
        }

        void free() {
            does = 0;
            call = NONE;
            left = NONE;
            towTo = NONE;
            towGarage = NONE;
        }
    }

    static final class World {
        List<Road> roads = new ArrayList<>();
        List<Integer> tiers = new ArrayList<>();
        List<Van> vans = new ArrayList<>();
        List<int[]> garages = new ArrayList<>(); // area, places, fetched
        List<Car> cars = new ArrayList<>();
        int[] promises = {90, 60, 40};
        int weather;
        int minute;
        Way[][] ways = allWays(roads);

        World copy() {
            World w = new World();
            w.roads = new ArrayList<>(roads);
            w.tiers = new ArrayList<>(tiers);
            w.vans.clear();
            for (Van v : vans) {
                w.vans.add(v.copy());
            }
            for (int[] g : garages) {
                w.garages.add(g.clone());
            }
            for (Car c : cars) {
                w.cars.add(c.copy());
            }
            w.promises = promises.clone();
            w.weather = weather;
            w.minute = minute;
            w.ways = ways;
            return w;
        }
    }

    private World w = new World();
    private World snapshot;
    private final Deque<World> past = new ArrayDeque<>();
    private final StringBuilder text = new StringBuilder();

    private static Way[][] allWays(List<Road> roads) {
        Way[][] best = new Way[12][12];
        for (int from = 0; from < 12; from++) {
            best[from][from] = new Way(0, List.of(from));
            boolean changed = true;
            while (changed) {
                changed = false;
                for (Road r : roads) {
                    changed |= better(best[from], r.area, r.other, r.minutes);
                    changed |= better(best[from], r.other, r.area, r.minutes);
                }
            }
        }
        return best;
    }

    private static boolean better(Way[] best, int a, int b, int minutes) {
        if (best[a] == null || best[a].areas.contains(b)) {
            return false;
        }
        List<Integer> areas = new ArrayList<>(best[a].areas);
        areas.add(b);
        Way way = new Way(best[a].minutes + minutes, areas);
        Way old = best[b];
        if (old == null || way.minutes < old.minutes
                || way.minutes == old.minutes && lower(way.areas, old.areas)) {
            best[b] = way;
            return true;
        }
        return false;
    }

    private static boolean lower(List<Integer> a, List<Integer> b) {
        for (int i = 0; i < Math.min(a.size(), b.size()); i++) {
            if (!a.get(i).equals(b.get(i))) {
                return a.get(i) < b.get(i);
            }
        }
        return false;
    }

    private static boolean out(int x, int least, int most) {
        return x < least || x > most;
    }

    private void act() {
        past.addLast(w.copy());
        if (past.size() > 4) {
            past.removeFirst();
        }
    }

    int addRoad(int area, int other, int minutes) {
        if (out(area, 0, 11) || out(other, 0, 11)) {
            return UNKNOWN;
        }
        if (out(minutes, 1, 60) || area == other) {
            return BAD_VALUE;
        }
        for (Road r : w.roads) {
            if (r.area == area && r.other == other || r.area == other && r.other == area) {
                return NOT_POSSIBLE;
            }
        }
        if (w.roads.size() == 30) {
            return FULL;
        }
        act();
        w.roads.add(new Road(area, other, minutes));
        w.ways = allWays(w.roads);
        return w.roads.size() - 1;
    }

    int addMember(int tier) {
        if (out(tier, 0, 2)) {
            return BAD_VALUE;
        }
        if (w.tiers.size() == 20) {
            return FULL;
        }
        act();
        w.tiers.add(tier);
        return w.tiers.size() - 1;
    }

    int addPatrol(int area, int skill, boolean tows) {
        if (out(area, 0, 11)) {
            return UNKNOWN;
        }
        if (out(skill, 1, 9)) {
            return BAD_VALUE;
        }
        if (w.vans.size() == 6) {
            return FULL;
        }
        act();
        Van v = new Van();
        v.home = area;
        v.area = area;
        v.skill = skill;
        v.towing = tows;
        w.vans.add(v);
        return w.vans.size() - 1;
    }

    int addGarage(int area, int places) {
        if (out(area, 0, 11)) {
            return UNKNOWN;
        }
        if (out(places, 1, 9)) {
            return BAD_VALUE;
        }
        if (w.garages.size() == 5) {
            return FULL;
        }
        act();
        w.garages.add(new int[] {area, places, 0});
        return w.garages.size() - 1;
    }

    int setPromise(int tier, int minutes) {
        if (out(tier, 0, 2) || out(minutes, 10, 240)) {
            return BAD_VALUE;
        }
        int was = w.promises[tier];
        if (was == minutes) {
            return NONE;
        }
        act();
        w.promises[tier] = minutes;
        return was;
    }

    int setWeather(int degree) {
        if (out(degree, 0, 5)) {
            return BAD_VALUE;
        }
        int was = w.weather;
        if (was == degree) {
            return NONE;
        }
        act();
        w.weather = degree;
        return was;
    }

    private int callError(int member, int area, int trouble) {
        if (out(member, 0, w.tiers.size() - 1) || out(area, 0, 11)) {
            return UNKNOWN;
        }
        if (out(trouble, 1, 12)) {
            return BAD_VALUE;
        }
        for (Car c : w.cars) {
            if (c.member == member && c.state < 5) {
                return NOT_POSSIBLE;
            }
        }
        return w.cars.size() == 40 ? FULL : 0;
    }

    private int add(int member, int area, int trouble) {
        Car c = new Car();
        c.member = member;
        c.area = area;
        c.trouble = trouble;
        c.bound = w.promises[w.tiers.get(member)] + 10 * w.weather;
        c.came = w.minute;
        Car latest = null;
        for (Car other : w.cars) {
            if (other.member == member && other.state == 5) {
                latest = other;
            }
        }
        if (latest != null && latest.ended >= w.minute - 120) {
            c.callback = true;
            c.countsAgainst = latest.firstPatrol;
        }
        w.cars.add(c);
        return w.cars.size() - 1;
    }

    int call(int member, int area, int trouble) {
        int error = callError(member, area, trouble);
        if (error != 0) {
            return error;
        }
        act();
        return add(member, area, trouble);
    }

    int cancel(int call) {
        if (out(call, 0, w.cars.size() - 1)) {
            return UNKNOWN;
        }
        if (w.cars.get(call).state > 1) {
            return NOT_POSSIBLE;
        }
        act();
        for (Van v : w.vans) {
            if (v.call == call) {
                v.free();
            }
        }
        Car c = w.cars.get(call);
        c.state = 7;
        c.ended = w.minute;
        return w.minute - c.came;
    }

    int duty(int patrol, boolean on) {
        if (out(patrol, 0, w.vans.size() - 1)) {
            return UNKNOWN;
        }
        int does = w.vans.get(patrol).does;
        if (!on && does >= 1 && does <= 3) {
            return NOT_POSSIBLE;
        }
        if (on == (does != 4)) {
            return NONE;
        }
        act();
        w.vans.get(patrol).does = on ? 0 : 4;
        return count(22);
    }

    int goHome(int patrol) {
        if (out(patrol, 0, w.vans.size() - 1)) {
            return UNKNOWN;
        }
        Van v = w.vans.get(patrol);
        Way way = w.ways[v.area][v.home];
        if (v.does != 0 || way == null) {
            return NOT_POSSIBLE;
        }
        if (v.area == v.home) {
            return NONE;
        }
        act();
        w.vans.get(patrol).area = v.home;
        return way.minutes;
    }

    int fetch(int garage, int cars) {
        if (out(garage, 0, w.garages.size() - 1)) {
            return UNKNOWN;
        }
        if (out(cars, 1, 9)) {
            return BAD_VALUE;
        }
        if (carsIn(garage) < cars) {
            return NOT_POSSIBLE;
        }
        act();
        w.garages.get(garage)[2] += cars;
        return carsIn(garage);
    }

    private int towedTo(int garage) {
        return (int) w.cars.stream().filter(c -> c.state == 6 && c.garage == garage).count();
    }

    private int carsIn(int garage) {
        return towedTo(garage) - w.garages.get(garage)[2];
    }

    private int onTheWayTo(int garage) {
        return (int) w.vans.stream().filter(v -> v.towGarage == garage).count();
    }

    int pass(int minutes) {
        if (out(minutes, 1, 120)) {
            return BAD_VALUE;
        }
        if (w.minute + minutes > 2880) {
            return NOT_POSSIBLE;
        }
        act();
        int before = count(12) + count(13);
        for (int i = 0; i < minutes; i++) {
            minute();
        }
        return count(12) + count(13) - before;
    }

    private void minute() {
        for (int i = 0; i < w.vans.size(); i++) {
            Van v = w.vans.get(i);
            if (v.does < 1 || v.does > 3) {
                continue;
            }
            v.worked++;
            if (--v.left > 0) {
                continue;
            }
            Car c = w.cars.get(v.call);
            if (v.does == 1) {
                gets(i);
            } else if (v.does == 2) {
                c.state = 5;
                c.ended = w.minute;
                int price = new int[] {20, 10, 0}[w.tiers.get(c.member)];
                c.paid = Math.max(0, c.callback ? price - 5 : price);
                v.free();
            } else {
                v.tows++;
                v.area = v.towTo;
                c.area = v.towTo;
                c.state = 3;
                if (w.garages.get(v.towGarage)[0] == v.towTo) {
                    c.state = 6;
                    c.ended = w.minute;
                    c.garage = v.towGarage;
                }
                v.free();
            }
        }
        for (int call : inOrder()) {
            int sent = nearestTo(call);
            if (sent == NONE) {
                continue;
            }
            Van v = w.vans.get(sent);
            Car c = w.cars.get(call);
            v.does = 1;
            v.call = call;
            v.left = w.ways[v.area][c.area].minutes;
            if (c.state == 0) {
                c.state = 1;
            }
            if (v.left == 0) {
                gets(sent);
            }
        }
        w.minute++;
    }

    private void gets(int van) {
        Van v = w.vans.get(van);
        Car c = w.cars.get(v.call);
        v.area = c.area;
        boolean forTow = c.state == 3;
        if (!forTow) {
            c.firstPatrol = van;
            c.firstMinute = w.minute;
            if (w.minute - c.came > c.bound) {
                c.back = 15;
            }
            if (v.skill + 3 >= c.trouble) {
                v.does = 2;
                v.left = 5 * c.trouble;
                c.state = 2;
                return;
            }
        }
        if (forTow || v.towing && v.home / 4 == c.area / 4) {
            int garage = garageFor(c.area);
            if (garage != NONE) {
                tow(v, c, garage);
                return;
            }
        }
        c.state = 3;
        v.free();
    }

    private int garageFor(int area) {
        int best = NONE;
        for (int g = w.garages.size() - 1; g >= 0; g--) {
            Way way = w.ways[area][w.garages.get(g)[0]];
            if (way == null || w.garages.get(g)[1] - carsIn(g) - onTheWayTo(g) <= 0) {
                continue;
            }
            if (best == NONE || way.minutes <= w.ways[area][w.garages.get(best)[0]].minutes) {
                best = g;
            }
        }
        return best;
    }

    private void tow(Van v, Car c, int garage) {
        List<Integer> way = w.ways[c.area][w.garages.get(garage)[0]].areas;
        int end = way.size() - 1;
        for (int i = way.size() - 1; i >= 1; i--) {
            if (way.get(i) / 4 != v.home / 4) {
                end = Math.max(1, i - 1);
            }
        }
        int minutes = 0;
        for (int i = 0; i < end; i++) {
            for (Road r : w.roads) {
                if (r.area == way.get(i) && r.other == way.get(i + 1)
                        || r.other == way.get(i) && r.area == way.get(i + 1)) {
                    minutes += 2 * r.minutes;
                }
            }
        }
        c.state = 4;
        v.does = 3;
        v.towTo = way.get(end);
        v.towGarage = garage;
        v.left = Math.max(1, minutes);
    }

    private boolean waits(int call) {
        int state = w.cars.get(call).state;
        return state == 0 || state == 3 && w.vans.stream().noneMatch(v -> v.call == call);
    }

    private List<Integer> inOrder() {
        List<Integer> waiting = new ArrayList<>();
        for (int i = 0; i < w.cars.size(); i++) {
            if (waits(i)) {
                waiting.add(i);
            }
        }
        waiting.sort(Comparator
                .comparingInt((Integer i) -> w.cars.get(i).bound - (w.minute - w.cars.get(i).came))
                .thenComparingInt(i -> -w.tiers.get(w.cars.get(i).member))
                .thenComparingInt(i -> i));
        return waiting;
    }

    private int nearestTo(int call) {
        Car c = w.cars.get(call);
        List<Integer> able = new ArrayList<>();
        for (int i = 0; i < w.vans.size(); i++) {
            Van v = w.vans.get(i);
            int apart = Math.abs(v.home / 4 - c.area / 4);
            boolean may = c.state == 3 ? v.towing && apart == 0 : apart < 2;
            if (v.does == 0 && may && w.ways[v.area][c.area] != null) {
                able.add(i);
            }
        }
        able.sort(Comparator
                .comparingInt((Integer i) -> w.ways[w.vans.get(i).area][c.area].minutes)
                .thenComparingInt(i -> -w.vans.get(i).skill)
                .thenComparingInt(i -> i));
        return able.isEmpty() ? NONE : able.get(0);
    }

    int type(char character) {
        if (text.length() == 60) {
            return FULL;
        }
        text.append(character);
        return text.length();
    }

    int clearText() {
        int had = text.length();
        text.setLength(0);
        return had;
    }

    /** The fault by trying: the longest beginning of the text that some right text begins with. */
    private int fault() {
        String whole = text.toString();
        String number = "(?:0|[1-9][0-9]?)";
        String one = "m" + number + "@" + number + "!" + number;
        if (whole.matches(one + "(?:;" + one + ")*")) {
            return -1;
        }
        String begun = "(?:" + one + ";)*(?:|m|m" + number + "|m" + number + "@|m" + number + "@" + number
                + "|m" + number + "@" + number + "!|" + one + ")";
        int fits = 0;
        while (fits < whole.length()
                && java.util.regex.Pattern.compile(begun, java.util.regex.Pattern.DOTALL)
                .matcher(whole.substring(0, fits + 1)).matches()) {
            fits++;
        }
        return fits;
    }

    int readCalls() {
        int fault = fault();
        if (fault >= 0) {
            return -100 - fault;
        }
        World before = w.copy();
        String[] calls = text.toString().split(";");
        for (String call : calls) {
            String[] n = call.substring(1).split("[@!]");
            int member = Integer.parseInt(n[0]);
            int area = Integer.parseInt(n[1]);
            int trouble = Integer.parseInt(n[2]);
            int error = callError(member, area, trouble);
            if (error != 0) {
                w = before;
                return error;
            }
            add(member, area, trouble);
        }
        World after = w;
        w = before;
        act();
        w = after;
        return calls.length;
    }

    int undo() {
        if (past.isEmpty()) {
            return NONE;
        }
        w = past.removeLast();
        return past.size();
    }

    int keep() {
        snapshot = w.copy();
        return w.minute;
    }

    int restore() {
        if (snapshot == null) {
            return NONE;
        }
        act();
        w = snapshot.copy();
        return w.minute;
    }

    int distance(int area, int other) {
        if (out(area, 0, 11) || out(other, 0, 11)) {
            return UNKNOWN;
        }
        return w.ways[area][other] == null ? NONE : w.ways[area][other].minutes;
    }

    int wayAt(int from, int to, int place) {
        if (out(from, 0, 11) || out(to, 0, 11)) {
            return UNKNOWN;
        }
        if (place < 0) {
            return BAD_VALUE;
        }
        Way way = w.ways[from][to];
        return way == null || place >= way.areas.size() ? NONE : way.areas.get(place);
    }

    private int waited(Car c) {
        int until = c.firstMinute != NONE ? c.firstMinute : c.state == 7 ? c.ended : w.minute;
        return until - c.came;
    }

    int member(int member, int what) {
        if (out(member, 0, w.tiers.size() - 1)) {
            return UNKNOWN;
        }
        List<Car> mine = w.cars.stream().filter(c -> c.member == member).toList();
        return switch (what) {
            case 0 -> w.tiers.get(member);
            case 1 -> mine.size();
            case 2 -> mine.stream().filter(c -> c.state < 5).mapToInt(c -> w.cars.indexOf(c))
                    .findFirst().orElse(NONE);
            case 3 -> mine.stream().mapToInt(this::waited).sum();
            case 4 -> 1000 + mine.stream().mapToInt(c -> c.paid - c.back).sum();
            case 5 -> (int) mine.stream().filter(c -> c.callback).count();
            case 6 -> (int) mine.stream().filter(c -> c.back > 0).count();
            default -> BAD_VALUE;
        };
    }

    int patrol(int patrol, int what) {
        if (out(patrol, 0, w.vans.size() - 1)) {
            return UNKNOWN;
        }
        Van v = w.vans.get(patrol);
        return switch (what) {
            case 0 -> v.home;
            case 1 -> v.skill;
            case 2 -> v.towing ? 1 : 0;
            case 3 -> v.does;
            case 4 -> v.area;
            case 5 -> v.call;
            case 6 -> v.left;
            case 7 -> (int) w.cars.stream().filter(c -> c.state == 5 && c.firstPatrol == patrol).count();
            case 8 -> v.tows;
            case 9 -> (int) w.cars.stream().filter(c -> c.countsAgainst == patrol).count();
            case 10 -> w.cars.stream().filter(c -> c.firstPatrol == patrol)
                    .mapToInt(c -> c.firstMinute - c.came).sum();
            case 11 -> v.worked;
            default -> BAD_VALUE;
        };
    }

    int garage(int garage, int what) {
        if (out(garage, 0, w.garages.size() - 1)) {
            return UNKNOWN;
        }
        return switch (what) {
            case 0 -> w.garages.get(garage)[0];
            case 1 -> w.garages.get(garage)[1];
            case 2 -> carsIn(garage);
            case 3 -> onTheWayTo(garage);
            case 4 -> towedTo(garage);
            default -> BAD_VALUE;
        };
    }

    int callOf(int call, int what) {
        if (out(call, 0, w.cars.size() - 1)) {
            return UNKNOWN;
        }
        Car c = w.cars.get(call);
        int with = NONE;
        for (int i = 0; i < w.vans.size(); i++) {
            if (w.vans.get(i).call == call) {
                with = i;
            }
        }
        return switch (what) {
            case 0 -> c.member;
            case 1 -> c.area;
            case 2 -> c.trouble;
            case 3 -> c.bound;
            case 4 -> c.came;
            case 5 -> c.state;
            case 6 -> with;
            case 7 -> waited(c);
            case 8 -> c.firstPatrol;
            case 9 -> c.ended;
            case 10 -> c.callback ? 1 : 0;
            case 11 -> c.state > 1 ? NONE : 10000 + c.bound - (w.minute - c.came);
            case 12 -> c.garage;
            default -> BAD_VALUE;
        };
    }

    int waiting(int place) {
        if (place < 0) {
            return BAD_VALUE;
        }
        List<Integer> order = inOrder();
        return place < order.size() ? order.get(place) : NONE;
    }

    int nearest(int call) {
        if (out(call, 0, w.cars.size() - 1)) {
            return UNKNOWN;
        }
        return waits(call) ? nearestTo(call) : NOT_POSSIBLE;
    }

    int waitFor(int call) {
        if (out(call, 0, w.cars.size() - 1)) {
            return UNKNOWN;
        }
        if (w.cars.get(call).state > 1) {
            return NOT_POSSIBLE;
        }
        World before = w;
        w = before.copy();
        int told = NONE;
        for (int k = 1; k <= 240 && w.minute < 2880 && told == NONE; k++) {
            minute();
            if (w.cars.get(call).firstMinute != NONE) {
                told = before.minute + k - 1 - w.cars.get(call).came;
            }
        }
        w = before;
        return told;
    }

    int count(int what) {
        return switch (what) {
            case 0 -> w.minute;
            case 1 -> w.weather;
            case 2 -> w.roads.size();
            case 3 -> w.tiers.size();
            case 4 -> w.vans.size();
            case 5 -> w.garages.size();
            case 6 -> w.cars.size();
            case 7, 8, 9, 10, 11, 12, 13, 14 ->
                    (int) w.cars.stream().filter(c -> c.state == what - 7).count();
            case 15 -> w.cars.stream().mapToInt(this::waited).sum();
            case 16 -> w.cars.stream().mapToInt(c -> c.paid).sum();
            case 17 -> w.cars.stream().mapToInt(c -> c.back).sum();
            case 18 -> (int) w.cars.stream().filter(c -> c.callback).count();
            case 19, 20, 21 -> w.promises[what - 19];
            case 22 -> (int) w.vans.stream().filter(v -> v.does != 4).count();
            case 23 -> past.size();
            case 24 -> text.length();
            default -> BAD_VALUE;
        };
    }
}
