/** Desks that several tests begin with, and what they do with them. */
final class Desks {
    private Desks() {
    }

    static PatrolDesk ofTiers(int... tiers) {
        PatrolDesk x = new PatrolDesk();
        for (int tier : tiers) {
            x.addMember(tier);
        }
        return x;
    }

    /** With members of the tier 0. */
    static PatrolDesk ofMembers(int members) {
        return ofTiers(new int[members]);
    }

    /** Roads from each area to the next one. */
    static PatrolDesk withLine(PatrolDesk x, int minutes) {
        for (int area = 0; area < 11; area++) {
            x.addRoad(area, area + 1, minutes);
        }
        return x;
    }

    /** Roads from the area 0 to all others, 1 minute each, then from 1 to the others; as many as are asked for. */
    static PatrolDesk withRoads(PatrolDesk x, int roads) {
        int built = 0;
        for (int area = 0; area < 12; area++) {
            for (int other = area + 1; other < 12 && built < roads; other++) {
                x.addRoad(area, other, 1);
                built++;
            }
        }
        return x;
    }

    /** Numbers beside a range, far from it, and such that wrap around when they are added or multiplied by twelve. */
    static int[] beside(int least, int most) {
        return new int[] {
            least - 1, most + 1, Integer.MIN_VALUE, Integer.MAX_VALUE, Integer.MIN_VALUE + most, Integer.MAX_VALUE - most,
            256 + most, 65536 + least, -65536 + least, 357913942, -357913941, 715827883,
        };
    }

    static void put(PatrolDesk x, String text) {
        x.clearText();
        for (int i = 0; i < text.length(); i++) {
            x.type(text.charAt(i));
        }
    }

    static int read(PatrolDesk x, String text) {
        put(x, text);
        return x.readCalls();
    }

    static void passAll(PatrolDesk x, int minutes) {
        for (int left = minutes; left > 0; left -= 120) {
            x.pass(Math.min(left, 120));
        }
    }

    /**
     * Everybody at work in the minute 9: call 0 is repaired, 1 is in repair (a callback), 2 is in the garage 1,
     * 3 waits for a tow for which the patrol 1 drives, 4 is cancelled, 5 waits, to 6 drives the patrol 2.
     * The member 4 has no call.
     */
    static PatrolDesk busy() {
        return makeBusy(new PatrolDesk());
    }

    static PatrolDesk makeBusy(PatrolDesk x) {
        for (int tier : new int[] {0, 1, 2, 0, 1}) {
            x.addMember(tier);
        }
        x.addRoad(0, 1, 9);
        x.addRoad(1, 2, 9);
        x.addRoad(2, 4, 9);
        x.addPatrol(0, 9, false);
        x.addPatrol(1, 1, true);
        x.addPatrol(2, 5, false);
        x.addGarage(4, 1);
        x.addGarage(1, 2);
        x.call(0, 0, 1);
        x.pass(6);
        x.setWeather(2);
        x.call(0, 0, 4);
        x.call(1, 1, 12);
        x.call(2, 2, 12);
        x.pass(2);
        x.call(3, 11, 2);
        x.cancel(4);
        x.call(3, 11, 3);
        x.call(1, 0, 2);
        x.pass(1);
        x.setPromise(1, 70);
        return x;
    }

    /** What is told of the state of a desk with up to five members, three patrols, two garages and eight calls. */
    static int[] told(PatrolDesk x) {
        int[] told = new int[460];
        int n = 0;
        for (int what = 0; what <= 22; what++) {
            told[n++] = x.count(what);
        }
        for (int what = 0; what <= 12; what++) {
            for (int i = 0; i < 8; i++) {
                told[n++] = x.callOf(i, what);
                told[n++] = i < 5 && what <= 6 ? x.member(i, what) : 0;
                told[n++] = i < 3 && what <= 11 ? x.patrol(i, what) : 0;
                told[n++] = i < 2 && what <= 4 ? x.garage(i, what) : 0;
            }
        }
        for (int i = 0; i < 6; i++) {
            told[n++] = x.waiting(i);
            told[n++] = x.distance(i, i + 1);
        }
        return told;
    }
}
