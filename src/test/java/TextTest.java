/** Promises 14 to 16: texts of calls. */
public final class TextTest {
    private static final Check CHECK = new Check("TextTest");

    public static void main(String[] args) {
        type();
        clearText();
        readCalls();
        faults();
        errorsOfCalls();
        allOrNone();
        CHECK.end();
    }

    private static void due(String what, long got, long want) {
        CHECK.due(what, got, want);
    }

    private static void put(PatrolDesk x, String text) {
        x.clearText();
        for (int i = 0; i < text.length(); i++) {
            x.type(text.charAt(i));
        }
    }

    private static int read(PatrolDesk x, String text) {
        put(x, text);
        return x.readCalls();
    }

    private static void type() {
        PatrolDesk x = new PatrolDesk();
        char[] any = {0, ' ', 'm', 255, 256, 65535};
        for (int i = 0; i < 60; i++) {
            due("14: length " + (i + 1), x.type(any[i % any.length]), i + 1);
        }
        due("14: full", x.type('m'), -3);
        due("14: full again", x.type((char) 65535), -3);
        due("14: told", x.count(24), 60);
        due("14: no act", x.count(23), 0);
    }

    private static void clearText() {
        PatrolDesk x = new PatrolDesk();
        due("15: of the empty text", x.clearText(), 0);
        put(x, "m0@");
        due("15: of three", x.clearText(), 3);
        due("15: empty then", x.count(24), 0);
        due("15: empty then", x.clearText(), 0);
        due("15: no act", x.count(23), 0);
        due("15: typed anew", x.type('x'), 1);
    }

    private static PatrolDesk deskOf(int members) {
        PatrolDesk x = new PatrolDesk();
        for (int i = 0; i < members; i++) {
            x.addMember(i % 3);
        }
        return x;
    }

    private static void readCalls() {
        PatrolDesk x = deskOf(20);
        due("16: one", read(x, "m0@0!1"), 1);
        due("16: the text stays", x.count(24), 6);
        due("16: its member", x.callOf(0, 0), 0);
        due("16: its trouble", x.callOf(0, 2), 1);
        due("16: two", read(x, "m19@11!12;m5@10!9"), 2);
        due("16: member 19", x.callOf(1, 0), 19);
        due("16: area 11", x.callOf(1, 1), 11);
        due("16: trouble 12", x.callOf(1, 2), 12);
        due("16: member 5", x.callOf(2, 0), 5);
        due("16: area 10", x.callOf(2, 1), 10);
        due("16: trouble 9", x.callOf(2, 2), 9);
        due("16: history is full", x.count(23), 4);
        due("16: one act", x.undo(), 3);
        due("16: both undone", x.count(6), 1);
        due("16: undo leaves the text", x.count(24), 17);
        due("16: read again", x.readCalls(), 2);
        String longest = "m1@11!12;m2@11!12;m3@11!12;m4@11!12;m6@11!12;m7@11!12;m8@1!2";
        due("16: 60 characters", read(x, longest), 7);
        due("16: ten calls", x.count(6), 10);
        due("16: the last one's trouble", x.callOf(9, 2), 2);
        PatrolDesk y = deskOf(9);
        due("16: eight short ones", read(y, "m0@0!1;m1@0!1;m2@0!1;m3@0!1;m4@0!1;m5@0!1;m6@0!1;m7@0!1"), 8);
    }

    private static void faults() {
        PatrolDesk x = deskOf(20);
        String[] texts = {
            "", "x", "0", "m", "mm", "m@", "m0", "m00", "m01@", "m1", "m12", "m123", "m1;", "m1@", "m1@x",
            "m1@0", "m1@01", "m1@12", "m1@123", "m1@1@", "m1@1!", "m1@1!!", "m1@1!x", "m1@1!05", "m1@1!123",
            "m1@1!5;", "m1@1!5;;", "m1@1!5;x", "m1@1!5 ", "m1@1!5m", " m1@1!5", "m1 @1!5", "m-1@1!5",
            "M1@1!5", "m1@1!5;m2@2!5;", "m1@1!5;m2@02!5", "m1@1!5;m2@2!", "m1@1!5;m2@2!5,", "m1@1!0:",
            "m1@1!5" + (char) 0, "m1@1!5" + (char) 65535, "m" + (char) ('0' + 256) + "@1!5", "m\u0661@1!5", "m1/1!5", "m1@:!5", "m/@1!5",
        };
        int[] faults = {
            0, 0, 0, 1, 1, 1, 2, 2, 2, 2, 3, 3, 2, 3, 3,
            4, 4, 5, 5, 4, 5, 5, 5, 6, 7,
            7, 7, 7, 6, 6, 0, 2, 1,
            0, 14, 11, 12, 13, 6,
            6, 6, 1, 1, 2, 3, 1,
        };
        for (int i = 0; i < texts.length; i++) {
            due("16: fault of '" + texts[i] + "'", read(deskOf(20), texts[i]), -100 - faults[i]);
        }
        due("16: too early at 60", read(x, "m1@11!12;m2@11!12;m3@11!12;m4@11!12;m6@11!12;m7@11!12;m8@1!;"), -159);
        due("16: too early behind 60",
                read(x, "m1@11!12;m2@11!12;m3@11!12;m4@11!12;m6@11!12;m7@11!12;m8@11!"), -160);
        due("16: a ; as the 60th",
                read(x, "m1@11!12;m2@11!12;m3@11!12;m4@11!12;m6@11!12;m7@1!12;m8@1!1;"), -160);
        due("16: faults take nothing", x.count(6), 0);
        PatrolDesk none = new PatrolDesk();
        due("16: the fault goes ahead of UNKNOWN", read(none, "m1@1!5;m"), -108);
        due("16: faults record nothing", none.count(23), 0);
    }

    private static void errorsOfCalls() {
        PatrolDesk x = deskOf(2);
        due("16: member", read(x, "m2@0!1"), -1);
        due("16: member 99", read(x, "m99@0!1"), -1);
        due("16: area", read(x, "m0@12!1"), -1);
        due("16: trouble 0", read(x, "m0@0!0"), -2);
        due("16: trouble 13", read(x, "m0@0!13"), -2);
        due("16: unknown ahead of trouble", read(x, "m0@99!99"), -1);
        due("16: twice the same", read(x, "m0@0!1;m0@0!1"), -4);
        due("16: the first error", read(x, "m0@0!1;m1@0!0;m2@0!1"), -2);
        due("16: the first error", read(x, "m0@0!1;m2@0!1;m1@0!0"), -1);
        due("16: errors take nothing", x.count(6), 0);
        due("16: errors record nothing", x.count(23), 2);
    }

    private static void allOrNone() {
        PatrolDesk x = deskOf(2);
        x.addPatrol(0, 9, true);
        // A repaired call, so that the next one of the member is a callback against the patrol.
        x.call(0, 0, 1);
        x.pass(6);
        due("16: repaired", x.callOf(0, 5), 5);
        due("16: refused as a whole", read(x, "m0@0!1;m7@0!1"), -1);
        due("16: no callback", x.patrol(0, 9), 0);
        due("16: no callback", x.count(18), 0);
        due("16: no call", x.count(6), 1);
        due("16: taken as a whole", read(x, "m0@0!1;m1@0!1"), 2);
        due("16: callback", x.patrol(0, 9), 1);
        x.cancel(1);
        x.cancel(2);
        for (int number = 3; number < 39; number++) {
            due("16: one more", x.call(0, 0, 1), number);
            x.cancel(number);
        }
        due("16: 39 calls", x.count(6), 39);
        due("16: full at the second", read(x, "m0@0!1;m1@0!1"), -3);
        due("16: none of both", x.count(6), 39);
        due("16: the one that fits", read(x, "m1@0!1"), 1);
        due("16: full", read(x, "m0@0!1"), -3);
        due("16: not possible ahead of full", read(x, "m1@0!1"), -4);
    }
}
