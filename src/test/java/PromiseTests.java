/** What the document promises, by its numbers: ordinary calls, edges, and refused calls that change nothing. */
public final class PromiseTests {
    private static final int MIN = Integer.MIN_VALUE;
    private static final int MAX = Integer.MAX_VALUE;
    private static final int[] OUTSIDE = {MIN, -1000, -3, -2, 1000, 65536, MAX};
    private static final Due due = new Due();

    public static void main(String[] args) {
        newObject();
        roof();
        apprentice();
        master();
        on();
        below();
        gear();
        snow();
        feed();
        LawTests.all(due);
        hours();
        hour();
        roofIs();
        apprenticeIs();
        masterIs();
        tried();
        set();
        free();
        worth();
        lent();
        letGo();
        settled();
        owes();
        teachers();
        chain();
        odds();
        seed();
        keepAndUndo();
        check();
        count();
        due.end();
    }

    /** One ROOF with one APPRENTICE on it and, below, so many MASTERS of TRADE 0. */
    private static SlateSchool site(String law, int room, int slates, int masters) {
        SlateSchool x = new SlateSchool();
        due.is("law " + law, Due.law(x, law) > 0, true);
        x.roof(room, slates, 0);
        x.apprentice(0);
        x.on(0, 0);
        for (int b = 0; b < masters; b++) {
            x.master(0, false);
            x.below(b, 0);
        }
        return x;
    }

    private static void newObject() {
        due.promise(1);
        SlateSchool x = new SlateSchool();
        for (int what = 0; what <= 9; what++) {
            due.is("count " + what, x.count(what), what == 6 ? 1 : 0);
        }
        for (int h = 0; h < 100; h++) {
            due.is("snow " + h, x.count(100 + h), 0);
        }
        due.is("nothing kept", x.undo(), false);
        due.is("no roof", x.roofIs(0, 0), -1);
        due.is("no apprentice", x.apprenticeIs(0, 1), -1);
        due.is("no master", x.masterIs(0, 1), -1);
        due.is("NONE", SlateSchool.NONE, -1);
        SlateSchool noLaw = new SlateSchool();
        noLaw.roof(9, 5, 0);
        noLaw.apprentice(3);
        noLaw.on(0, 0);
        due.is("no law", noLaw.hour(3), 0);
        due.is("no law", noLaw.roofIs(0, 1), 5);
    }

    private static void roof() {
        due.promise(2);
        SlateSchool x = new SlateSchool();
        due.is("room 100", x.roof(100, 0, 0), -1);
        due.is("room -1", x.roof(-1, 0, 0), -1);
        due.is("room -1, slates -1", x.roof(-1, -1, 0), -1);
        due.is("slates above", x.roof(5, 6, 0), -1);
        due.is("slates -1", x.roof(5, -1, 0), -1);
        due.is("steep 10", x.roof(5, 5, 10), -1);
        due.is("steep -1", x.roof(5, 5, -1), -1);
        for (int bad : OUTSIDE) {
            due.is("room", x.roof(bad, 0, 0), -1);
            due.is("slates", x.roof(99, bad, 0), -1);
            due.is("steep", x.roof(99, 0, bad), -1);
        }
        due.is("none", x.count(0), 0);
        due.is("first", x.roof(0, 0, 0), 0);
        due.is("second", x.roof(99, 99, 9), 1);
        for (int q = 2; q < 10; q++) {
            due.is("roof", x.roof(10 + q, q, 9 - q), q);
        }
        due.is("eleventh", x.roof(1, 1, 1), -1);
        due.is("ten", x.count(0), 10);
        due.is("room", x.roofIs(9, 0), 19);
        due.is("slates", x.roofIs(9, 1), 9);
        due.is("steep", x.roofIs(9, 2), 0);
    }

    private static void apprentice() {
        due.promise(3);
        SlateSchool x = new SlateSchool();
        due.is("grip -1", x.apprentice(-1), -1);
        due.is("grip 10", x.apprentice(10), -1);
        for (int bad : OUTSIDE) {
            due.is("grip", x.apprentice(bad), -1);
        }
        due.is("none", x.count(1), 0);
        for (int a = 0; a < 8; a++) {
            due.is("apprentice", x.apprentice(a + 2), a);
        }
        due.is("ninth", x.apprentice(0), -1);
        due.is("eight", x.count(1), 8);
        due.is("on none", x.apprenticeIs(7, 0), 10);
        due.is("grip", x.apprenticeIs(7, 1), 9);
        due.is("rope", x.apprenticeIs(7, 2), 0);
        due.is("owes", x.apprenticeIs(7, 3), 0);
        due.is("fell", x.apprenticeIs(7, 4), 0);
        due.is("skill", x.apprenticeIs(7, 10), 0);
    }

    private static void master() {
        due.promise(4);
        SlateSchool x = new SlateSchool();
        due.is("trade -1", x.master(-1, true), -1);
        due.is("trade 5", x.master(5, false), -1);
        for (int bad : OUTSIDE) {
            due.is("trade", x.master(bad, false), -1);
        }
        due.is("none", x.count(2), 0);
        for (int b = 0; b < 8; b++) {
            due.is("master", x.master(b % 5, b % 2 == 1), b);
        }
        due.is("ninth", x.master(0, false), -1);
        due.is("eight", x.count(2), 8);
        due.is("below none", x.masterIs(7, 0), 10);
        due.is("trade", x.masterIs(7, 1), 2);
        due.is("umbrella", x.masterIs(7, 2), 1);
        due.is("umbrella", x.masterIs(6, 2), 0);
        due.is("owed", x.masterIs(7, 3), 0);
        due.is("bruises", x.masterIs(7, 4), 0);
    }

    private static void on() {
        due.promise(5);
        SlateSchool x = new SlateSchool();
        due.is("no apprentice", x.on(0, -1), false);
        x.apprentice(1);
        due.is("no roof", x.on(0, 0), false);
        x.roof(1, 1, 1);
        x.roof(1, 1, 1);
        due.is("on 1", x.on(0, 1), true);
        for (int bad : OUTSIDE) {
            due.is("apprentice", x.on(bad, 0), false);
            due.is("roof", x.on(0, bad), false);
        }
        due.is("apprentice 1", x.on(1, 0), false);
        due.is("apprentice -1", x.on(-1, 0), false);
        due.is("roof 2", x.on(0, 2), false);
        due.is("roof 10", x.on(0, 10), false);
        due.is("still on 1", x.apprenticeIs(0, 0), 1);
        due.is("again", x.on(0, 1), true);
        due.is("bits", x.roofIs(1, 3), 1);
        due.is("off", x.on(0, -1), true);
        due.is("on none", x.apprenticeIs(0, 0), 10);
        due.is("off again", x.on(0, -1), true);
        due.is("bits", x.roofIs(1, 3), 0);
    }

    private static void below() {
        due.promise(6);
        SlateSchool x = new SlateSchool();
        due.is("no master", x.below(0, -1), false);
        x.master(1, false);
        due.is("no roof", x.below(0, 0), false);
        x.roof(1, 1, 1);
        x.roof(1, 1, 1);
        due.is("below 1", x.below(0, 1), true);
        for (int bad : OUTSIDE) {
            due.is("master", x.below(bad, 0), false);
            due.is("roof", x.below(0, bad), false);
        }
        due.is("master 1", x.below(1, 0), false);
        due.is("master -1", x.below(-1, 0), false);
        due.is("roof 2", x.below(0, 2), false);
        due.is("roof 10", x.below(0, 10), false);
        due.is("still below 1", x.masterIs(0, 0), 1);
        due.is("bits", x.roofIs(1, 4), 1);
        due.is("away", x.below(0, -1), true);
        due.is("below none", x.masterIs(0, 0), 10);
        due.is("bits", x.roofIs(1, 4), 0);
    }

    private static void gear() {
        due.promise(7);
        SlateSchool x = new SlateSchool();
        due.is("nobody", x.gear(0, 0, true), false);
        due.is("nobody", x.gear(1, 0, true), false);
        x.apprentice(0);
        x.apprentice(0);
        x.master(0, true);
        due.is("it is so", x.gear(0, 0, false), false);
        due.is("rope", x.gear(0, 1, true), true);
        due.is("rope again", x.gear(0, 1, true), false);
        due.is("rope", x.apprenticeIs(1, 2), 1);
        due.is("rope of the other", x.apprenticeIs(0, 2), 0);
        due.is("it is so", x.gear(1, 0, true), false);
        due.is("no umbrella", x.gear(1, 0, false), true);
        due.is("no umbrella", x.masterIs(0, 2), 0);
        due.is("no umbrella again", x.gear(1, 0, false), false);
        due.is("no master 1", x.gear(1, 1, true), false);
        due.is("no apprentice 2", x.gear(0, 2, true), false);
        due.is("what 2", x.gear(2, 0, true), false);
        due.is("what -1", x.gear(-1, 0, true), false);
        for (int bad : OUTSIDE) {
            due.is("what", x.gear(bad, 0, true), false);
            due.is("who", x.gear(0, bad, true), false);
            due.is("who", x.gear(1, bad, true), false);
        }
        due.is("rope off", x.gear(0, 1, false), true);
        due.is("rope off", x.apprenticeIs(1, 2), 0);
    }

    private static void snow() {
        due.promise(8);
        SlateSchool x = new SlateSchool();
        due.is("hour -1", x.snow(-1, true), false);
        due.is("hour 100", x.snow(100, true), false);
        for (int bad : OUTSIDE) {
            due.is("hour", x.snow(bad, true), false);
        }
        due.is("none yet", x.snow(99, false), false);
        due.is("99", x.snow(99, true), true);
        due.is("99 again", x.snow(99, true), false);
        due.is("0", x.snow(0, true), true);
        due.is("count 99", x.count(199), 1);
        due.is("count 0", x.count(100), 1);
        due.is("count 1", x.count(101), 0);
        due.is("99 off", x.snow(99, false), true);
        due.is("count 99", x.count(199), 0);
    }

    private static void feed() {
        due.promise(9);
        SlateSchool x = new SlateSchool();
        for (int i = 1; i <= 11; i++) {
            due.is("feed", x.feed(i, -i, MIN, MAX, 0), 20 * i);
        }
        due.is("too long", x.feed(0, 0, 0, 0, 0), -1);
        due.is("bytes", x.count(4), 220);
        SlateSchool y = new SlateSchool();
        for (int q = 0; q < 10; q++) {
            y.roof(99, 10 + q, 0);
        }
        y.feed(10, 11, 12, 13, 14);
        y.feed(15, 16, 17, 18, 19);
        due.is("behind the tape, in order", y.check(10), -1);
        y.feed('m' << 24 | '7' << 16 | '(' << 8 | '1', '=' << 24 | '1' << 16 | ')' << 8, 0, 0, 0);
        due.is("the highest first", y.law(7), 1);
    }

    private static void hours() {
        due.promise(11);
        SlateSchool x = site("fw(1=1)", 99, 99, 0);
        for (int bad : OUTSIDE) {
            due.is("n", x.hours(bad), -1);
        }
        due.is("n 0", x.hours(0), -1);
        due.is("n -1", x.hours(-1), -1);
        due.is("n 41", x.hours(41), -1);
        due.is("nothing passed", x.count(5), 0);
        due.is("nothing drawn", x.count(6), 1);
        // the winds from the seed 1: 2 7 6 5 2 9 6 7 2 9 6 1
        due.is("three", x.hours(3), 15);
        due.is("X", x.count(6), 20196);
        due.is("the hour", x.count(5), 3);
        due.is("one", x.hours(1), 5);
        x.snow(5, true);
        due.is("wind 2, then snow in place of 9", x.hours(2), 2);
        due.is("X also with snow", x.count(6), 21259);
        due.is("the hour also with snow", x.count(5), 6);
        due.is("three", x.hours(3), 15);
        due.is("left", x.roofIs(0, 1), 99 - 15 - 5 - 2 - 15);
        due.is("forty", x.hours(40) >= 0, true);
        due.is("the hour", x.count(5), 49);
    }

    private static void hour() {
        due.promise(12);
        SlateSchool x = site("fw(1=1)", 99, 99, 0);
        for (int bad : OUTSIDE) {
            due.is("wind", x.hour(bad), -1);
        }
        due.is("wind -1", x.hour(-1), -1);
        due.is("wind 10", x.hour(10), -1);
        due.is("nothing passed", x.count(5), 0);
        due.is("wind 9", x.hour(9), 9);
        due.is("wind 0", x.hour(0), 0);
        due.is("X stays", x.count(6), 1);
        due.is("the hour", x.count(5), 2);
        x.snow(2, true);
        due.is("snow", x.hour(9), 0);
        due.is("the hour", x.count(5), 3);
        due.is("no snow", x.hour(9), 9);
        laying();
        falling();
        ropes();
        striking();
        learning();
    }

    private static void laying() {
        SlateSchool x = site("m4(a=0);m3(a=1);fn/2(a=0)", 20, 0, 0);
        x.apprentice(0);
        x.on(1, 0);
        x.apprentice(0);
        due.is("all lay ahead of what falls", x.hour(0), 3);
        due.is("left", x.roofIs(0, 1), 4);
        SlateSchool y = site("m9(1=1)", 12, 0, 0);
        y.hour(0);
        due.is("nine", y.roofIs(0, 1), 9);
        y.hour(0);
        due.is("as far as there is room", y.roofIs(0, 1), 12);
        y.on(0, -1);
        y.roof(5, 0, 0);
        y.hour(0);
        due.is("on none", y.count(9), 12);
        SlateSchool z = site("mn+1(1=1)", 99, 0, 0);
        z.apprentice(0);
        z.on(1, 0);
        z.hour(0);
        due.is("one behind the other: 0 + 1, then 1 + 2", z.roofIs(0, 1), 3);
    }

    private static void falling() {
        SlateSchool x = site("fn(1=1)", 9, 4, 0);
        due.is("asked once", x.hour(0), 4);
        due.is("none left", x.roofIs(0, 1), 0);
        SlateSchool y = site("f7(1=1)", 9, 4, 0);
        due.is("as far as there are any", y.hour(0), 4);
        due.is("let fall", y.apprenticeIs(0, 4), 4);
        due.is("broken", y.count(7), 4);
        due.is("none", y.hour(0), 0);
        SlateSchool z = site("fn-1(1=1)", 9, 9, 0);
        z.apprentice(0);
        z.on(1, 0);
        due.is("by numbers: 8 of 9, then 0 of 1", z.hour(0), 8);
        due.is("the second", z.apprenticeIs(1, 4), 0);
    }

    private static void ropes() {
        SlateSchool x = site("fw(1=1)", 99, 50, 0);
        x.gear(0, 0, true);
        due.is("one fewer", x.hour(4), 3);
        due.is("not below 0", x.hour(0), 0);
        due.is("none of one", x.hour(1), 0);
        due.is("left", x.roofIs(0, 1), 47);
        SlateSchool y = site("f5(1=1)", 9, 3, 0);
        y.gear(0, 0, true);
        due.is("one fewer than there are", y.hour(0), 2);
        due.is("none of the last one", y.hour(0), 0);
        due.is("left", y.roofIs(0, 1), 1);
    }

    private static void striking() {
        SlateSchool x = site("f2(1=1)", 99, 99, 3);
        x.hour(0);
        due.is("the lowest", x.masterIs(0, 4), 1);
        due.is("then the next", x.masterIs(1, 4), 1);
        due.is("not the third", x.masterIs(2, 4), 0);
        x.hour(0);
        due.is("fewest", x.masterIs(2, 4), 1);
        due.is("of like ones the lowest", x.masterIs(0, 4), 2);
        x.gear(1, 1, true);
        x.below(2, -1);
        x.hour(0);
        due.is("the one without", x.masterIs(0, 4), 4);
        due.is("umbrella", x.masterIs(1, 4), 1);
        due.is("below none", x.masterIs(2, 4), 1);
        x.roof(9, 9, 0);
        x.below(0, 1);
        x.hour(0);
        due.is("broken", x.count(7), 2);
        due.is("below another", x.masterIs(0, 4), 4);
        due.is("fell", x.apprenticeIs(0, 4), 8);
    }

    private static void learning() {
        SlateSchool x = site("f2(1=1);l1+h(1=1);dn(1=1)", 9, 5, 1);
        x.hour(0);
        due.is("l ahead of the bruise: 1, then 2", x.apprenticeIs(0, 10), 3);
        due.is("lies there no more: 4, then 3", x.owes(0, 0, 0), 7);
        Due.law(x, "ms(1=1)");
        x.hour(0);
        due.is("s of TRADE 0 among all", x.roofIs(0, 1), 3 + 3);
        SlateSchool y = site("f3(1=1);l1+s(1=1);ds(1=1)", 9, 9, 1);
        y.hour(0);
        due.is("s of the trade: 1, 2, 4", y.apprenticeIs(0, 10), 7);
        due.is("d is asked then, too: 0, 1, 3", y.owes(0, 0, 0), 4);
        SlateSchool z = site("f9(1=1);l9(1=1);d99(1=1);m9(1=1)", 99, 99, 1);
        z.hour(0);
        due.is("81", z.apprenticeIs(0, 10), 81);
        z.hour(0);
        due.is("99 at most", z.apprenticeIs(0, 10), 99);
        due.is("owes", z.owes(0, 0, 0), 18 * 99);
        SlateSchool v = site("f2(1=1);l5-k(1=1)", 99, 99, 0);
        v.master(3, false);
        v.below(0, 0);
        v.master(1, false);
        v.below(1, 0);
        v.hour(0);
        due.is("trade 3", v.apprenticeIs(0, 13), 2);
        due.is("trade 1", v.apprenticeIs(0, 11), 4);
        due.is("trade 0", v.apprenticeIs(0, 10), 0);
    }

    private static void roofIs() {
        due.promise(13);
        SlateSchool x = new SlateSchool();
        x.roof(50, 20, 7);
        x.roof(51, 21, 8);
        for (int i = 0; i < 4; i++) {
            x.apprentice(0);
            x.master(0, false);
        }
        x.on(1, 0);
        x.on(3, 0);
        x.on(0, 1);
        x.below(0, 0);
        x.below(2, 0);
        x.below(3, 1);
        due.is("room", x.roofIs(0, 0), 50);
        due.is("slates", x.roofIs(0, 1), 20);
        due.is("steep", x.roofIs(0, 2), 7);
        due.is("apprentices", x.roofIs(0, 3), 10);
        due.is("masters", x.roofIs(0, 4), 5);
        due.is("apprentices", x.roofIs(1, 3), 1);
        due.is("masters", x.roofIs(1, 4), 8);
        due.is("what 5", x.roofIs(0, 5), -1);
        due.is("what -1", x.roofIs(0, -1), -1);
        due.is("roof 2", x.roofIs(2, 0), -1);
        due.is("roof -1", x.roofIs(-1, 0), -1);
        for (int bad : OUTSIDE) {
            due.is("roof", x.roofIs(bad, 0), -1);
            due.is("what", x.roofIs(0, bad), -1);
        }
    }

    private static void apprenticeIs() {
        due.promise(14);
        SlateSchool x = site("f2(1=1);l2(1=1);d3(1=1)", 9, 9, 2);
        x.apprentice(9);
        x.gear(0, 1, true);
        x.hour(0);
        due.is("roof", x.apprenticeIs(0, 0), 0);
        due.is("none", x.apprenticeIs(1, 0), 10);
        due.is("grip", x.apprenticeIs(1, 1), 9);
        due.is("rope", x.apprenticeIs(1, 2), 1);
        due.is("no rope", x.apprenticeIs(0, 2), 0);
        due.is("owes to all", x.apprenticeIs(0, 3), 6);
        due.is("fell", x.apprenticeIs(0, 4), 2);
        due.is("skill", x.apprenticeIs(0, 10), 4);
        for (int k = 1; k < 5; k++) {
            due.is("skill " + k, x.apprenticeIs(0, 10 + k), 0);
        }
        int[] bad = {5, 9, 15, -1};
        for (int what : bad) {
            due.is("what " + what, x.apprenticeIs(0, what), -1);
        }
        for (int what : OUTSIDE) {
            due.is("what", x.apprenticeIs(0, what), -1);
            due.is("who", x.apprenticeIs(what, 0), -1);
        }
        due.is("apprentice 2", x.apprenticeIs(2, 0), -1);
        due.is("apprentice -1", x.apprenticeIs(-1, 10), -1);
    }

    private static void masterIs() {
        due.promise(15);
        SlateSchool x = site("f4(1=1);d5+a(1=1)", 19, 19, 1);
        x.apprentice(0);
        x.on(1, 0);
        x.master(4, true);
        x.hour(0);
        due.is("roof", x.masterIs(0, 0), 0);
        due.is("none", x.masterIs(1, 0), 10);
        due.is("trade", x.masterIs(1, 1), 4);
        due.is("umbrella", x.masterIs(1, 2), 1);
        due.is("no umbrella", x.masterIs(0, 2), 0);
        due.is("owed", x.masterIs(0, 3), 44);
        due.is("owed", x.masterIs(1, 3), 0);
        due.is("bruises", x.masterIs(0, 4), 8);
        due.is("what 5", x.masterIs(0, 5), -1);
        due.is("what -1", x.masterIs(0, -1), -1);
        due.is("master 2", x.masterIs(2, 0), -1);
        due.is("master -1", x.masterIs(-1, 0), -1);
        for (int bad : OUTSIDE) {
            due.is("what", x.masterIs(0, bad), -1);
            due.is("who", x.masterIs(bad, 0), -1);
        }
    }

    private static void tried() {
        due.promise(16);
        SlateSchool x = site("fw(1=1);l1(1=1);d1(1=1)", 99, 60, 1);
        x.roof(30, 30, 0);
        x.apprentice(0);
        x.on(1, 1);
        x.gear(0, 1, true);
        due.is("broken, one fewer in each hour", x.tried(2, 3), 7);
        x.gear(0, 1, false);
        due.is("slates", x.tried(2, 0), 90 - 18);
        due.is("fall", x.tried(2, 1), 18);
        due.is("bruises", x.tried(2, 2), 9);
        due.is("broken", x.tried(2, 3), 9);
        x.gear(0, 0, true);
        due.is("bruises, one fewer in each hour", x.tried(2, 2), 7);
        due.is("broken", x.tried(2, 3), 9);
        x.gear(0, 0, false);
        due.is("roof 0", x.tried(2, 10), 51);
        due.is("roof 1", x.tried(2, 11), 21);
        due.is("master 0", x.tried(2, 20), 9);
        due.is("nothing is changed", x.count(9) + x.count(5) + x.count(7) + x.count(8), 90);
        due.is("X", x.count(6), 1);
        due.is("skill", x.apprenticeIs(0, 10), 0);
        due.is("owes", x.apprenticeIs(0, 3), 0);
        due.is("fell", x.apprenticeIs(0, 4), 0);
        x.hours(1);
        due.is("broken ones so far", x.tried(1, 3), 9);
        due.is("fall in these", x.tried(1, 1), 14);
        due.is("forty", x.tried(40, 11), 0);
        int[] bad = {4, 9, 12, 19, 21, 30, -1};
        for (int what : bad) {
            due.is("what " + what, x.tried(1, what), -1);
        }
        for (int what : OUTSIDE) {
            due.is("what", x.tried(1, what), -1);
            due.is("n", x.tried(what, 0), -1);
        }
        due.is("n 0", x.tried(0, 0), -1);
        due.is("n 41", x.tried(41, 0), -1);
    }

    private static void set() {
        due.promise(17);
        soonest();
        fewestBruises();
        setRefused();
        setFull();
    }

    private static void soonest() {
        // 0 lays one, 1 lays two on ROOF 1 alone, 2 lays three
        SlateSchool x = site("m1(a=0);m2(a=1&q=1);m3(a=2)", 12, 0, 0);
        x.roof(4, 0, 0);
        x.apprentice(0);
        x.apprentice(0);
        due.is("0 is on it, 1 is no help", x.set(6, 0, 20, 10), 3);
        due.is("least row", x.set(6, 0, 20, 1), 0);
        due.is("least row", x.set(6, 0, 20, 2), 0);
        due.is("roof 1 by two", x.set(6, 1, 20, 10), 1);
        due.is("both", x.set(6, 1, 20, 1), 1);
        due.is("both", x.set(6, 1, 20, 2), 1);
        due.is("three, 2 + 3 will do", x.set(7, 1, 20, 10), 1);
        due.is("three, the least row", x.set(7, 1, 20, 0), 0);
        due.is("not told", x.set(6, 1, 20, 0), -1);
        due.is("within 6", x.set(1, 0, 12, 10), 12);
        due.is("not within 11", x.set(1, 0, 11, 10), -2);
        due.is("not within 11", x.set(1, 0, 11, 0), -2);
        due.is("not within 11", x.set(1, 0, 11, 12), -2);
        due.is("nothing is changed", x.apprenticeIs(0, 0), 0);
        due.is("nothing is changed", x.apprenticeIs(2, 0) + x.count(5) + x.count(9), 10);
        due.is("it is so", x.set(6, 1, 20, 12), 1);
        due.is("1", x.apprenticeIs(1, 0), 1);
        due.is("2", x.apprenticeIs(2, 0), 1);
        due.is("0 stays", x.apprenticeIs(0, 0), 0);
        due.is("no hour passed", x.count(5) + x.count(9), 0);
        SlateSchool y = site("m1(a=0&q=1);m1(a=1&q=0);m1(a=2&q=0)", 2, 0, 0);
        y.roof(9, 0, 0);
        y.apprentice(0);
        y.apprentice(0);
        due.is("within 1", y.set(6, 0, 1, 10), 1);
        due.is("the rows go round", y.set(3, 1, 20, 0), 1);
        due.is("the rows go round", y.set(3, 1, 20, 1), 0);
        due.is("the rows go round", y.set(7, 1, 20, 2), 0);
        x.hours(1);
        due.is("full", x.roofIs(1, 1), 4);
    }

    private static void fewestBruises() {
        // on ROOF 0 a SLATE falls in each HOUR and strikes, on ROOF 1 and 2 none does
        SlateSchool x = site("m2(q=2);f1(q=0)", 9, 9, 1);
        x.roof(9, 9, 0);
        x.roof(8, 0, 0);
        x.apprentice(0);
        due.is("2 alone could", x.set(3, 2, 20, 10), 2);
        due.is("bruises", x.set(3, 2, 20, 11), 0);
        x.apprentice(0);
        x.on(2, 2);
        due.is("with the third", x.set(1, 2, 20, 10), 2);
        due.is("on 2", x.set(1, 2, 20, 0), 2);
        x.on(2, -1);
        x.on(1, 2);
        x.roof(2, 0, 0);
        x.on(0, 1);
        // ROOF 2 is full in four HOURS by 1 alone, and 0 only hurts on ROOF 0
        due.is("2 told: both on 2", x.set(5, 2, 3, 10), 2);
        SlateSchool y = site("m2(a=1);f1(a=0&q=0)", 9, 9, 1);
        y.roof(4, 0, 0);
        y.apprentice(0);
        y.on(1, 1);
        due.is("as soon by either", y.set(1, 1, 20, 10), 2);
        due.is("fewest bruises", y.set(1, 1, 20, 11), 0);
        due.is("away from ROOF 0", y.set(1, 1, 20, 0), 1);
        y.hour(0);
        due.is("bruises then", y.set(1, 1, 20, 11), 1);
        due.is("of HOURS that are needed alone", y.set(1, 1, 20, 10), 1);
    }

    private static void setRefused() {
        SlateSchool x = site("m1(1=1)", 9, 0, 0);
        for (int a = 1; a < 5; a++) {
            x.apprentice(0);
        }
        due.is("none told", x.set(0, 0, 20, 10), -1);
        due.is("four told", x.set(15, 0, 20, 10), -1);
        due.is("three told", x.set(25, 0, 20, 10), 3);
        due.is("not there", x.set(32, 0, 20, 10), -1);
        due.is("not there", x.set(33, 0, 20, 10), -1);
        due.is("no roof 1", x.set(1, 1, 20, 10), -1);
        due.is("no roof -1", x.set(1, -1, 20, 10), -1);
        due.is("n 0", x.set(1, 0, 0, 10), -1);
        due.is("n 21", x.set(1, 0, 21, 10), -1);
        due.is("n 20", x.set(1, 0, 20, 10), 9);
        int[] bad = {-1, 1, 5, 8, 9, 13};
        for (int what : bad) {
            due.is("what " + what, x.set(1, 0, 20, what), -1);
            due.is("NONE ahead of -2", x.set(1, 0, 1, what), -1);
        }
        for (int what : OUTSIDE) {
            due.is("what", x.set(1, 0, 20, what), -1);
            due.is("n", x.set(1, 0, what, 10), -1);
            due.is("dome", x.set(1, what, 20, 10), -1);
            due.is("told", x.set(what, 0, 20, 10), -1);
        }
        due.is("told -1", x.set(-1, 0, 20, 10), -1);
    }

    private static void setFull() {
        SlateSchool x = site("f9(1=1)", 9, 0, 0);
        x.roof(5, 5, 0);
        x.on(0, 1);
        due.is("it is full", x.set(1, 1, 20, 10), 0);
        due.is("the least row", x.set(1, 1, 20, 0), 0);
        due.is("bruises", x.set(1, 1, 20, 11), 0);
        due.is("it is so", x.set(1, 1, 20, 12), 0);
        due.is("on 0", x.apprenticeIs(0, 0), 0);
        SlateSchool y = site("m1(w>5)", 2, 0, 0);
        y.hours(1);
        // the winds that will come: 7 6
        due.is("by the winds that will come", y.set(1, 0, 20, 10), 2);
        y.snow(1, true);
        // snow, 6, 5, 2, 9
        due.is("with snow", y.set(1, 0, 20, 10), 5);
    }

    private static void free() {
        due.promise(18);
        // the winds: 2 7 6 5 2 9 6 7; so many fall on the MASTER
        SlateSchool x = site("fw(1=1)", 99, 99, 1);
        due.is("the wind 7", x.free(3, 1, 0), 2);
        due.is("2 + 6", x.free(3, 1, 1), 8);
        due.is("slates", x.free(3, 1, 2), 91);
        due.is("two", x.free(4, 2, 0), 6);
        due.is("all of eight", x.free(8, 8, 0), 255);
        due.is("all of eight", x.free(8, 8, 1), 0);
        due.is("none", x.free(8, 0, 1), 44);
        due.is("none", x.free(8, 0, 0), 0);
        due.is("nothing is changed", x.count(100) + x.count(101) + x.count(5) + x.count(8), 0);
        x.snow(1, true);
        due.is("not the one that is", x.free(3, 1, 0), 4);
        due.is("not three", x.free(3, 3, 1), -2);
        due.is("two", x.free(3, 2, 1), 0);
        x.hours(2);
        due.is("from THE HOUR on", x.free(2, 1, 0), 1);
        SlateSchool y = site("m1(w=7);m2(w=2)", 9, 0, 0);
        due.is("most slates, then the least set", y.free(4, 1, 0), 4);
        due.is("most slates", y.free(4, 1, 2), 3);
        due.is("most slates", y.free(2, 1, 0), 2);
        SlateSchool z = site("fw(1=1)", 99, 99, 1);
        for (int i = 0; i < 97; i++) {
            z.hour(0);
        }
        due.is("to hour 99", z.free(8, 4, 0), -2);
        due.is("to hour 99", z.free(8, 3, 0), 7);
        z.hour(0);
        z.hour(0);
        z.hour(0);
        due.is("behind it", z.free(8, 0, 0), 0);
        due.is("behind it", z.free(8, 1, 0), -2);
        int[] bad = {-1, 3};
        for (int what : bad) {
            due.is("what", z.free(8, 0, what), -1);
            due.is("NONE ahead of -2", z.free(8, 1, what), -1);
        }
        due.is("n 0", z.free(0, 0, 0), -1);
        due.is("n 9", z.free(9, 0, 0), -1);
        due.is("k -1", z.free(1, -1, 0), -1);
        due.is("k 9", z.free(1, 9, 0), -1);
        due.is("k 8", z.free(1, 8, 0), -2);
        for (int what : OUTSIDE) {
            due.is("what", z.free(1, 0, what), -1);
            due.is("k", z.free(1, what, 0), -1);
            due.is("n", z.free(what, 0, 0), -1);
        }
    }

    private static void worth() {
        due.promise(19);
        SlateSchool x = site("f3(1=1)", 99, 99, 1);
        due.is("umbrella", x.worth(1, 0, 2), 6);
        due.is("rope", x.worth(0, 0, 2), 2);
        due.is("forty", x.worth(1, 0, 40), 99);
        due.is("nothing is changed", x.apprenticeIs(0, 2) + x.masterIs(0, 2) + x.count(5) + x.count(8), 0);
        x.master(0, false);
        x.below(1, 0);
        due.is("the other is struck", x.worth(1, 0, 2), 0);
        // with a rope it lays more in the next hour, and more than that falls
        SlateSchool y = site("m9(o=1);fn(o=1);f1(1=1)", 99, 9, 1);
        due.is("below 0", y.worth(0, 0, 1), -7);
        x.gear(0, 0, true);
        x.gear(1, 0, true);
        due.is("has a rope", x.worth(0, 0, 2), -10000);
        due.is("has an umbrella", x.worth(1, 0, 2), -10000);
        due.is("what 2", x.worth(2, 0, 2), -10000);
        due.is("what -1", x.worth(-1, 0, 2), -10000);
        due.is("no master 2", x.worth(1, 2, 2), -10000);
        due.is("no apprentice 1", x.worth(0, 1, 2), -10000);
        due.is("n 0", x.worth(1, 1, 0), -10000);
        due.is("n 41", x.worth(1, 1, 41), -10000);
        for (int bad : OUTSIDE) {
            due.is("what", x.worth(bad, 0, 2), -10000);
            due.is("who", x.worth(0, bad, 2), -10000);
            due.is("n", x.worth(1, 1, bad), -10000);
        }
    }

    /** APPRENTICE a strikes MASTER b so often; f is the GRIP there. */
    private static void strike(SlateSchool x, int a, int b, int often) {
        for (int i = 0; i < often; i++) {
            x.on(a, 0);
            x.below(b, 0);
            x.hour(0);
            x.on(a, -1);
            x.below(b, -1);
        }
    }

    private static SlateSchool fight(String law, int apprentices, int masters) {
        SlateSchool x = new SlateSchool();
        Due.law(x, law);
        x.roof(99, 99, 0);
        for (int a = 0; a < apprentices; a++) {
            x.apprentice(0);
        }
        for (int b = 0; b < masters; b++) {
            x.master(0, false);
        }
        return x;
    }

    private static void lent() {
        due.promise(20);
        SlateSchool x = fight("m9(1=1);f1(1=1)", 4, 4);
        strike(x, 0, 0, 3);
        strike(x, 1, 0, 2);
        strike(x, 0, 1, 2);
        strike(x, 2, 2, 1);
        due.is("most", x.lent(1, 10), 3);
        due.is("0 gives way", x.lent(1, 0), 1);
        due.is("1 lends to 0", x.lent(1, 1), 0);
        due.is("2 lends to 2", x.lent(1, 2), 2);
        due.is("3 has no bruise", x.lent(1, 3), 8);
        due.is("at least two", x.lent(2, 10), 2);
        due.is("at least two", x.lent(2, 2), 8);
        due.is("at least three", x.lent(3, 10), 1);
        due.is("at least three", x.lent(3, 0), 0);
        due.is("at least three", x.lent(3, 1), 8);
        due.is("at least four", x.lent(4, 10), 0);
        due.is("nothing is changed", x.apprenticeIs(0, 2), 0);
        x.gear(0, 1, true);
        due.is("without a rope alone", x.lent(1, 10), 2);
        due.is("the least row", x.lent(1, 0), 0);
        due.is("the least row", x.lent(1, 1), 8);
        due.is("it is so", x.lent(1, 11), 2);
        due.is("rope", x.apprenticeIs(0, 2) + x.apprenticeIs(2, 2), 2);
        due.is("no rope", x.apprenticeIs(3, 2), 0);
        due.is("none left", x.lent(1, 11), 0);
        lentToAll();
        int[] bad = {-1, 4, 8, 9, 12};
        for (int what : bad) {
            due.is("what " + what, x.lent(1, what), -1);
        }
        due.is("k 0", x.lent(0, 10), -1);
        due.is("k 99", x.lent(99, 10), 0);
        due.is("k 100", x.lent(100, 10), -1);
        for (int what : OUTSIDE) {
            due.is("what", x.lent(1, what), -1);
            due.is("k", x.lent(what, 10), -1);
        }
    }

    private static void lentToAll() {
        SlateSchool x = fight("m9(1=1);f1(1=1)", 8, 2);
        strike(x, 7, 0, 1);
        strike(x, 6, 1, 1);
        x.keep();
        for (int b = 2; b < 8; b++) {
            x.master(0, false);
            strike(x, b - 2, b, 1);
        }
        due.is("eight to eight", x.lent(1, 10), 8);
        due.is("the first", x.lent(1, 0), 7);
        due.is("the last", x.lent(1, 7), 5);
        x.undo();
        due.is("two are left", x.lent(1, 10), 2);
        due.is("two are left", x.lent(1, 0), 7);
        due.is("two are left", x.lent(1, 1), 6);
    }

    private static void letGo() {
        due.promise(21);
        SlateSchool x = fight("fg(q=1)", 2, 2);
        x.roof(30, 30, 0);
        x.below(0, 0);
        x.below(1, 1);
        Due.feedBytes(x, 0, 4);
        due.is("how many", x.letGo(0, 1, -1), 1);
        due.is("tape", x.count(4), 0);
        Due.feedBytes(x, 0, 4);
        due.is("grip", x.letGo(0, 2, 0), 2);
        Due.feedBytes(x, 0, 4);
        due.is("roof", x.letGo(0, 2, 1), 1);
        Due.feedBytes(x, 0, 9);
        due.is("grip 9", x.letGo(0, 1, 0), 9);
        Due.feedBytes(x, 0, 9);
        due.is("roof", x.letGo(0, 1, 1), 1);
        Due.feedBytes(x, 0, 30);
        due.is("grip 5 in six hours, as far as there are any", x.letGo(0, 6, 0), 5);
        Due.feedBytes(x, 0, 0);
        due.is("none: grip 0 on any, or on 0 or none", x.letGo(1, 6, -1), 21);
        Due.feedBytes(x, 0, 0);
        due.is("first", x.letGo(1, 6, 0), 0);
        Due.feedBytes(x, 0, 0);
        due.is("first", x.letGo(1, 6, 1), 0);
        Due.feedBytes(x, 1, 0);
        due.is("none", x.letGo(1, 1, -1), 0);
        due.is("tape", x.count(4), 0);
        Due.feedBytes(x, 1, 0);
        due.is("none", x.letGo(1, 1, 1), -2);
        due.is("tape", x.count(4), 0);
        x.on(1, 1);
        Due.feedBytes(x, 0, 255);
        due.is("bytes are not below 0", x.letGo(0, 1, -1), 0);
        x.on(0, 0);
        due.is("nothing is changed", x.apprenticeIs(0, 0) + x.apprenticeIs(0, 1) + x.count(5) + x.count(8), 0);
        letGoMore();
        letGoRefused();
    }

    private static void letGoMore() {
        SlateSchool x = fight("f1(a=1);f1(g=3&a=0&q=10);f2(g=3&q=0)", 2, 1);
        x.below(0, 0);
        x.on(1, 0);
        x.hour(0);
        Due.feedBytes(x, 3);
        due.is("more than it has", x.letGo(0, 1, 0), 3);
        Due.feedBytes(x, 1);
        due.is("on none is a two, too", x.letGo(0, 1, -1), 19);
        Due.feedBytes(x, 0);
        due.is("alone on none", x.letGo(1, 1, 1), 10);
        SlateSchool z = fight("f9(1=1);m9(1=1)", 1, 0);
        Due.feedBytes(z, 0);
        due.is("no masters", z.letGo(0, 1, -1), -1);
        due.is("the tape stays", z.count(4), 20);
    }

    private static void letGoRefused() {
        SlateSchool x = fight("fg(q=1)", 1, 2);
        due.is("no tape", x.letGo(0, 1, -1), -1);
        Due.feedBytes(x, 0, 0);
        due.is("apprentice 1", x.letGo(1, 1, -1), -1);
        due.is("apprentice -1", x.letGo(-1, 1, -1), -1);
        due.is("n 0", x.letGo(0, 0, -1), -1);
        due.is("n 7", x.letGo(0, 7, -1), -1);
        due.is("what 2", x.letGo(0, 1, 2), -1);
        due.is("what -2", x.letGo(0, 1, -2), -1);
        for (int bad : OUTSIDE) {
            due.is("what", x.letGo(0, 1, bad), -1);
            due.is("n", x.letGo(0, bad, 0), -1);
            due.is("who", x.letGo(bad, 1, 0), -1);
        }
        due.is("the tape stays", x.count(4), 20);
        due.is("n 6", x.letGo(0, 6, -1), 20);
    }

    private static void settled() {
        due.promise(22);
        SlateSchool x = fight("m9(1=1);f1(1=1);d5(1=1)", 5, 5);
        due.is("nothing", x.settled(0), 0);
        due.is("nothing", x.settled(1), 0);
        strike(x, 0, 0, 1);
        due.is("one to one", x.settled(0), 1);
        due.is("one to one", x.settled(1), 1);
        strike(x, 1, 0, 1);
        due.is("two to one", x.settled(0), 2);
        due.is("two to one", x.settled(1), 1);
        strike(x, 1, 1, 1);
        // 0 owes 5, 1 owes 10; 0 is owed 10, 1 is owed 5: across
        due.is("across", x.settled(0), 2);
        due.is("across", x.settled(1), 2);
        strike(x, 2, 2, 3);
        due.is("six", x.settled(0), 3);
        due.is("six", x.settled(1), 3);
        strike(x, 3, 2, 1);
        due.is("seven: 5 10 15 5, 10 5 20", x.settled(0), 4);
        due.is("seven", x.settled(1), 3);
        strike(x, 3, 3, 1);
        due.is("eight", x.settled(0), -2);
        due.is("eight", x.settled(1), -2);
        due.is("what 2", x.settled(2), -1);
        due.is("what -1", x.settled(-1), -1);
        for (int bad : OUTSIDE) {
            due.is("what", x.settled(bad), -1);
        }
    }

    private static void owes() {
        due.promise(23);
        SlateSchool x = fight("m9(1=1);f1(1=1);d4+a*10+b(1=1)", 2, 3);
        strike(x, 1, 2, 3);
        strike(x, 0, 2, 1);
        due.is("owes", x.owes(1, 2, 0), 48);
        due.is("struck", x.owes(1, 2, 1), 3);
        due.is("owes", x.owes(0, 2, 0), 6);
        due.is("struck", x.owes(0, 2, 1), 1);
        due.is("owes not", x.owes(1, 1, 0), 0);
        due.is("struck not", x.owes(1, 1, 1), 0);
        due.is("what 2", x.owes(1, 2, 2), -1);
        due.is("what -1", x.owes(1, 2, -1), -1);
        due.is("apprentice 2", x.owes(2, 2, 0), -1);
        due.is("master 3", x.owes(1, 3, 0), -1);
        due.is("apprentice -1", x.owes(-1, 2, 0), -1);
        due.is("master -1", x.owes(1, -1, 0), -1);
        for (int bad : OUTSIDE) {
            due.is("what", x.owes(1, 2, bad), -1);
            due.is("apprentice", x.owes(bad, 2, 0), -1);
            due.is("master", x.owes(1, bad, 0), -1);
        }
    }

    private static void teachers() {
        due.promise(24);
        SlateSchool x = fight("m9(1=1);f1(1=1)", 3, 8);
        strike(x, 1, 2, 3);
        strike(x, 1, 7, 1);
        strike(x, 2, 0, 1);
        due.is("none", x.teachers(0), 0);
        due.is("2 and 7", x.teachers(1), 132);
        due.is("0", x.teachers(2), 1);
        due.is("apprentice 3", x.teachers(3), -1);
        due.is("apprentice -1", x.teachers(-1), -1);
        for (int bad : OUTSIDE) {
            due.is("who", x.teachers(bad), -1);
        }
    }

    private static void chain() {
        due.promise(25);
        SlateSchool x = fight("m9(1=1);f1(1=1)", 8, 8);
        int[][] struck = {{4, 5}, {2, 5}, {0, 1}, {1, 2}, {0, 3}, {3, 2}, {6, 6}};
        for (int a = 0; a < struck.length; a++) {
            strike(x, a, struck[a][0], 1);
            strike(x, a, struck[a][1], 1);
        }
        // 0 to 2 by 1 (APPRENTICES 2 3) or by 3 (4 5); 2 to 5 by 1, 5 to 4 by 0
        due.is("0 to 2", x.chain(0, 2, -1), 2);
        due.is("least row", x.chain(0, 2, 0), 2);
        due.is("least row", x.chain(0, 2, 1), 3);
        due.is("no such place", x.chain(0, 2, 2), -3);
        due.is("2 to 0", x.chain(2, 0, 0), 3);
        due.is("2 to 0", x.chain(2, 0, 1), 2);
        due.is("0 to 4", x.chain(0, 4, -1), 4);
        due.is("0 to 4", x.chain(0, 4, 2), 1);
        due.is("0 to 4", x.chain(0, 4, 3), 0);
        due.is("itself", x.chain(6, 6, -1), 0);
        due.is("itself", x.chain(7, 7, -1), 0);
        due.is("itself, place 0", x.chain(7, 7, 0), -3);
        due.is("none", x.chain(0, 6, -1), -2);
        due.is("none", x.chain(0, 6, 7), -2);
        due.is("-3 ahead of -2", x.chain(0, 6, 8), -3);
        due.is("-3 ahead of -2", x.chain(0, 6, -2), -3);
        due.is("master 8", x.chain(8, 0, -1), -3);
        due.is("master 8", x.chain(0, 8, -1), -3);
        due.is("master -1", x.chain(-1, -1, -1), -3);
        for (int bad : OUTSIDE) {
            due.is("what", x.chain(0, 2, bad), -3);
            due.is("from", x.chain(bad, 2, -1), -3);
            due.is("to", x.chain(0, bad, -1), -3);
        }
        strike(x, 7, 0, 1);
        strike(x, 7, 4, 1);
        due.is("shorter", x.chain(0, 4, -1), 1);
        due.is("shorter", x.chain(0, 4, 0), 7);
        longChain();
    }

    private static void longChain() {
        SlateSchool x = fight("m9(1=1);f1(1=1)", 8, 8);
        for (int a = 0; a < 7; a++) {
            strike(x, 6 - a, a, 1);
            strike(x, 6 - a, a + 1, 1);
        }
        due.is("seven", x.chain(0, 7, -1), 7);
        for (int i = 0; i < 7; i++) {
            due.is("place " + i, x.chain(0, 7, i), 6 - i);
        }
        due.is("place 7", x.chain(0, 7, 7), -3);
    }

    private static void odds() {
        due.promise(26);
        SlateSchool x = site("f2(w<4);f1(w<8)", 99, 99, 1);
        due.is("above", x.odds(0, 1, 1, 0), 4);
        due.is("below", x.odds(0, 1, 1, 1), 5);
        due.is("two", x.odds(0, 1, 2, 0), 2);
        due.is("two", x.odds(0, 1, 2, 1), 5);
        due.is("three in two hours: 16 + 32 of 100", x.odds(0, 2, 3, 0), 12);
        due.is("three in two hours", x.odds(0, 2, 3, 1), 25);
        due.is("none in three hours: all but 8 of 1000", x.odds(0, 3, 1, 0), 124);
        due.is("none in three hours", x.odds(0, 3, 1, 1), 125);
        due.is("surely", x.odds(0, 3, 0, 0), 1);
        due.is("surely", x.odds(0, 3, 0, 1), 1);
        due.is("never", x.odds(0, 3, 7, 0), 0);
        due.is("never", x.odds(0, 3, 7, 1), 1);
        due.is("nothing is changed", x.count(5) + x.count(8), 0);
        x.hour(0);
        due.is("those it has", x.odds(0, 1, 2, 0), 1);
        x.snow(1, true);
        due.is("snow", x.odds(0, 1, 3, 0), 0);
        due.is("999", x.odds(0, 3, 999, 0), 0);
        due.is("1000", x.odds(0, 3, 1000, 0), -1);
        due.is("-1", x.odds(0, 3, -1, 0), -1);
        due.is("n 0", x.odds(0, 0, 1, 0), -1);
        due.is("n 4", x.odds(0, 4, 1, 0), -1);
        due.is("what 2", x.odds(0, 3, 1, 2), -1);
        due.is("what -1", x.odds(0, 3, 1, -1), -1);
        due.is("master 1", x.odds(1, 3, 1, 0), -1);
        due.is("master -1", x.odds(-1, 3, 1, 0), -1);
        for (int bad : OUTSIDE) {
            due.is("what", x.odds(0, 3, 1, bad), -1);
            due.is("bruises", x.odds(0, 3, bad, 0), -1);
            due.is("n", x.odds(0, bad, 1, 0), -1);
            due.is("master", x.odds(bad, 3, 1, 0), -1);
        }
    }

    private static void seed() {
        due.promise(27);
        SlateSchool x = new SlateSchool();
        due.is("-1", x.seed(-1), false);
        due.is("65536", x.seed(65536), false);
        int[] outside = {MIN, -65536, -2, 65537, 131072, MAX};
        for (int bad : outside) {
            due.is("outside", x.seed(bad), false);
        }
        due.is("X", x.count(6), 1);
        due.is("65535", x.seed(65535), true);
        due.is("X", x.count(6), 65535);
        x.hours(1);
        due.is("X: 25173 * 65535 + 13849 by 65536", x.count(6), 54212);
        due.is("0", x.seed(0), true);
        due.is("X", x.count(6), 0);
        x.hours(1);
        due.is("X", x.count(6), 13849);
    }

    private static void keepAndUndo() {
        due.promise(28);
        SlateSchool x = site("f2(1=1);l1(1=1);d3(1=1)", 20, 15, 1);
        x.roof(7, 7, 0);
        x.feed(1, 2, 3, 4, 5);
        due.is("slates", x.keep(), 22);
        int[] before = state(x);
        x.hours(2);
        x.snow(7, true);
        x.gear(0, 0, true);
        x.gear(1, 0, true);
        x.on(0, 1);
        x.below(0, 1);
        x.roof(9, 9, 9);
        x.apprentice(4);
        x.master(4, true);
        x.seed(77);
        x.feed(1, 2, 3, 4, 5);
        due.promise(29);
        due.is("nothing kept there", new SlateSchool().undo(), false);
        due.is("undone", x.undo(), true);
        int[] after = state(x);
        for (int i = 0; i < before.length; i++) {
            due.is("state " + i, after[i], before[i]);
        }
        x.hours(1);
        due.is("undone again", x.undo(), true);
        due.is("hour", x.count(5), 0);
        x.hours(3);
        due.promise(28);
        due.is("kept last", x.keep(), 16);
        x.hours(1);
        due.promise(29);
        due.is("undone", x.undo(), true);
        due.is("hour", x.count(5), 3);
        x.check(0);
        due.is("a law", Due.law(x, "m1(1=1);m1(1=1);f1(1=1)"), 3);
        x.undo();
        due.is("the law stays", x.count(3), 3);
        due.is("a new one there", x.apprentice(2), 1);
        due.is("fell", x.apprenticeIs(1, 4) + x.apprenticeIs(1, 3) + x.apprenticeIs(1, 2), 0);
    }

    /** Of the first three of each, so that twice of it is within what an object is used for. */
    private static int[] state(SlateSchool x) {
        int[] all = new int[10 + 10 + 3 * 5 + 3 * 15 + 3 * 5 + 18];
        int n = 0;
        for (int i = 0; i < 10; i++) {
            all[n++] = x.count(i);
        }
        for (int h = 0; h < 10; h++) {
            all[n++] = x.count(100 + h);
        }
        for (int i = 0; i < 3 * 5; i++) {
            all[n++] = x.roofIs(i / 5, i % 5);
        }
        for (int i = 0; i < 3 * 15; i++) {
            all[n++] = x.apprenticeIs(i / 15, i % 15);
        }
        for (int i = 0; i < 3 * 5; i++) {
            all[n++] = x.masterIs(i / 5, i % 5);
        }
        for (int i = 0; i < 18; i++) {
            all[n++] = x.owes(i / 6, i / 2 % 3, i % 2);
        }
        return all;
    }

    private static void check() {
        due.promise(30);
        SlateSchool x = new SlateSchool();
        x.roof(9, 4, 0);
        x.roof(9, 5, 0);
        due.is("no numbers", x.check(0), -1);
        due.is("no tape", x.check(1), -2);
        x.feed(4, 5, 6, 7, 8);
        due.is("n -1", x.check(-1), -2);
        due.is("n 11", x.check(11), -2);
        due.is("n 6", x.check(6), -2);
        for (int bad : OUTSIDE) {
            due.is("n", x.check(bad), -2);
        }
        due.is("the tape stays", x.count(4), 20);
        due.is("right", x.check(2), -1);
        due.is("empty then", x.count(4), 0);
        x.feed(4, 5, 6, 7, 8);
        due.is("the first alone", x.check(1), -1);
        x.feed(4, 6, 6, 7, 8);
        due.is("the second", x.check(2), 1);
        due.is("empty then", x.count(4), 0);
        x.feed(4, 5, 0, 7, 8);
        due.is("more than there are", x.check(5), 2);
        x.feed(3, 5, 0, 7, 8);
        due.is("the first", x.check(5), 0);
        x.feed(4 + (1 << 24), 5, 0, 7, 8);
        due.is("four bytes", x.check(2), 0);
        x.feed(4, 5, 0, 7, 8);
        due.is("none of them", x.check(0), -1);
        due.is("empty then", x.count(4), 0);
        x.feed(4, 5, 0, 7, 8);
        x.feed(4, 5, 0, 7, 8);
        due.is("ten", x.check(10), 2);
        for (int i = 0; i < 3; i++) {
            x.feed(4, 5, 0, 7, 8);
        }
        due.is("eleven", x.check(11), -2);
        due.is("the tape stays", x.count(4), 60);
    }

    private static void count() {
        due.promise(31);
        SlateSchool x = site("f3(1=1);m1(1=1)", 20, 15, 1);
        x.roof(7, 7, 0);
        x.apprentice(0);
        x.apprentice(0);
        x.on(1, 1);
        x.feed(0, 0, 0, 0, 0);
        x.snow(50, true);
        x.hours(2);
        int[] due10 = {2, 3, 1, 2, 20, 2, 61087, 6, 6, 22 + 2 + 1 - 12};
        for (int what = 0; what < 10; what++) {
            due.is("count " + what, x.count(what), due10[what]);
        }
        due.is("snow 50", x.count(150), 1);
        due.is("snow 49", x.count(149), 0);
        int[] bad = {-1, 10, 99, 200};
        for (int what : bad) {
            due.is("count " + what, x.count(what), -1);
        }
        for (int what : OUTSIDE) {
            due.is("count", x.count(what), -1);
        }
    }
}
