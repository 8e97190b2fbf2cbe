/** Each sentence of the promises that names a boundary: the least and the greatest that is taken, empty and full. */
public final class EdgeTests {
    private static final Due due = new Due();
    private static final String ALL_LETTERS = "m[a+g+q+e+t+w+s]%5(n<95|o=1);m1(1=1);f[n+g+e+w]%6(1=1);"
            + "l[b+k+h+s+a]%4+1(1=1);d[h+n+b+k+g+e]%50(1=1)";

    public static void main(String[] args) {
        added();
        placed();
        geared();
        snowed();
        fed();
        lawTaken();
        hoursTaken();
        hourTaken();
        lookedAt();
        triedAsPassed();
        triedEnds();
        setWithin();
        setTold();
        setLike();
        setSooner();
        setDomes();
        freeEnds();
        freeToHour99();
        freeLike();
        worthEnds();
        lentEnds();
        lentLike();
        lentAgain();
        letGoEnds();
        letGoBytes();
        settledEnds();
        settledSets();
        struckBits();
        chainEnds();
        chainLike();
        oddsEnds();
        oddsWholly();
        seedEnds();
        keptAll();
        checkEnds();
        checkBytes();
        counted();
        due.end();
    }

    private static SlateSchool one(String law, int room, int slates) {
        SlateSchool x = new SlateSchool();
        due.is("law " + law, Due.law(x, law) > 0, true);
        x.roof(room, slates, 0);
        x.apprentice(0);
        x.on(0, 0);
        return x;
    }

    private static SlateSchool withMasters(String law, int room, int slates, int masters) {
        SlateSchool x = one(law, room, slates);
        for (int b = 0; b < masters; b++) {
            x.master(0, false);
            x.below(b, 0);
        }
        return x;
    }

    /** A ROOF on which one strikes as it is told; nobody is on it or below it. */
    private static SlateSchool yard(String law, int apprentices, int masters) {
        SlateSchool x = new SlateSchool();
        due.is("law " + law, Due.law(x, law) > 0, true);
        x.roof(99, 99, 0);
        for (int a = 0; a < apprentices; a++) {
            x.apprentice(0);
        }
        for (int b = 0; b < masters; b++) {
            x.master(0, false);
        }
        return x;
    }

    private static void strike(SlateSchool x, int a, int b) {
        x.on(a, 0);
        x.below(b, 0);
        x.hour(0);
        x.on(a, -1);
        x.below(b, -1);
    }

    /** Ten ROOFS, eight APPRENTICES and eight MASTERS, all in different places and ways. */
    private static SlateSchool full() {
        SlateSchool x = new SlateSchool();
        due.is("law", Due.law(x, ALL_LETTERS), 5);
        for (int q = 0; q < 10; q++) {
            x.roof(99 - q, 60 + q, 9 - q);
        }
        for (int i = 0; i < 8; i++) {
            x.apprentice(9 - i);
            x.master((i + 1) % 5, i == 3);
            x.on(i, 9 - i);
            x.below(i, 9 - i);
        }
        x.gear(0, 6, true);
        x.snow(3, true);
        return x;
    }

    private static void added() {
        due.promise(2);
        SlateSchool x = new SlateSchool();
        int[][] taken = {{0, 0, 0}, {99, 0, 0}, {99, 99, 9}, {1, 1, 9}, {1, 0, 5}, {50, 49, 1}};
        for (int i = 0; i < taken.length; i++) {
            due.is("roof", x.roof(taken[i][0], taken[i][1], taken[i][2]), i);
            for (int what = 0; what <= 2; what++) {
                due.is("as told", x.roofIs(i, what), taken[i][what]);
            }
        }
        due.is("a refused one takes no number", x.roof(100, 0, 0), -1);
        due.is("the next", x.roof(0, 0, 0), taken.length);
        due.promise(3);
        due.is("GRIP 0", x.apprentice(0), 0);
        due.is("GRIP 9", x.apprentice(9), 1);
        due.is("a refused one takes no number", x.apprentice(10), -1);
        due.is("the next", x.apprentice(1), 2);
        due.is("0", x.apprenticeIs(0, 1), 0);
        due.is("9", x.apprenticeIs(1, 1), 9);
        due.is("1", x.apprenticeIs(2, 1), 1);
        due.promise(4);
        due.is("TRADE 0", x.master(0, true), 0);
        due.is("TRADE 4", x.master(4, false), 1);
        due.is("a refused one takes no number", x.master(5, false), -1);
        due.is("the next", x.master(1, true), 2);
        due.is("0", x.masterIs(0, 1), 0);
        due.is("4", x.masterIs(1, 1), 4);
        due.is("with", x.masterIs(0, 2), 1);
        due.is("without", x.masterIs(1, 2), 0);
    }

    private static void placed() {
        SlateSchool x = full();
        due.promise(5);
        due.is("the last on the last", x.on(7, 9), true);
        due.is("there", x.apprenticeIs(7, 0), 9);
        due.is("the last on the first", x.on(7, 0), true);
        due.is("there", x.roofIs(0, 3), 128);
        due.is("there it is already", x.on(7, 0), true);
        due.is("on none", x.on(7, -1), true);
        due.is("none", x.apprenticeIs(7, 0), 10);
        due.is("on none already", x.on(7, -1), true);
        due.promise(6);
        due.is("the last below the last", x.below(7, 9), true);
        due.is("there", x.masterIs(7, 0), 9);
        due.is("the last below the first", x.below(7, 0), true);
        due.is("there", x.roofIs(0, 4), 128);
        due.is("there it is already", x.below(7, 0), true);
        due.is("below none", x.below(7, -1), true);
        due.is("none", x.masterIs(7, 0), 10);
        due.is("below none already", x.below(7, -1), true);
    }

    private static void geared() {
        due.promise(7);
        SlateSchool x = full();
        due.is("a rope for the first", x.gear(0, 0, true), true);
        due.is("a rope for the last", x.gear(0, 7, true), true);
        due.is("it has", x.apprenticeIs(7, 2), 1);
        due.is("it is so", x.gear(0, 7, true), false);
        due.is("no rope for the last", x.gear(0, 7, false), true);
        due.is("it has none", x.apprenticeIs(7, 2), 0);
        due.is("it is so", x.gear(0, 7, false), false);
        due.is("the umbrella off", x.gear(1, 3, false), true);
        due.is("an umbrella for the last", x.gear(1, 7, true), true);
        due.is("it has", x.masterIs(7, 2), 1);
        due.is("it has none", x.masterIs(3, 2), 0);
    }

    private static void snowed() {
        due.promise(8);
        SlateSchool x = new SlateSchool();
        due.is("HOUR 0", x.snow(0, true), true);
        due.is("HOUR 99", x.snow(99, true), true);
        due.is("HOUR 1 has none", x.count(101), 0);
        due.is("HOUR 98 has none", x.count(198), 0);
        x.hours(40);
        due.is("an HOUR that has passed", x.snow(5, true), true);
        due.is("told", x.count(105), 1);
        due.is("and back", x.snow(5, false), true);
        due.is("told", x.count(105), 0);
    }

    private static void fed() {
        due.promise(9);
        SlateSchool x = new SlateSchool();
        for (int i = 1; i <= 10; i++) {
            x.feed(0, 0, 0, 0, 0);
        }
        due.is("220 at most", x.feed(0, 0, 0, 0, 0), 220);
        due.is("no 240", x.feed(0, 0, 0, 0, 0), -1);
        due.is("220", x.count(4), 220);
        x.check(0);
        due.is("empty again", x.feed(0, 0, 0, 0, 0), 20);
        SlateSchool y = one("m1(1=1)", 99, 0);
        // the texts m2(1=1);f981(1=1 and m2(1=1);f98(1=1), each with 255 behind it
        y.feed(0x6d322831, 0x3d31293b, 0x66393831, 0x28313d31, -1);
        due.is("the highest byte first, five ints one behind the other", y.law(17), -1016);
        y.feed(0x6d322831, 0x3d31293b, 0x66393828, 0x313d3129, -1);
        due.is("two CLAUSES", y.law(16), 2);
    }

    private static void lawTaken() {
        due.promise(10);
        SlateSchool x = one("m1(1=1)", 99, 0);
        due.is("the least that can be a LAW", Due.law(x, "mt(t=t)"), 1);
        Due.feed(x, "m1(1=1);m2(1=1);m3(1=1)");
        due.is("the first n bytes alone", x.law(7), 1);
        due.is("empty then", x.count(4), 0);
        due.is("not the rest behind it", x.law(1), -1);
        due.is("one byte", Due.law(x, "m"), -1001);
        due.is("in place of the one before", Due.law(x, "f1(1=1);f2(1=1)"), 2);
        x.hour(0);
        due.is("the one before is gone", x.roofIs(0, 1), 0);
        due.is("all of a tape of 20", Due.law(x, "m1(1=1);m2(1=1&1=1)*"), -1019);
        Due.feed(x, "m1(1=1);m2(111=111&1");
        due.is("n as many as it has: the end", x.law(20), -1020);
    }

    private static void hoursTaken() {
        due.promise(11);
        SlateSchool x = one("fw(1=1)", 99, 99);
        due.is("1: wind 2", x.hours(1), 2);
        due.is("THE HOUR", x.count(5), 1);
        SlateSchool y = one("f1(1=1)", 99, 99);
        due.is("40", y.hours(40), 40);
        due.is("THE HOUR", y.count(5), 40);
        due.is("SLATES", y.roofIs(0, 1), 59);
        SlateSchool z = one("f1(1=1)", 99, 5);
        due.is("no more than there are", z.hours(40), 5);
        SlateSchool none = new SlateSchool();
        due.is("nobody", none.hours(40), 0);
        due.is("THE HOUR all the same", none.count(5), 40);
    }

    private static void hourTaken() {
        due.promise(12);
        SlateSchool x = one("f1(w=0);f2(w=9)", 99, 99);
        due.is("WIND 0", x.hour(0), 1);
        due.is("WIND 9", x.hour(9), 2);
        due.is("X stays", x.count(6), 1);
        SlateSchool all = new SlateSchool();
        Due.law(all, "m9(1=1);f9(1=1)");
        all.roof(99, 99, 0);
        for (int a = 0; a < 8; a++) {
            all.apprentice(0);
            all.on(a, 0);
        }
        due.is("nine of each of eight", all.hour(0), 72);
        due.is("27 are left", all.roofIs(0, 1), 27);
        due.is("laid, then fallen again", all.hour(0), 72);
        due.is("ROOM of 99: 27 and 72", all.roofIs(0, 1), 27);
    }

    private static void lookedAt() {
        SlateSchool x = full();
        due.promise(13);
        due.is("ROOM of the last", x.roofIs(9, 0), 90);
        due.is("SLATES of the last", x.roofIs(9, 1), 69);
        due.is("STEEP of the last", x.roofIs(9, 2), 0);
        due.is("APPRENTICES on the last: the first", x.roofIs(9, 3), 1);
        due.is("MASTERS below it: the first", x.roofIs(9, 4), 1);
        due.is("on 2: the last", x.roofIs(2, 3), 128);
        due.is("on none of them", x.roofIs(0, 3), 0);
        for (int a = 0; a < 8; a++) {
            x.on(a, 0);
            x.below(a, 0);
        }
        due.is("all eight", x.roofIs(0, 3), 255);
        due.is("all eight", x.roofIs(0, 4), 255);
        due.promise(14);
        due.is("what 0", x.apprenticeIs(7, 0), 0);
        due.is("what 4", x.apprenticeIs(7, 4), 0);
        due.is("what 5", x.apprenticeIs(7, 5), -1);
        due.is("what 9", x.apprenticeIs(7, 9), -1);
        due.is("what 10", x.apprenticeIs(7, 10), 0);
        due.is("what 14", x.apprenticeIs(7, 14), 0);
        due.is("what 15", x.apprenticeIs(7, 15), -1);
        due.promise(15);
        due.is("what 0", x.masterIs(7, 0), 0);
        due.is("what 4", x.masterIs(7, 4), 0);
        due.is("what 5", x.masterIs(7, 5), -1);
    }

    /** By a LAW of all letters and all places: what is TRIED is what comes when the HOURS pass. */
    private static void triedAsPassed() {
        due.promise(16);
        int[] lengths = {1, 4, 40};
        for (int n : lengths) {
            SlateSchool x = full();
            x.hours(2);
            int[] what = {0, 1, 2, 3, 10, 11, 18, 19, 20, 21, 26, 27};
            int[] then = new int[what.length];
            for (int i = 0; i < what.length; i++) {
                then[i] = x.tried(n, what[i]);
            }
            int fallen = x.hours(n);
            int[] is = {x.count(9), fallen, x.count(8), x.count(7), x.roofIs(0, 1), x.roofIs(1, 1), x.roofIs(8, 1),
                x.roofIs(9, 1), x.masterIs(0, 4), x.masterIs(1, 4), x.masterIs(6, 4), x.masterIs(7, 4)};
            for (int i = 0; i < what.length; i++) {
                due.is(n + " HOURS, what " + what[i], then[i], is[i]);
            }
        }
    }

    private static void triedEnds() {
        due.promise(16);
        SlateSchool x = withMasters("f1(1=1)", 99, 99, 1);
        due.is("1", x.tried(1, 1), 1);
        due.is("40", x.tried(40, 1), 40);
        due.is("40", x.tried(40, 20), 40);
        due.is("40", x.tried(40, 10), 59);
        due.is("41", x.tried(41, 1), -1);
        due.is("0", x.tried(0, 1), -1);
        x.snow(39, true);
        due.is("SNOW in the last", x.tried(40, 1), 39);
        due.is("SNOW behind it", x.tried(39, 1), 39);
    }

    private static void setWithin() {
        due.promise(17);
        SlateSchool x = one("m1(1=1)", 20, 0);
        due.is("20 HOURS", x.set(1, 0, 20, 10), 20);
        due.is("not within 19", x.set(1, 0, 19, 10), -2);
        due.is("no 21", x.set(1, 0, 21, 10), -1);
        SlateSchool y = one("m1(1=1)", 21, 0);
        due.is("not within 20", y.set(1, 0, 20, 10), -2);
        due.is("not within 20: it is not so", y.set(1, 0, 20, 12), -2);
        SlateSchool z = one("m1(1=1)", 20, 19);
        due.is("1 HOUR", z.set(1, 0, 1, 10), 1);
        due.is("no 0", z.set(1, 0, 0, 10), -1);
        z.snow(0, true);
        due.is("not within 1", z.set(1, 0, 1, 10), -2);
        due.is("within 2", z.set(1, 0, 2, 10), 2);
        SlateSchool never = one("m1(1=1);f1(1=1)", 5, 4);
        due.is("full behind an HOUR, not in it", never.set(1, 0, 20, 10), -2);
        SlateSchool full = one("f1(1=1)", 20, 20);
        due.is("0: it is", full.set(1, 0, 1, 10), 0);
        SlateSchool none = one("f1(1=1)", 0, 0);
        due.is("a ROOM of 0 is full", none.set(1, 0, 1, 10), 0);
    }

    private static void setTold() {
        due.promise(17);
        SlateSchool x = new SlateSchool();
        Due.law(x, "m1(1=1)");
        x.roof(6, 0, 0);
        for (int a = 0; a < 8; a++) {
            x.apprentice(0);
        }
        due.is("one", x.set(128, 0, 20, 10), 6);
        due.is("two", x.set(129, 0, 20, 10), 3);
        due.is("three", x.set(224, 0, 20, 10), 2);
        due.is("four", x.set(240, 0, 20, 10), -1);
        due.is("none", x.set(0, 0, 20, 10), -1);
        due.is("a ninth", x.set(256, 0, 20, 10), -1);
        due.is("the last one", x.set(128, 0, 20, 7), 0);
        due.is("the last but one is not told", x.set(128, 0, 20, 6), -1);
        due.is("12, and it is so", x.set(224, 0, 20, 12), 2);
        due.is("5, 6, 7 are there", x.roofIs(0, 3), 224);
        due.is("with these there", x.set(1, 0, 20, 10), 2);
        SlateSchool y = one("m1(a=1);f1(a=0)", 5, 4);
        y.apprentice(0);
        due.is("each is on one: 0 hurts, and there is no other", y.set(3, 0, 20, 10), -2);
        y.on(0, -1);
        due.is("not told, it is on none", y.set(2, 0, 20, 10), 1);
    }

    private static void setLike() {
        due.promise(17);
        // as soon by either one; 0 lets fall on ROOF 0, above the MASTER
        SlateSchool x = withMasters("m1(a=1);f1(a=0&q=0)", 99, 99, 1);
        x.roof(3, 0, 0);
        x.roof(9, 9, 0);
        x.apprentice(0);
        x.apprentice(0);
        due.is("three HOURS by 1", x.set(3, 1, 20, 10), 3);
        due.is("of like ones fewest BRUISES", x.set(3, 1, 20, 11), 0);
        due.is("0 off ROOF 0: the least row", x.set(3, 1, 20, 0), 1);
        due.is("1", x.set(3, 1, 20, 1), 1);
        due.is("a third one on the least ROOF", x.set(7, 1, 20, 2), 0);
        due.is("not told, it strikes", x.set(2, 1, 20, 11), 3);
        x.hour(0);
        due.is("BRUISES of all then, those from before, too", x.set(3, 1, 20, 11), 1);
    }

    private static void setSooner() {
        due.promise(17);
        // by 1 alone in five HOURS without a BRUISE; by 0 in two, but at the first wind, 2, one falls on the MASTER
        SlateSchool x = one("m3(a=0&q=1);m1(a=1&q=1);f1(a=0&q=1&w=2)", 99, 50);
        x.roof(5, 0, 0);
        x.apprentice(0);
        x.master(0, false);
        x.below(0, 1);
        due.is("soonest, ahead of fewest BRUISES", x.set(3, 1, 20, 10), 2);
        due.is("BRUISES", x.set(3, 1, 20, 11), 1);
        due.is("0", x.set(3, 1, 20, 0), 1);
        due.is("1, the least row", x.set(3, 1, 20, 1), 0);
        x.on(0, 1);
        due.is("1 told, all else as it is: 0 is on it", x.set(2, 1, 20, 11), 1);
        x.on(0, -1);
        due.is("by 1 alone", x.set(2, 1, 20, 11), 0);
        due.is("by 1 alone", x.set(2, 1, 20, 10), 5);
    }

    private static void setDomes() {
        due.promise(17);
        SlateSchool x = full();
        due.is("the last ROOF is a DOME", x.set(1, 9, 20, 10) != -1, true);
        due.is("no ROOF 10", x.set(1, 10, 20, 10), -1);
        SlateSchool y = new SlateSchool();
        Due.law(y, "m1(q=9)");
        for (int q = 0; q < 10; q++) {
            y.roof(4, 0, 0);
        }
        y.apprentice(0);
        y.apprentice(0);
        y.apprentice(0);
        due.is("by one in four", y.set(1, 9, 20, 10), 4);
        due.is("on the last ROOF", y.set(1, 9, 20, 0), 9);
        due.is("by three in two", y.set(7, 9, 20, 10), 2);
        due.is("the least row: two do", y.set(7, 9, 20, 0), 0);
        due.is("the second", y.set(7, 9, 20, 1), 9);
        due.is("the third", y.set(7, 9, 20, 2), 9);
    }

    private static void freeEnds() {
        due.promise(18);
        // the winds: 2 7 6 5 2 9 6 7
        SlateSchool x = withMasters("fw(1=1)", 99, 99, 1);
        due.is("of 1 none", x.free(1, 0, 1), 2);
        due.is("of 1 one", x.free(1, 1, 0), 1);
        due.is("of 1 one", x.free(1, 1, 1), 0);
        due.is("of 1 two", x.free(1, 2, 0), -2);
        due.is("of 8 one: the wind 9", x.free(8, 1, 0), 32);
        due.is("of 8 two: 9 and the first 7", x.free(8, 2, 0), 34);
        due.is("of 8 seven: not the first 2", x.free(8, 7, 0), 239);
        due.is("of 8 seven", x.free(8, 7, 1), 2);
        due.is("of 8 eight", x.free(8, 8, 0), 255);
        due.is("of 8 eight: SLATES", x.free(8, 8, 2), 99);
        due.is("of 9", x.free(9, 1, 0), -1);
        due.is("nine", x.free(8, 9, 0), -1);
        x.snow(7, true);
        due.is("of 8 eight, when one is", x.free(8, 8, 0), -2);
        due.is("of 8 seven, when one is", x.free(8, 7, 0), 127);
        for (int h = 0; h < 7; h++) {
            x.snow(h, true);
        }
        due.is("when all are: none more", x.free(8, 0, 0), 0);
        due.is("when all are: one more", x.free(8, 1, 0), -2);
    }

    private static void freeToHour99() {
        due.promise(18);
        SlateSchool x = withMasters("f0(1=1)", 99, 99, 1);
        x.hours(40);
        x.hours(40);
        x.hours(18);
        due.is("THE HOUR", x.count(5), 98);
        Due.law(x, "f1(1=1)");
        due.is("98 and 99", x.free(8, 2, 0), 3);
        due.is("98 and 99", x.free(8, 2, 1), 6);
        due.is("no 100", x.free(8, 3, 0), -2);
        due.is("98 or 99: the least set", x.free(2, 1, 0), 1);
        x.hour(0);
        due.is("99", x.free(1, 1, 0), 1);
        due.is("no 100", x.free(2, 2, 0), -2);
        x.hour(0);
        due.is("none from 100 on", x.free(1, 1, 0), -2);
        due.is("none are none", x.free(8, 0, 0), 0);
        due.is("HOUR 0 is not meant", x.count(100), 0);
    }

    private static void freeLike() {
        due.promise(18);
        // winds 2 7 6 5: in each HOUR one falls, in those of 6 and 7 some are laid
        SlateSchool x = withMasters("m2(w=7);m3(w=6);f1(1=1)", 99, 50, 1);
        due.is("of like BRUISES most SLATES, of like ones the least set", x.free(4, 1, 0), 1);
        due.is("BRUISES", x.free(4, 1, 1), 3);
        due.is("SLATES", x.free(4, 1, 2), 50 + 2 + 3 - 3);
        due.is("the last two of four alike", x.free(4, 2, 0), 9);
        due.is("three: not that of 6", x.free(4, 3, 0), 11);
        due.is("three: SLATES", x.free(4, 3, 2), 52);
    }

    private static void worthEnds() {
        due.promise(19);
        SlateSchool x = withMasters("f2(1=1)", 99, 99, 1);
        due.is("an umbrella, 1", x.worth(1, 0, 1), 2);
        due.is("an umbrella, 40", x.worth(1, 0, 40), 80);
        due.is("a rope, 1", x.worth(0, 0, 1), 1);
        due.is("a rope, 40", x.worth(0, 0, 40), 40);
        due.is("no 0", x.worth(1, 0, 0), -10000);
        due.is("no 41", x.worth(1, 0, 41), -10000);
        SlateSchool all = full();
        due.is("the last MASTER", all.worth(1, 7, 40) != -10000, true);
        due.is("the last APPRENTICE", all.worth(0, 7, 40) != -10000, true);
        due.is("the one with an umbrella", all.worth(1, 3, 40), -10000);
        due.is("the one with a rope", all.worth(0, 6, 40), -10000);
        SlateSchool less = withMasters("f1(o=0);f5(o=1)", 99, 99, 1);
        due.is("worth below 0: 1 less 4", less.worth(0, 0, 1), -3);
    }

    private static void lentEnds() {
        due.promise(20);
        SlateSchool x = yard("f9(1=1);m9(1=1)", 1, 1);
        x.on(0, 0);
        x.below(0, 0);
        for (int i = 0; i < 10; i++) {
            x.hour(0);
        }
        Due.law(x, "f8(1=1);m9(1=1)");
        x.hour(0);
        due.is("98 times", x.owes(0, 0, 1), 98);
        due.is("at least 98", x.lent(98, 10), 1);
        due.is("at least 99", x.lent(99, 10), 0);
        due.is("at least 99", x.lent(99, 0), 8);
        due.is("at least 99: it is not so", x.lent(99, 11), 0);
        due.is("no rope", x.apprenticeIs(0, 2), 0);
        x.below(0, -1);
        x.hour(0);
        due.is("a broken one does not count", x.lent(99, 10), 0);
        x.below(0, 0);
        Due.law(x, "f1(1=1)");
        x.hour(0);
        due.is("99 times", x.lent(99, 0), 0);
        due.is("no 100", x.lent(100, 0), -1);
        due.is("at least 1", x.lent(1, 11), 1);
        due.is("a rope", x.apprenticeIs(0, 2), 1);
        due.is("not with one", x.lent(1, 10), 0);
        SlateSchool none = new SlateSchool();
        due.is("no MASTERS", none.lent(1, 10), 0);
        due.is("no MASTERS", none.lent(1, 11), 0);
        none.master(0, false);
        due.is("without a BRUISE", none.lent(1, 0), 8);
    }

    private static void lentLike() {
        due.promise(20);
        SlateSchool x = yard("m9(1=1);f1(1=1)", 8, 8);
        int[][] twos = {{2, 0}, {5, 0}, {2, 1}, {5, 1}, {7, 2}, {6, 2}, {6, 7}};
        for (int[] t : twos) {
            strike(x, t[0], t[1]);
        }
        due.is("most", x.lent(1, 10), 4);
        int[] row = {2, 5, 7, 8, 8, 8, 8, 6};
        for (int b = 0; b < 8; b++) {
            due.is("the least row that lends most, MASTER " + b, x.lent(1, b), row[b]);
        }
        strike(x, 4, 7);
        due.is("then the third one's is 6", x.lent(1, 2), 6);
        due.is("and the last one's is 4", x.lent(1, 7), 4);
        strike(x, 2, 3);
        due.is("as many", x.lent(1, 10), 4);
        due.is("nobody behind all", x.lent(1, 3), 8);
        due.is("the first", x.lent(1, 0), 2);
        due.is("it is so", x.lent(1, 11), 4);
        int[] ropes = {0, 0, 1, 0, 1, 1, 1, 0};
        for (int a = 0; a < 8; a++) {
            due.is("rope of " + a, x.apprenticeIs(a, 2), ropes[a]);
        }
    }

    private static void lentAgain() {
        due.promise(20);
        SlateSchool x = yard("m9(1=1);f1(1=1)", 2, 1);
        strike(x, 0, 0);
        strike(x, 1, 0);
        due.is("to the first one", x.lent(1, 0), 0);
        due.is("one ROPE", x.lent(1, 11), 1);
        due.is("a MASTER with a BRUISE has one, whatever it lent before", x.lent(1, 10), 1);
        due.is("to the other one", x.lent(1, 0), 1);
        due.is("it is so", x.lent(1, 11), 1);
        due.is("both have one", x.apprenticeIs(0, 2) + x.apprenticeIs(1, 2), 2);
        x.gear(0, 0, false);
        due.is("taken from it, it is one without", x.lent(1, 0), 0);
    }

    private static void letGoEnds() {
        due.promise(21);
        SlateSchool x = new SlateSchool();
        Due.law(x, "fg(q=9);f1(q=5)");
        for (int q = 0; q < 10; q++) {
            x.roof(99, 99, 0);
        }
        x.apprentice(0);
        x.master(0, false);
        x.below(0, 9);
        for (int grip = 1; grip <= 9; grip++) {
            Due.feedBytes(x, grip);
            due.is("GRIP " + grip, x.letGo(0, 1, 0), grip);
            Due.feedBytes(x, grip);
            due.is("ROOF 9", x.letGo(0, 1, 1), 9);
            Due.feedBytes(x, grip);
            due.is("alone", x.letGo(0, 1, -1), 1);
        }
        Due.feedBytes(x, 10);
        due.is("no GRIP 10", x.letGo(0, 1, -1), 0);
        Due.feedBytes(x, 54);
        due.is("six HOURS", x.letGo(0, 6, 0), 9);
        Due.feedBytes(x, 0);
        due.is("ten ROOFS and none by ten GRIPS, but nine", x.letGo(0, 6, -1), 110 - 9);
        x.below(0, 5);
        Due.feedBytes(x, 1);
        due.is("on 5 by any GRIP", x.letGo(0, 1, -1), 10);
        Due.feedBytes(x, 1);
        due.is("the first GRIP", x.letGo(0, 1, 0), 0);
        Due.feedBytes(x, 1);
        due.is("the ROOF", x.letGo(0, 1, 1), 5);
        SlateSchool none = new SlateSchool();
        none.apprentice(5);
        none.master(0, false);
        Due.feedBytes(none, 0);
        due.is("no ROOFS: on none by ten GRIPS", none.letGo(0, 1, -1), 10);
        Due.feedBytes(none, 0);
        due.is("on none: 10", none.letGo(0, 1, 1), 10);
        SlateSchool few = yard("f1(g=4&q=0)", 1, 1);
        few.below(0, 0);
        Due.feedBytes(few, 1);
        due.is("GRIP ahead of ROOF", few.letGo(0, 1, 0), 4);
    }

    private static void letGoBytes() {
        due.promise(21);
        // eight let fall eight each: 64 in an HOUR, 256 in four
        SlateSchool x = yard("m9(1=1);f8(a>0);f8(q=0)", 8, 1);
        x.below(0, 0);
        for (int a = 0; a < 8; a++) {
            x.on(a, 0);
        }
        Due.feedBytes(x, 0);
        due.is("256 is no 0", x.letGo(0, 4, -1), 0);
        Due.feedBytes(x, 192);
        due.is("a byte above 127", x.letGo(0, 3, -1), 10);
        Due.feedBytes(x, 224);
        due.is("224 by the seven others", x.letGo(0, 4, 1), 10);
        SlateSchool last = yard("f3(1=1)", 1, 8);
        last.below(7, 0);
        Due.feedBytes(last, 0, 0, 0, 0, 0, 0, 0, 3);
        due.is("eight MASTERS, the last one's byte", last.letGo(0, 1, -1), 10);
        Due.feedBytes(last, 0, 0, 0, 0, 0, 0, 0, 2);
        due.is("the last one's byte", last.letGo(0, 1, -1), 0);
        Due.feedBytes(last, 1, 0, 0, 0, 0, 0, 0, 3);
        due.is("the first one's byte", last.letGo(0, 1, -1), 0);
        Due.feedBytes(last, 0, 0, 0, 0, 0, 0, 0, 0, 9);
        due.is("what is behind them does not count", last.letGo(0, 1, 0), 0);
        due.is("empty then", last.count(4), 0);
        last.on(0, 0);
        last.hour(0);
        Due.feedBytes(last, 0, 0, 0, 0, 0, 0, 0, 3);
        due.is("BRUISES more, not all", last.letGo(0, 1, -1), 10);
    }

    private static void settledEnds() {
        due.promise(22);
        SlateSchool x = yard("m9(1=1);f1(1=1);d7(a=0);d1+a(1=1)", 8, 8);
        due.is("no POSITIONS", x.settled(0), 0);
        due.is("no sets", x.settled(1), 0);
        strike(x, 0, 0);
        due.is("two", x.settled(0), 1);
        strike(x, 1, 0);
        strike(x, 2, 0);
        strike(x, 3, 0);
        strike(x, 4, 0);
        due.is("six: all to one", x.settled(0), 5);
        due.is("one set", x.settled(1), 1);
        strike(x, 5, 0);
        due.is("seven", x.settled(0), 6);
        x.keep();
        strike(x, 6, 0);
        due.is("eight", x.settled(0), -2);
        due.is("eight", x.settled(1), -2);
        x.undo();
        strike(x, 0, 1);
        due.is("eight", x.settled(0), -2);
        x.undo();
        Due.law(x, "m9(1=1);f1(1=1)");
        strike(x, 7, 7);
        due.is("nothing owed is no POSITION", x.settled(0), 6);
    }

    private static void settledSets() {
        due.promise(22);
        // 3 2 2 owed, 3 4 to be had: {3, 3} {2 2, 4}
        SlateSchool x = yard("m9(1=1);f1(1=1);d3(a=0);d2(1=1)", 3, 2);
        strike(x, 0, 0);
        strike(x, 1, 1);
        strike(x, 2, 1);
        due.is("five POSITIONS, two sets", x.settled(0), 3);
        due.is("two sets", x.settled(1), 2);
        // 3 owed across: 0 to 1, the others to 0 and 1: 3 2 2 and 2 5, or 3 2 2 and 4 3 as above
        SlateSchool y = yard("m9(1=1);f1(1=1);d3(a=0);d2(1=1)", 3, 2);
        strike(y, 0, 1);
        strike(y, 1, 0);
        strike(y, 2, 1);
        due.is("{2, 2} {3 2, 5}", y.settled(0), 3);
        due.is("two sets", y.settled(1), 2);
        // seven: 1 2 3 owed, 1 1 2 2 to be had
        SlateSchool z = yard("m9(1=1);f1(1=1);d1(1=1)", 3, 4);
        int[][] twos = {{0, 0}, {1, 1}, {1, 2}, {2, 2}, {2, 3}, {2, 3}};
        for (int[] t : twos) {
            strike(z, t[0], t[1]);
        }
        due.is("{1, 1} {2, 2} {3, 1 2}", z.settled(1), 3);
        due.is("seven less three", z.settled(0), 4);
    }

    private static void struckBits() {
        SlateSchool x = yard("m9(1=1);f1(1=1);d9(1=1)", 8, 8);
        due.promise(24);
        due.is("none", x.teachers(7), 0);
        for (int b = 0; b < 8; b++) {
            strike(x, 7, b);
        }
        due.is("all eight", x.teachers(7), 255);
        due.is("none", x.teachers(0), 0);
        due.promise(23);
        due.is("the last two", x.owes(7, 7, 0), 9);
        due.is("once", x.owes(7, 7, 1), 1);
        due.is("the first two", x.owes(0, 0, 1), 0);
        due.is("the one after", x.owes(8, 7, 0), -1);
        due.is("the one after", x.owes(7, 8, 0), -1);
        due.promise(14);
        due.is("what it owes to all", x.apprenticeIs(7, 3), 72);
        due.promise(15);
        due.is("what is owed to it", x.masterIs(7, 3), 9);
    }

    private static void chainEnds() {
        due.promise(25);
        SlateSchool x = yard("m9(1=1);f1(1=1)", 8, 8);
        due.is("b is c, never struck", x.chain(7, 7, -1), 0);
        due.is("b is c: no place 0", x.chain(7, 7, 0), -3);
        due.is("none", x.chain(0, 7, -1), -2);
        for (int a = 0; a < 7; a++) {
            strike(x, a, a);
            if (a < 6) {
                strike(x, a, a + 1);
            }
        }
        due.is("seven MASTERS in a row", x.chain(0, 6, -1), 6);
        due.is("not yet the eighth", x.chain(0, 7, -1), -2);
        due.is("not yet the eighth, place 7", x.chain(0, 7, 7), -2);
        strike(x, 6, 7);
        due.is("all eight", x.chain(0, 7, -1), 7);
        due.is("place 0", x.chain(0, 7, 0), 0);
        due.is("place 6", x.chain(0, 7, 6), 6);
        due.is("no place 7", x.chain(0, 7, 7), -3);
        due.is("no what 8", x.chain(0, 7, 8), -3);
        due.is("back, place 0", x.chain(7, 0, 0), 6);
        due.is("b is c, struck", x.chain(3, 3, -1), 0);
        due.is("the next one", x.chain(3, 4, -1), 1);
        due.is("the next one", x.chain(3, 4, 0), 3);
    }

    private static void chainLike() {
        due.promise(25);
        // 0 to 3 by 1 (APPRENTICES 5, 1) or by 2 (APPRENTICES 3, 4), later (5 or 6, 0)
        SlateSchool x = yard("m9(1=1);f1(1=1)", 8, 5);
        int[][] twos = {{5, 0}, {5, 1}, {1, 1}, {1, 3}, {3, 0}, {3, 2}, {4, 2}, {4, 3}};
        for (int[] t : twos) {
            strike(x, t[0], t[1]);
        }
        due.is("two", x.chain(0, 3, -1), 2);
        due.is("of like ones the least row", x.chain(0, 3, 0), 3);
        due.is("of like ones the least row", x.chain(0, 3, 1), 4);
        strike(x, 3, 1);
        due.is("3 struck 1, too: then 1 is less than 4", x.chain(0, 3, 1), 1);
        due.is("back: the least first", x.chain(3, 0, 0), 1);
        due.is("back: then the least", x.chain(3, 0, 1), 3);
        strike(x, 7, 0);
        strike(x, 7, 3);
        due.is("fewest ahead of the least row", x.chain(0, 3, 0), 7);
        due.is("one", x.chain(0, 3, -1), 1);
        due.is("4 was never struck", x.chain(0, 4, -1), -2);
    }

    private static void oddsEnds() {
        due.promise(26);
        SlateSchool x = withMasters("f9(w=9)", 99, 99, 1);
        due.is("1 HOUR: 1 of 10", x.odds(0, 1, 9, 0), 1);
        due.is("1 HOUR: 1 of 10", x.odds(0, 1, 9, 1), 10);
        due.is("2 HOURS: 19 of 100", x.odds(0, 2, 9, 0), 19);
        due.is("2 HOURS: 19 of 100", x.odds(0, 2, 9, 1), 100);
        due.is("3 HOURS: 271 of 1000", x.odds(0, 3, 9, 0), 271);
        due.is("3 HOURS: 271 of 1000", x.odds(0, 3, 9, 1), 1000);
        due.is("all three: 1 of 1000", x.odds(0, 3, 27, 0), 1);
        due.is("all three: 1 of 1000", x.odds(0, 3, 27, 1), 1000);
        due.is("one more: 0 of 1", x.odds(0, 3, 28, 0), 0);
        due.is("one more: 0 of 1", x.odds(0, 3, 28, 1), 1);
        due.is("0 BRUISES: 1 of 1", x.odds(0, 3, 0, 0), 1);
        due.is("0 BRUISES: 1 of 1", x.odds(0, 3, 0, 1), 1);
        due.is("at least 1: as 9", x.odds(0, 1, 1, 1), 10);
        due.is("the next HOURS, not those with the winds that will come", x.count(6), 1);
        SlateSchool last = full();
        due.is("the last MASTER", last.odds(7, 1, 0, 0), 1);
        due.is("no eighth", last.odds(8, 1, 0, 0), -1);
    }

    private static void oddsWholly() {
        due.promise(26);
        SlateSchool x = withMasters("m9(1=1);f9(1=1)", 99, 99, 1);
        x.hours(40);
        x.hours(40);
        x.hours(30);
        due.is("BRUISES", x.masterIs(0, 4), 990);
        due.is("999 in one HOUR", x.odds(0, 1, 999, 0), 1);
        due.is("999 in one HOUR", x.odds(0, 1, 999, 1), 1);
        due.is("no 1000", x.odds(0, 2, 1000, 0), -1);
        Due.law(x, "m9(1=1);f8(1=1)");
        due.is("998 is not enough", x.odds(0, 1, 999, 0), 0);
        due.is("998 is not enough", x.odds(0, 1, 999, 1), 1);
        Due.law(x, "m9(1=1);f9(w%2=0)");
        due.is("one half", x.odds(0, 1, 999, 0), 1);
        due.is("one half", x.odds(0, 1, 999, 1), 2);
        SlateSchool letters = full();
        letters.hours(2);
        letters.snow(2, true);
        int before = letters.masterIs(0, 4);
        due.is("SNOW: no more", letters.odds(0, 1, before + 1, 0), 0);
        due.is("SNOW: those it has", letters.odds(0, 1, before, 0), 1);
    }

    private static void seedEnds() {
        due.promise(27);
        SlateSchool x = new SlateSchool();
        due.is("0", x.seed(0), true);
        due.is("X, too", x.count(6), 0);
        due.is("0 again", x.seed(0), true);
        due.is("65535", x.seed(65535), true);
        due.is("X, too", x.count(6), 65535);
        due.is("65536", x.seed(65536), false);
        due.is("-1", x.seed(-1), false);
        due.is("X stays", x.count(6), 65535);
    }

    /** With all ten and eight and eight: what is undone is as it was, to the last of each. */
    private static void keptAll() {
        due.promise(28);
        due.is("no ROOFS", new SlateSchool().keep(), 0);
        SlateSchool x = full();
        SlateSchool twin = full();
        for (int i = 0; i < 20; i++) {
            x.feed(0, 0, 0, 0, 0);
            twin.feed(0, 0, 0, 0, 0);
        }
        x.hours(4);
        twin.hours(4);
        due.is("SLATES on all ROOFS", x.keep(), twin.count(9));
        x.hours(40);
        x.check(0);
        for (int i = 0; i < 8; i++) {
            x.on(i, 0);
            x.below(i, 0);
            x.gear(0, i, i != 6);
            x.gear(1, i, i != 3);
        }
        x.hours(3);
        x.seed(77);
        due.promise(29);
        due.is("undone", x.undo(), true);
        due.is("the tape", x.count(4), 220);
        for (int what = 0; what <= 9; what++) {
            due.is("count " + what, x.count(what), twin.count(what));
        }
        due.is("they go on alike", x.hours(9), twin.hours(9));
        for (int q = 0; q < 10; q++) {
            due.is("SLATES", x.roofIs(q, 1), twin.roofIs(q, 1));
        }
        for (int i = 0; i < 8; i++) {
            for (int k = 0; k < 5; k++) {
                due.is("SKILL", x.apprenticeIs(i, 10 + k), twin.apprenticeIs(i, 10 + k));
            }
            for (int b = 0; b < 8; b++) {
                due.is("owed", x.owes(i, b, 0), twin.owes(i, b, 0));
                due.is("struck", x.owes(i, b, 1), twin.owes(i, b, 1));
            }
            due.is("let fall", x.apprenticeIs(i, 4), twin.apprenticeIs(i, 4));
            due.is("BRUISES", x.masterIs(i, 4), twin.masterIs(i, 4));
        }
    }

    private static void checkEnds() {
        due.promise(30);
        SlateSchool x = new SlateSchool();
        due.is("no ROOFS, no numbers", x.check(0), -1);
        x.feed(0, 0, 0, 0, 0);
        due.is("no ROOFS, one number", x.check(1), 0);
        for (int q = 0; q < 10; q++) {
            x.roof(99, q == 9 ? 99 : q, 0);
        }
        x.feed(0, 1, 2, 3, 4);
        x.feed(5, 6, 7, 8, 99);
        due.is("ten, all right", x.check(10), -1);
        x.feed(0, 1, 2, 3, 4);
        x.feed(5, 6, 7, 8, 98);
        due.is("the last not so", x.check(10), 9);
        x.feed(1, 1, 2, 3, 4);
        due.is("the first not so", x.check(5), 0);
        x.feed(0, 1, 2, 3, 4);
        due.is("five of twenty bytes", x.check(5), -1);
        x.feed(0, 1, 2, 3, 4);
        due.is("six of twenty bytes", x.check(6), -2);
        due.is("the tape stays", x.count(4), 20);
        due.is("it is all there", x.check(5), -1);
        due.is("empty then", x.count(4), 0);
        x.feed(0, 1, 7, 7, 7);
        due.is("two alone are looked at", x.check(2), -1);
        SlateSchool y = new SlateSchool();
        y.roof(9, 4, 0);
        y.roof(9, 5, 0);
        y.feed(4, 5, 0, 0, 0);
        due.is("as many as there are", y.check(2), -1);
        y.feed(4, 5, 0, 0, 0);
        due.is("one above: how many there are", y.check(3), 2);
        y.feed(4, 5, 0, 0, 0);
        due.is("five: how many there are", y.check(5), 2);
        y.feed(4, 6, 0, 0, 0);
        due.is("the first number that is not so", y.check(5), 1);
    }

    private static void checkBytes() {
        due.promise(30);
        SlateSchool x = new SlateSchool();
        x.roof(99, 5, 0);
        int[] beside = {5 | 1 << 8, 5 | 1 << 16, 5 | 1 << 24, 5 | 1 << 31, 5 << 8, 5 << 16, 5 << 24, -5, 4, 6, 0, -1};
        for (int number : beside) {
            x.feed(number, 0, 0, 0, 0);
            due.is("number " + number, x.check(1), 0);
        }
        x.feed(5, 0, 0, 0, 0);
        due.is("four bytes", x.check(1), -1);
    }

    private static void counted() {
        due.promise(31);
        SlateSchool x = full();
        x.feed(0, 0, 0, 0, 0);
        int[] all = {10, 8, 8, 5, 20, 0, 1, 0, 0, 645};
        for (int what = 0; what < all.length; what++) {
            due.is("count " + what, x.count(what), all[what]);
        }
        due.is("10", x.count(10), -1);
        due.is("99", x.count(99), -1);
        due.is("100: HOUR 0", x.count(100), 0);
        due.is("103: HOUR 3", x.count(103), 1);
        x.snow(99, true);
        x.snow(0, true);
        SlateSchool three = withMasters("f4(1=1)", 99, 99, 3);
        three.hour(0);
        due.is("BRUISES of all", three.count(8), 4);
        due.is("BRUISES of all behind two HOURS more", three.tried(2, 2), 12);
        due.is("100: HOUR 0", x.count(100), 1);
        due.is("199: HOUR 99", x.count(199), 1);
        due.is("200", x.count(200), -1);
    }
}
