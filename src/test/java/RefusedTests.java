/**
 * Each refused call of each promise: what it answers, which reason is looked at first, and that it changes nothing but
 * the tape, where it is told; and each call that only looks: that it changes nothing at all.
 */
public final class RefusedTests {
    private static final int MIN = Integer.MIN_VALUE;
    private static final int MAX = Integer.MAX_VALUE;
    private static final Due due = new Due();
    private static final Twins yard = new Twins(due, RefusedTests::yard);
    private static final Twins full = new Twins(due, RefusedTests::full);

    public static void main(String[] args) {
        adding();
        fullOnes();
        on();
        below();
        gear();
        snow();
        feed();
        law();
        lawFaults();
        passing();
        looking();
        tried();
        set();
        setNotWithin();
        free();
        worth();
        lent();
        letGo();
        settled();
        owes();
        chain();
        odds();
        seed();
        undo();
        check();
        onlyLooked();
        undone();
        due.end();
    }

    /**
     * Three ROOFS, three APPRENTICES (the last on none), three MASTERS (the last with an UMBRELLA), three HOURS
     * passed.
     */
    private static void yard(SlateSchool x) {
        Due.law(x, "m2(1=1);f3(a=0&w>2|a=1);l2(1=1);d5+h(1=1)");
        x.roof(60, 30, 3);
        x.roof(40, 40, 8);
        x.roof(9, 5, 0);
        x.apprentice(4);
        x.apprentice(7);
        x.apprentice(0);
        x.master(1, false);
        x.master(3, false);
        x.master(0, true);
        x.on(0, 0);
        x.on(1, 1);
        x.below(0, 0);
        x.below(1, 1);
        x.below(2, 0);
        x.gear(0, 1, true);
        x.snow(4, true);
        x.hours(2);
        x.keep();
        x.hours(1);
        x.seed(4711);
        Due.feed(x, "m5(1=1)");
    }

    private static void full(SlateSchool x) {
        Due.law(x, "m2(1=1);f3(w>2|a=1);l2(1=1);d5+h(1=1)");
        for (int q = 0; q < 10; q++) {
            x.roof(60, 30, q);
        }
        for (int i = 0; i < 8; i++) {
            x.apprentice(i);
            x.master(i % 5, false);
            x.on(i, i);
            x.below(i, i);
        }
        x.keep();
        x.hours(1);
        for (int i = 0; i < 11; i++) {
            Due.feed(x, "m5(1=1)");
        }
    }

    private static void adding() {
        due.promise(2);
        int[][] roofs = {{-1, 0, 0}, {100, 0, 0}, {-1, -1, 0}, {5, 6, 0}, {5, -1, 0}, {0, 1, 0}, {99, 100, 0}, {5, 5,
            -1},
            {5, 5, 10}, {MIN, 0, 0}, {MAX, 0, 0}, {MIN, MIN, 0}, {MAX, MAX, 0}, {5, MIN, 0}, {5, MAX, 0}, {5, 5, MIN},
            {5, 5, MAX}};
        for (int[] r : roofs) {
            yard.nothing("roof " + r[0] + " " + r[1] + " " + r[2], x -> x.roof(r[0], r[1], r[2]), -1);
        }
        due.promise(3);
        int[] grips = {-1, 10, MIN, MAX};
        for (int grip : grips) {
            yard.nothing("apprentice " + grip, x -> x.apprentice(grip), -1);
        }
        due.promise(4);
        int[] trades = {-1, 5, MIN, MAX};
        for (int trade : trades) {
            yard.nothing("master " + trade, x -> x.master(trade, false), -1);
            yard.nothing("master with an umbrella " + trade, x -> x.master(trade, true), -1);
        }
    }

    private static void fullOnes() {
        due.promise(2);
        full.nothing("10 are there", x -> x.roof(5, 5, 5), -1);
        full.nothing("10 are there, and no such one", x -> x.roof(5, 6, 5), -1);
        due.promise(3);
        full.nothing("8 are there", x -> x.apprentice(5), -1);
        full.nothing("8 are there, and no such one", x -> x.apprentice(10), -1);
        due.promise(4);
        full.nothing("8 are there", x -> x.master(4, true), -1);
        full.nothing("8 are there, and no such one", x -> x.master(5, true), -1);
        due.promise(5);
        full.nothing("on: no apprentice 8", x -> truth(x.on(8, 0)), 0);
        full.nothing("on: no roof 10", x -> truth(x.on(0, 10)), 0);
        due.promise(6);
        full.nothing("below: no master 8", x -> truth(x.below(8, 0)), 0);
        full.nothing("below: no roof 10", x -> truth(x.below(0, 10)), 0);
        due.promise(7);
        full.nothing("gear: no apprentice 8", x -> truth(x.gear(0, 8, true)), 0);
        full.nothing("gear: no master 8", x -> truth(x.gear(1, 8, true)), 0);
        due.promise(9);
        full.nothing("feed beyond 220", x -> x.feed(1, 2, 3, 4, 5), -1);
        due.promise(10);
        full.nothing("law 201 of 220", x -> x.law(201), -1);
        due.promise(13);
        full.nothing("no roof 10", x -> x.roofIs(10, 0), -1);
        due.promise(30);
        full.nothing("check 11 of 220", x -> x.check(11), -2);
        full.nothingButTape("check 10 of 220", x -> x.check(10), 0);
    }

    private static int truth(boolean is) {
        return is ? 1 : 0;
    }

    private static void on() {
        due.promise(5);
        int[][] bad = {{-1, 0}, {3, 0}, {MIN, 0}, {MAX, 0}, {0, -2}, {0, 3}, {0, 10}, {0, MIN}, {0, MAX}, {-1, -1},
            {3, -1},
            {3, 3}};
        for (int[] b : bad) {
            yard.nothing("on " + b[0] + " " + b[1], x -> truth(x.on(b[0], b[1])), 0);
        }
    }

    private static void below() {
        due.promise(6);
        int[][] bad = {{-1, 0}, {3, 0}, {MIN, 0}, {MAX, 0}, {0, -2}, {0, 3}, {0, 10}, {0, MIN}, {0, MAX}, {-1, -1},
            {3, -1},
            {3, 3}};
        for (int[] b : bad) {
            yard.nothing("below " + b[0] + " " + b[1], x -> truth(x.below(b[0], b[1])), 0);
        }
    }

    private static void gear() {
        due.promise(7);
        int[][] bad = {{-1, 0}, {2, 0}, {MIN, 0}, {MAX, 0}, {0, -1}, {0, 3}, {0, MIN}, {0, MAX}, {1, -1}, {1, 3}, {1,
            MIN},
            {1, MAX}};
        for (int[] b : bad) {
            yard.nothing("gear " + b[0] + " " + b[1], x -> truth(x.gear(b[0], b[1], true)), 0);
            yard.nothing("gear off " + b[0] + " " + b[1], x -> truth(x.gear(b[0], b[1], false)), 0);
        }
        yard.nothing("it has a rope", x -> truth(x.gear(0, 1, true)), 0);
        yard.nothing("it has none", x -> truth(x.gear(0, 0, false)), 0);
        yard.nothing("it has an umbrella", x -> truth(x.gear(1, 2, true)), 0);
        yard.nothing("it has none", x -> truth(x.gear(1, 1, false)), 0);
    }

    private static void snow() {
        due.promise(8);
        int[] bad = {-1, 100, MIN, MAX};
        for (int h : bad) {
            yard.nothing("snow " + h, x -> truth(x.snow(h, true)), 0);
            yard.nothing("no snow " + h, x -> truth(x.snow(h, false)), 0);
        }
        yard.nothing("there is snow", x -> truth(x.snow(4, true)), 0);
        yard.nothing("there is none", x -> truth(x.snow(3, false)), 0);
    }

    private static void feed() {
        due.promise(9);
        Twins nearly = new Twins(due, x -> {
            yard(x);
            for (int i = 1; i < 11; i++) {
                Due.feed(x, "f9(1=1)");
            }
        });
        nearly.nothing("221 to 240", x -> x.feed(MAX, MIN, -1, 0, 1), -1);
    }

    private static void law() {
        due.promise(10);
        int[] bad = {0, -1, 21, 200, 201, MIN, MAX};
        for (int n : bad) {
            yard.nothing("law " + n + " of 20", x -> x.law(n), -1);
        }
        Twins wrong = new Twins(due, x -> {
            yard(x);
            x.check(0);
            Due.feed(x, "x");
        });
        wrong.nothing("it has not so many, ahead of a FAULT", x -> x.law(21), -1);
        wrong.nothing("no such n, ahead of a FAULT", x -> x.law(0), -1);
        wrong.nothing("no such n, ahead of a FAULT", x -> x.law(201), -1);
        wrong.nothingButTape("a FAULT", x -> x.law(20), -1000);
        Twins empty = new Twins(due, x -> {
            yard(x);
            x.check(0);
        });
        empty.nothing("no tape, ahead of the end as a FAULT", x -> x.law(1), -1);
        Twins most = new Twins(due, x -> {
            for (int i = 0; i < 11; i++) {
                Due.feed(x, " 5(1=1)");
            }
        });
        most.nothing("no such n, ahead of a FAULT", x -> x.law(201), -1);
        most.nothing("no such n, ahead of a FAULT", x -> x.law(220), -1);
        most.nothing("it has not so many", x -> x.law(221), -1);
    }

    private static void lawFaults() {
        due.promise(10);
        String[] texts = {"x5(1=1)", "m123456(1=1)", "m5(((((((1=1)))))))", "m5(1=1);f9(1=1", "m5(1=1) "};
        int[] answers = {-1000, -2006, -5008, -1014, -1007};
        for (int i = 0; i < texts.length; i++) {
            String text = texts[i];
            Twins wrong = new Twins(due, x -> {
                yard(x);
                x.check(0);
                Due.feed(x, text);
            });
            wrong.nothingButTape("the TEXT before stays for " + text, x -> x.law(text.length()), answers[i]);
        }
        StringBuilder fifteen = new StringBuilder("m5(1=1)");
        for (int i = 1; i < 15; i++) {
            fifteen.append(";m5(1=1)");
        }
        Twins many = new Twins(due, x -> {
            yard(x);
            x.check(0);
            Due.feed(x, fifteen.toString());
        });
        many.nothingButTape("the TEXT before stays for 15 CLAUSES", x -> x.law(119), -4112);
    }

    private static void passing() {
        due.promise(11);
        int[] hours = {0, -1, 41, MIN, MAX};
        for (int n : hours) {
            yard.nothing("hours " + n, x -> x.hours(n), -1);
        }
        due.promise(12);
        int[] winds = {-1, 10, MIN, MAX};
        for (int wind : winds) {
            yard.nothing("hour " + wind, x -> x.hour(wind), -1);
        }
    }

    private static void looking() {
        due.promise(13);
        int[][] roofs = {{-1, 0}, {3, 0}, {10, 0}, {MIN, 0}, {MAX, 0}, {0, -1}, {0, 5}, {0, MIN}, {0, MAX}, {3, 5}};
        for (int[] r : roofs) {
            yard.nothing("roofIs " + r[0] + " " + r[1], x -> x.roofIs(r[0], r[1]), -1);
        }
        due.promise(14);
        int[][] apprentices = {{-1, 0}, {3, 0}, {8, 0}, {MIN, 0}, {MAX, 0}, {0, -1}, {0, 5}, {0, 9}, {0, 15}, {0, MIN},
            {0, MAX}, {3, 10}, {-1, 14}};
        for (int[] a : apprentices) {
            yard.nothing("apprenticeIs " + a[0] + " " + a[1], x -> x.apprenticeIs(a[0], a[1]), -1);
        }
        due.promise(15);
        int[][] masters = {{-1, 0}, {3, 0}, {8, 0}, {MIN, 0}, {MAX, 0}, {0, -1}, {0, 5}, {0, 10}, {0, MIN}, {0, MAX},
            {3, 5}};
        for (int[] m : masters) {
            yard.nothing("masterIs " + m[0] + " " + m[1], x -> x.masterIs(m[0], m[1]), -1);
        }
        due.promise(24);
        int[] who = {-1, 3, 8, MIN, MAX};
        for (int a : who) {
            yard.nothing("teachers " + a, x -> x.teachers(a), -1);
        }
        due.promise(31);
        int[] what = {-1, 10, 99, 200, MIN, MAX};
        for (int w : what) {
            yard.nothing("count " + w, x -> x.count(w), -1);
        }
    }

    private static void tried() {
        due.promise(16);
        int[][] bad = {{0, 0}, {-1, 0}, {41, 0}, {MIN, 0}, {MAX, 0}, {1, -1}, {1, 4}, {1, 9}, {1, 13}, {1, 19}, {1, 23},
            {1, 27}, {1, 30}, {1, MIN}, {1, MAX}, {0, 4}, {0, 10}, {41, 20}};
        for (int[] b : bad) {
            yard.nothing("tried " + b[0] + " " + b[1], x -> x.tried(b[0], b[1]), -1);
        }
        full.nothing("no master 8", x -> x.tried(1, 28), -1);
        Twins bare = new Twins(due, x -> Due.law(x, "m5(1=1)"));
        bare.nothing("no roofs", x -> x.tried(1, 10), -1);
        bare.nothing("no masters", x -> x.tried(1, 20), -1);
    }

    /** The DOME 0 can't be full within one HOUR: so each of these has a reason to answer -2, too. */
    private static void set() {
        due.promise(17);
        int[][] bad = {{0, 0, 1, 10}, {8, 0, 1, 10}, {9, 0, 1, 10}, {-1, 0, 1, 10}, {MIN, 0, 1, 10}, {MAX, 0, 1, 10},
            {1, -1, 1, 10}, {1, 3, 1, 10}, {1, MIN, 1, 10}, {1, MAX, 1, 10}, {1, 0, 0, 10}, {1, 0, 21, 10},
            {1, 0, MIN, 10}, {1, 0, MAX, 10}, {1, 0, 1, -1}, {1, 0, 1, 1}, {1, 0, 1, 2}, {1, 0, 1, 3}, {1, 0, 1, 8},
            {1, 0, 1, 9}, {1, 0, 1, 13}, {1, 0, 1, MIN}, {1, 0, 1, MAX}, {6, 0, 1, 0}, {3, 0, 1, 2}, {1, 0, 1, 32},
            {0, 0, 1, 12}, {1, 3, 1, 12}, {1, 0, 21, 12}, {8, 0, 1, 12}};
        for (int[] b : bad) {
            yard.nothing("set " + b[0] + " " + b[1] + " " + b[2] + " " + b[3], x -> x.set(b[0], b[1], b[2], b[3]), -1);
        }
        full.nothing("four told", x -> x.set(15, 0, 1, 12), -1);
        full.nothing("a ninth told", x -> x.set(257, 0, 1, 12), -1);
        full.nothing("no dome 10", x -> x.set(1, 10, 1, 12), -1);
    }

    private static void setNotWithin() {
        due.promise(17);
        int[] what = {0, 1, 2, 10, 11, 12};
        for (int w : what) {
            yard.nothing("not within 1, what " + w, x -> x.set(7, 0, 1, w), -2);
        }
    }

    /** HOUR 4 has SNOW already: of the next two HOURS (3, 4) there is one alone. */
    private static void free() {
        due.promise(18);
        int[][] bad = {{0, 0, 0}, {9, 0, 0}, {-1, 0, 0}, {MIN, 0, 0}, {MAX, 0, 0}, {2, -1, 0}, {2, -1, 1}, {2, -1, 2},
            {2, 9, 0}, {2, MIN, 0},
            {2, MAX, 0}, {2, 2, -1}, {2, 2, 3}, {2, 2, MIN}, {2, 2, MAX}, {0, 1, 0}, {9, 8, 0}, {0, 9, 3}};
        for (int[] b : bad) {
            yard.nothing("free " + b[0] + " " + b[1] + " " + b[2], x -> x.free(b[0], b[1], b[2]), -1);
        }
        for (int what = 0; what <= 2; what++) {
            int w = what;
            yard.nothing("there are not 2", x -> x.free(2, 2, w), -2);
            yard.nothing("there are not 8", x -> x.free(1, 8, w), -2);
        }
    }

    private static void worth() {
        due.promise(19);
        int[][] bad = {{-1, 0, 1}, {2, 0, 1}, {MIN, 0, 1}, {MAX, 0, 1}, {0, -1, 1}, {0, 3, 1}, {0, MIN, 1}, {0, MAX, 1},
            {1, -1, 1}, {1, 3, 1}, {1, MIN, 1}, {1, MAX, 1}, {0, 0, 0}, {0, 0, 41}, {0, 0, -1}, {0, 0, MIN}, {0, 0,
            MAX},
            {1, 0, 0}, {1, 0, 41}, {0, 1, 1}, {1, 2, 1}};
        for (int[] b : bad) {
            yard.nothing("worth " + b[0] + " " + b[1] + " " + b[2], x -> x.worth(b[0], b[1], b[2]), -10000);
        }
    }

    private static void lent() {
        due.promise(20);
        int[][] bad = {{0, 10}, {100, 10}, {-1, 10}, {MIN, 10}, {MAX, 10}, {1, -1}, {1, 3}, {1, 8}, {1, 9}, {1, 12},
            {1, MIN}, {1, MAX}, {0, 11}, {100, 11}, {0, 0}};
        for (int[] b : bad) {
            yard.nothing("lent " + b[0] + " " + b[1], x -> x.lent(b[0], b[1]), -1);
        }
        full.nothing("no master 8", x -> x.lent(1, 8), -1);
    }

    /** 'm5(' is no three BRUISES that any two makes: so each of these has a reason to answer -2, too. */
    private static void letGo() {
        due.promise(21);
        int[][] bad = {{-1, 1, 0}, {3, 1, 0}, {MIN, 1, 0}, {MAX, 1, 0}, {0, 0, 0}, {0, 7, 0}, {0, -1, 0}, {0, MIN, 0},
            {0, MAX, 0}, {0, 1, -2}, {0, 1, 2}, {0, 1, MIN}, {0, 1, MAX}, {3, 7, 2}};
        for (int[] b : bad) {
            yard.nothing("letGo " + b[0] + " " + b[1] + " " + b[2], x -> x.letGo(b[0], b[1], b[2]), -1);
        }
        yard.nothingButTape("none", x -> x.letGo(0, 1, 0), -2);
        yard.nothingButTape("none", x -> x.letGo(0, 1, 1), -2);
        yard.nothingButTape("how many: 0", x -> x.letGo(0, 1, -1), 0);
        Twins noMasters = new Twins(due, x -> {
            x.roof(9, 9, 0);
            x.apprentice(0);
            Due.feed(x, "m5(1=1)");
        });
        noMasters.nothing("no masters", x -> x.letGo(0, 1, -1), -1);
        noMasters.nothing("no masters", x -> x.letGo(0, 1, 0), -1);
        Twins noTape = new Twins(due, x -> {
            yard(x);
            x.check(0);
        });
        noTape.nothing("it has not so many", x -> x.letGo(0, 1, -1), -1);
        noTape.nothing("it has not so many", x -> x.letGo(0, 1, 1), -1);
    }

    private static void settled() {
        due.promise(22);
        int[] bad = {-1, 2, MIN, MAX};
        for (int what : bad) {
            yard.nothing("settled " + what, x -> x.settled(what), -1);
        }
        Twins eight = new Twins(due, x -> {
            full(x);
            x.hour(9);
        });
        eight.nothing("more than 7", x -> x.settled(0), -2);
        eight.nothing("more than 7", x -> x.settled(1), -2);
        eight.nothing("no such what, ahead of more than 7", x -> x.settled(2), -1);
        eight.nothing("no such what, ahead of more than 7", x -> x.settled(-1), -1);
    }

    private static void owes() {
        due.promise(23);
        int[][] bad = {{-1, 0, 0}, {3, 0, 0}, {8, 0, 0}, {MIN, 0, 0}, {MAX, 0, 0}, {0, -1, 0}, {0, 3, 0}, {0, 8, 0},
            {0, MIN, 0}, {0, MAX, 0}, {0, 0, -1}, {0, 0, 2}, {0, 0, MIN}, {0, 0, MAX}};
        for (int[] b : bad) {
            yard.nothing("owes " + b[0] + " " + b[1] + " " + b[2], x -> x.owes(b[0], b[1], b[2]), -1);
        }
    }

    /** No APPRENTICE struck 0 and 2 both. */
    private static void chain() {
        due.promise(25);
        int[][] bad = {{-1, 0, -1}, {3, 0, -1}, {MIN, 0, -1}, {MAX, 0, -1}, {0, -1, -1}, {0, 3, -1}, {0, MIN, -1},
            {0, MAX, -1}, {3, 3, -1}, {-1, -1, -1}, {0, 2, -2}, {0, 2, 8}, {0, 2, MIN}, {0, 2, MAX}, {0, 0, -2},
            {0, 0, 8}, {0, 0, 0}, {0, 0, 7}};
        for (int[] b : bad) {
            yard.nothing("chain " + b[0] + " " + b[1] + " " + b[2], x -> x.chain(b[0], b[1], b[2]), -3);
        }
        for (int what = -1; what <= 7; what++) {
            int w = what;
            yard.nothing("there is none, ahead of no such place " + w, x -> x.chain(0, 2, w), -2);
        }
    }

    private static void odds() {
        due.promise(26);
        int[][] bad = {{-1, 1, 0, 0}, {3, 1, 0, 0}, {MIN, 1, 0, 0}, {MAX, 1, 0, 0}, {0, 0, 0, 0}, {0, 4, 0, 0},
            {0, -1, 0, 0}, {0, MIN, 0, 0}, {0, MAX, 0, 0}, {0, 1, -1, 0}, {0, 1, 1000, 0}, {0, 1, MIN, 0},
            {0, 1, MAX, 0}, {0, 1, 0, -1}, {0, 1, 0, 2}, {0, 1, 0, MIN}, {0, 1, 0, MAX}};
        for (int[] b : bad) {
            yard.nothing("odds " + b[0] + " " + b[1] + " " + b[2] + " " + b[3], x -> x.odds(b[0], b[1], b[2], b[3]),
                    -1);
        }
    }

    private static void seed() {
        due.promise(27);
        int[] bad = {-1, 65536, MIN, MAX};
        for (int s : bad) {
            yard.nothing("seed " + s, x -> truth(x.seed(s)), 0);
        }
    }

    private static void undo() {
        due.promise(29);
        Twins neverKept = new Twins(due, x -> {
            x.roof(60, 30, 3);
            x.apprentice(4);
            x.master(1, false);
            x.on(0, 0);
            x.below(0, 0);
            Due.law(x, "m1(1=1);f3(1=1)");
            x.hours(2);
            Due.feed(x, "m5(1=1)");
        });
        neverKept.nothing("none was kept", x -> truth(x.undo()), 0);
    }

    /** 'm5(1' is no number of SLATES, so that each of these has a reason to answer 0, too. */
    private static void check() {
        due.promise(30);
        int[] bad = {-1, 11, 6, 10, MIN, MAX};
        for (int n : bad) {
            yard.nothing("check " + n + " of 20", x -> x.check(n), -2);
        }
        Twins noTape = new Twins(due, x -> {
            yard(x);
            x.check(0);
        });
        noTape.nothing("it has not so many", x -> x.check(1), -2);
        noTape.nothing("it has not so many, ahead of n above the ROOFS", x -> x.check(4), -2);
        yard.nothingButTape("not so", x -> x.check(1), 0);
        yard.nothingButTape("right", x -> x.check(0), -1);
    }

    private static void onlyLooked() {
        due.promise(16);
        int[] aims = {0, 1, 2, 3, 10, 11, 20, 22};
        for (int w : aims) {
            yard.nothing("tried, what " + w, x -> x.tried(40, w));
        }
        due.promise(17);
        int[] rows = {0, 2, 10, 11};
        for (int w : rows) {
            yard.nothing("set, what " + w, x -> x.set(5, 2, 20, w));
        }
        due.promise(18);
        for (int what = 0; what <= 2; what++) {
            int w = what;
            yard.nothing("free, what " + w, x -> x.free(8, 4, w));
        }
        due.promise(19);
        yard.nothing("worth of a rope", x -> x.worth(0, 0, 40));
        yard.nothing("worth of an umbrella", x -> x.worth(1, 0, 40));
        due.promise(20);
        yard.nothing("lent, how many", x -> x.lent(1, 10));
        yard.nothing("lent, to whom", x -> x.lent(1, 0));
        due.promise(21);
        yard.nothingButTape("letGo", x -> x.letGo(2, 6, -1), 0);
        due.promise(22);
        yard.nothing("settled", x -> x.settled(0));
        due.promise(25);
        yard.nothing("chain", x -> x.chain(0, 1, -1));
        due.promise(26);
        yard.nothing("odds", x -> x.odds(0, 3, 5, 0));
        due.promise(28);
        yard.nothing("keep what is as it was KEPT", x -> {
            x.undo();
            return x.keep();
        }, x -> truth(x.undo()));
    }

    private static void undone() {
        due.promise(29);
        yard.undone("roof", x -> x.roof(9, 9, 9));
        yard.undone("apprentice", x -> x.apprentice(9));
        yard.undone("master", x -> x.master(4, true));
        yard.undone("on", x -> truth(x.on(0, 1)));
        yard.undone("on none", x -> truth(x.on(0, -1)));
        yard.undone("below", x -> truth(x.below(0, 1)));
        yard.undone("below none", x -> truth(x.below(0, -1)));
        yard.undone("rope", x -> truth(x.gear(0, 0, true)));
        yard.undone("no rope", x -> truth(x.gear(0, 1, false)));
        yard.undone("umbrella", x -> truth(x.gear(1, 0, true)));
        yard.undone("no umbrella", x -> truth(x.gear(1, 2, false)));
        yard.undone("snow", x -> truth(x.snow(3, true)));
        yard.undone("no snow", x -> truth(x.snow(4, false)));
        yard.undone("tape fed", x -> x.feed(1, 2, 3, 4, 5));
        yard.undone("hours", x -> x.hours(40));
        yard.undone("hour", x -> x.hour(9));
        yard.undone("seed", x -> truth(x.seed(65535)));
        yard.undone("set", x -> x.set(4, 2, 20, 12));
        yard.undone("lent", x -> x.lent(1, 11));
        yard.undone("tape looked at", x -> x.letGo(0, 1, 0));
        yard.undone("tape checked", x -> x.check(1));
        yard.undone("tape with other bytes", x -> {
            x.check(0);
            return x.feed(1, 2, 3, 4, 5);
        });
        due.promise(28);
        SlateSchool x = new SlateSchool();
        yard(x);
        x.keep();
        due.is("a LAW", x.law(7), 1);
        due.is("undone", x.undo(), true);
        due.is("all but THE LAW: that one stays", x.count(3), 1);
        int before = x.roofIs(0, 1);
        x.hour(0);
        due.is("it stays", x.roofIs(0, 1), before + 5);
    }
}
