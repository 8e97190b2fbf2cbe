/** Each sentence of 'Terms' that names a boundary: the least and the greatest, empty and full, what goes round. */
public final class TermsTests {
    private static final Due due = new Due();

    public static void main(String[] args) {
        roofs();
        apprentices();
        masters();
        snows();
        theHour();
        text();
        clauses();
        boundsOfLaying();
        boundsOfFalling();
        boundsOfLearning();
        boundsOfOwing();
        noneHolds();
        theFirstThatHolds();
        partsAndPieces();
        comparisons();
        numbers();
        goingRound();
        fromTheLeft();
        dividedInE();
        dividedInC();
        askedAsMatters();
        lettersOfMasters();
        faultOfTheFirst();
        faultOfSixthDigit();
        faultOfClause();
        faultOfSeventh();
        faultOfEnds();
        room();
        fallingAsFar();
        ropes();
        struck();
        skillsFull();
        askedAhead();
        windsGoRound();
        struckOrBroken();
        due.end();
    }

    /** One ROOF, STEEP 0, with one APPRENTICE of GRIP 0 on it and nobody below. */
    private static SlateSchool one(String law, int room, int slates) {
        SlateSchool x = new SlateSchool();
        due.is("law " + law, Due.law(x, law) > 0, true);
        x.roof(room, slates, 0);
        x.apprentice(0);
        x.on(0, 0);
        return x;
    }

    private static SlateSchool withMaster(String law, int room, int slates) {
        SlateSchool x = one(law, room, slates);
        x.master(0, false);
        x.below(0, 0);
        return x;
    }

    /** What an APPRENTICE lays by an E is what the E is, if that is 0 to 9. */
    private static void lays(String e, int want) {
        SlateSchool x = one("m" + e + "(1=1)", 99, 0);
        x.hour(0);
        due.is("E " + e, x.roofIs(0, 1), want);
    }

    private static void holds(String c, boolean want) {
        SlateSchool x = one("m1(" + c + ")", 99, 0);
        x.hour(0);
        due.is("C " + c, x.roofIs(0, 1), want ? 1 : 0);
    }

    private static void fault(String text, int want) {
        SlateSchool x = new SlateSchool();
        due.is("text " + text, Due.law(x, text), want);
        due.is("the tape is empty then", x.count(4), 0);
        due.is("CLAUSES", x.count(3), want > 0 ? want : 0);
    }

    private static void pass(SlateSchool x, int hours) {
        for (int left = hours; left > 0; left -= 40) {
            x.hours(Math.min(left, 40));
        }
    }

    private static void roofs() {
        due.terms("ROOFS 0 to 9");
        SlateSchool x = new SlateSchool();
        for (int q = 0; q < 10; q++) {
            due.is("roof", x.roof(99, 0, 9 - q), q);
        }
        due.is("an eleventh", x.roof(99, 0, 0), -1);
        x.apprentice(0);
        Due.law(x, "mq(1=1)");
        x.on(0, 9);
        x.hour(0);
        due.is("q of the last one", x.roofIs(9, 1), 9);
        x.on(0, 0);
        x.hour(0);
        due.is("q of the first one", x.roofIs(0, 1), 0);
        due.terms("STEEP (0 to 9)");
        Due.law(x, "me(1=1)");
        x.hour(0);
        due.is("e 9", x.roofIs(0, 1), 9);
        x.on(0, 9);
        x.hour(0);
        due.is("e 0", x.roofIs(9, 1), 9);
        due.terms("ROOM for so many SLATES (0 to 99), SLATES that lie on it (0 to ROOM)");
        SlateSchool least = one("m9(1=1);f9(1=1)", 0, 0);
        due.is("ROOM 0: none falls", least.hour(0), 0);
        due.is("ROOM 0: none is laid", least.roofIs(0, 1), 0);
        SlateSchool most = one("m9(1=1)", 99, 99);
        most.hour(0);
        due.is("ROOM 99, full", most.roofIs(0, 1), 99);
        due.terms("WIND of an HOUR is one for all");
        SlateSchool two = one("mw(1=1)", 99, 0);
        two.roof(99, 0, 0);
        two.apprentice(0);
        two.on(1, 1);
        two.hours(1);
        due.is("2 on the one", two.roofIs(0, 1), 2);
        due.is("2 on the other", two.roofIs(1, 1), 2);
        due.is("drawn once", two.count(6), 39022);
    }

    private static void apprentices() {
        due.terms("APPRENTICES 0 to 7");
        SlateSchool x = new SlateSchool();
        x.roof(99, 0, 0);
        for (int a = 0; a < 8; a++) {
            due.is("apprentice", x.apprentice(a + 2), a);
        }
        due.is("a ninth", x.apprentice(0), -1);
        Due.law(x, "ma(1=1)");
        x.on(7, 0);
        x.hour(0);
        due.is("a of the last one", x.roofIs(0, 1), 7);
        x.on(7, -1);
        x.on(0, 0);
        x.hour(0);
        due.is("a of the first one", x.roofIs(0, 1), 7);
        due.terms("a GRIP (0 to 9)");
        Due.law(x, "mg(1=1)");
        x.on(0, -1);
        x.on(7, 0);
        x.hour(0);
        due.is("g 9", x.roofIs(0, 1), 16);
        SlateSchool least = one("mg(1=1)", 99, 0);
        least.hour(0);
        due.is("g 0", least.roofIs(0, 1), 0);
        due.terms("on a ROOF or on none");
        SlateSchool none = one("m9(1=1);f9(1=1)", 99, 50);
        none.on(0, -1);
        due.is("none falls", none.hour(9), 0);
        due.is("none is laid", none.roofIs(0, 1), 50);
        due.terms("with a ROPE or without (at first)");
        due.is("without", none.apprenticeIs(0, 2), 0);
        due.terms("SKILL in each of five TRADES 0 to 4 (0 to 99; 0 at first)");
        for (int k = 0; k < 5; k++) {
            due.is("SKILL", none.apprenticeIs(0, 10 + k), 0);
        }
        due.is("no sixth", none.apprenticeIs(0, 15), -1);
    }

    private static void masters() {
        due.terms("MASTERS 0 to 7");
        SlateSchool x = one("f1(1=1);l1+k(1=1);d10*[b+1]+k(1=1)", 99, 99);
        for (int b = 0; b < 8; b++) {
            due.is("master", x.master(b == 7 ? 4 : 0, false), b);
            due.is("BRUISES (0 at first)", x.masterIs(b, 4), 0);
            due.is("below none", x.masterIs(b, 0), 10);
        }
        due.is("a ninth", x.master(0, false), -1);
        due.is("below none: broken", x.hour(0), 1);
        due.is("below none: broken", x.count(7), 1);
        x.below(7, 0);
        x.hour(0);
        due.is("b 7, k 4", x.owes(0, 7, 0), 84);
        due.is("TRADE 4", x.apprenticeIs(0, 14), 5);
        x.below(7, -1);
        x.below(0, 0);
        x.hour(0);
        due.is("b 0, k 0", x.owes(0, 0, 0), 10);
        due.is("TRADE 0", x.apprenticeIs(0, 10), 1);
        due.is("TRADE 1", x.apprenticeIs(0, 11), 0);
    }

    private static void snows() {
        due.terms("SNOW in HOURS 0 to 99 (none at first): then nobody works");
        SlateSchool x = one("m2(1=1);f1(1=1)", 99, 50);
        x.snow(0, true);
        due.is("HOUR 0: none falls", x.hour(0), 0);
        due.is("HOUR 0: none is laid", x.roofIs(0, 1), 50);
        due.is("HOUR 1: they work", x.hour(0), 1);
        due.is("HOUR 1: they work", x.roofIs(0, 1), 51);
        x.snow(99, true);
        x.snow(98, true);
        Due.law(x, "f0(1=1)");
        pass(x, 96);
        due.is("HOUR 98", x.count(5), 98);
        Due.law(x, "m2(1=1);f1(1=1)");
        due.is("HOUR 98", x.hour(0), 0);
        due.is("HOUR 99", x.hour(0), 0);
        due.is("nobody works", x.roofIs(0, 1), 51);
        due.is("HOUR 100, not as HOUR 0", x.hour(0), 1);
        due.is("HOUR 100", x.roofIs(0, 1), 52);
        SlateSchool y = one("f1(1=1)", 99, 50);
        y.snow(1, true);
        due.is("ahead of it", y.hour(0), 1);
        due.is("in it", y.hour(0), 0);
        due.is("behind it", y.hour(0), 1);
    }

    private static void theHour() {
        due.terms("THE HOUR (0 at first)");
        SlateSchool x = one("mt(1=1)", 99, 0);
        due.is("at first", x.count(5), 0);
        x.hour(0);
        due.is("t 0", x.roofIs(0, 1), 0);
        x.hour(0);
        due.is("t 1", x.roofIs(0, 1), 1);
        due.terms("THE HOUR is one more (also with SNOW)");
        due.is("two", x.count(5), 2);
        x.snow(2, true);
        x.hour(0);
        due.is("three", x.count(5), 3);
        pass(x, 98);
        due.is("it goes on behind 99", x.count(5), 101);
        Due.law(x, "ft-100(1=1)");
        due.is("t 101, the ROOF full by then", x.hour(0), 1);
    }

    private static void text() {
        due.terms("THE LAW: a TEXT (none at first)");
        SlateSchool x = new SlateSchool();
        x.roof(99, 50, 0);
        x.apprentice(0);
        x.on(0, 0);
        x.master(0, false);
        x.below(0, 0);
        due.is("no CLAUSES", x.count(3), 0);
        due.is("f 0", x.hour(9), 0);
        due.is("m 0", x.roofIs(0, 1), 50);
        due.terms("a TEXT of at most 200 bytes");
        StringBuilder text = new StringBuilder("m");
        for (int i = 0; i < 96; i++) {
            text.append("0+");
        }
        text.append("07(1=1)");
        due.is("its length", text.length(), 200);
        due.is("200", Due.law(x, text.toString()), 1);
        x.hour(0);
        due.is("to its last factor", x.roofIs(0, 1), 57);
        Due.feed(x, text.insert(1, "0").toString());
        due.is("201", x.law(201), -1);
        due.is("200 of these: the end can't stand there", x.law(200), -1200);
        due.terms("a TEXT of one byte");
        fault("m", -1001);
        due.terms("no blanks");
        fault(" m1(1=1)", -1000);
        fault("m 1(1=1)", -1001);
        fault("m1 (1=1)", -1002);
        fault("m1( 1=1)", -1003);
        fault("m1(1= 1)", -1005);
        fault("m1(1=1) ", -1007);
        fault("m1(1=1); m1(1=1)", -1008);
        fault("m1(1=1);m1(1=1)\n", -1015);
    }

    private static void clauses() {
        due.terms("CLAUSES (14 at most)");
        StringBuilder text = new StringBuilder("m1(1=2)");
        for (int i = 2; i < 14; i++) {
            text.append(";m1(1=2)");
        }
        text.append(";m5(1=1)");
        SlateSchool x = one("m1(1=1)", 99, 0);
        due.is("14", Due.law(x, text.toString()), 14);
        x.hour(0);
        due.is("the 14th is asked", x.roofIs(0, 1), 5);
        due.is("a 15th", Due.law(x, text + ";m7(1=1)"), -4112);
        x.hour(0);
        due.is("the TEXT before", x.roofIs(0, 1), 10);
        due.terms("CLAUSES with a ; (59) between two");
        fault("m1(1=1);f1(1=1)", 2);
        fault("m1(1=1):f1(1=1)", -1007);
        fault("m1(1=1)<f1(1=1)", -1007);
        fault("m1(1=1)f1(1=1)", -1007);
        fault(";m1(1=1)", -1000);
        fault("m1(1=1);", -1008);
        fault("m1(1=1);;f1(1=1)", -1008);
    }

    private static void boundsOfLaying() {
        due.terms("m: how many SLATES an APPRENTICE lays (0 to 9; beyond its bounds the bound)");
        lays("0", 0);
        lays("1", 1);
        lays("0-1", 0);
        lays("0-99999", 0);
        lays("9", 9);
        lays("10", 9);
        lays("99999", 9);
        lays("65536*32767+65535", 9);
        lays("32768*65536", 0);
    }

    private static void falls(String e, int want) {
        SlateSchool x = one("f" + e + "(1=1)", 99, 99);
        due.is("f " + e, x.hour(0), want);
        due.is("f " + e, x.roofIs(0, 1), 99 - want);
    }

    private static void boundsOfFalling() {
        due.terms("f: how many it lets fall (0 to 9; beyond its bounds the bound)");
        falls("0", 0);
        falls("1", 1);
        falls("0-1", 0);
        falls("0-99999", 0);
        falls("9", 9);
        falls("10", 9);
        falls("99999", 9);
    }

    private static void learns(String e, int want) {
        SlateSchool x = withMaster("f1(1=1);l" + e + "(1=1)", 99, 99);
        x.hour(0);
        due.is("l " + e, x.apprenticeIs(0, 10), want);
    }

    private static void boundsOfLearning() {
        due.terms("l: how much it learns by one that strikes (0 to 9; beyond its bounds the bound)");
        learns("0", 0);
        learns("1", 1);
        learns("0-1", 0);
        learns("0-99999", 0);
        learns("9", 9);
        learns("10", 9);
        learns("99999", 9);
    }

    private static void owes(String e, int want) {
        SlateSchool x = withMaster("f1(1=1);d" + e + "(1=1)", 99, 99);
        x.hour(0);
        due.is("d " + e, x.owes(0, 0, 0), want);
    }

    private static void boundsOfOwing() {
        due.terms("d: how many pence it owes for that (0 to 99; beyond its bounds the bound)");
        owes("0", 0);
        owes("1", 1);
        owes("0-1", 0);
        owes("0-99999", 0);
        owes("9", 9);
        owes("10", 10);
        owes("98", 98);
        owes("99", 99);
        owes("100", 99);
        owes("99999", 99);
    }

    private static void noneHolds() {
        due.terms("of each the E of the first CLAUSE whose C holds (none: 0)");
        SlateSchool m = one("m5(1=2);m6(2=1);f1(1=1)", 99, 50);
        due.is("f", m.hour(0), 1);
        due.is("no m holds", m.roofIs(0, 1), 49);
        SlateSchool f = one("f5(1=2);f6(2=1);m1(1=1)", 99, 50);
        due.is("no f holds", f.hour(0), 0);
        due.is("m", f.roofIs(0, 1), 51);
        SlateSchool l = withMaster("f1(1=1);l5(1=2);d5(1=1)", 99, 50);
        l.hour(0);
        due.is("no l holds", l.apprenticeIs(0, 10), 0);
        due.is("d", l.owes(0, 0, 0), 5);
        SlateSchool d = withMaster("f1(1=1);d5(1=2);l5(1=1)", 99, 50);
        d.hour(0);
        due.is("no d holds", d.owes(0, 0, 0), 0);
        due.is("l", d.apprenticeIs(0, 10), 5);
    }

    private static void theFirstThatHolds() {
        due.terms("the E of the first CLAUSE whose C holds");
        SlateSchool x = withMaster("m1(w=0);m2(w<2);m3(1=1);m4(1=1)", 99, 0);
        x.hour(0);
        due.is("the first", x.roofIs(0, 1), 1);
        x.hour(1);
        due.is("the second", x.roofIs(0, 1), 3);
        x.hour(2);
        due.is("the third, not the last", x.roofIs(0, 1), 6);
        SlateSchool zero = one("m0-5(1=1);m4(1=1)", 99, 0);
        zero.hour(0);
        due.is("the first, though it is 0", zero.roofIs(0, 1), 0);
    }

    private static void partsAndPieces() {
        due.terms("PARTS with a | between two, one of which must hold");
        holds("1=1|1=2|1=2", true);
        holds("1=2|1=1|1=2", true);
        holds("1=2|1=2|1=1", true);
        holds("1=2|1=2|1=2", false);
        holds("1=1|1=1|1=1", true);
        due.terms("PIECES with an & between two, all of which must");
        holds("1=2&1=1&1=1", false);
        holds("1=1&1=2&1=1", false);
        holds("1=1&1=1&1=2", false);
        holds("1=1&1=1&1=1", true);
        holds("1=2&1=1|1=1&1=1", true);
        holds("1=1|1=1&1=2", true);
        due.terms("a PIECE: !PIECE, (C)");
        holds("!1=2&1=2", false);
        holds("!(1=2&1=2)", true);
        holds("!1=1|1=1", true);
        holds("!(1=1|1=1)", false);
        holds("!!1=1", true);
        holds("!!!1=1", false);
        holds("!(!(1=1))", true);
        holds("!1<2", false);
        holds("!2>1", false);
        holds("!2<1", true);
        holds("!1>2", true);
    }

    private static void comparisons() {
        due.terms("E, one of < > =, and E");
        int[][] twos = {{4, 5}, {5, 5}, {6, 5}, {0, 0}, {0, 99999}, {99999, 0}, {99999, 99999}};
        for (int[] t : twos) {
            holds(t[0] + "<" + t[1], t[0] < t[1]);
            holds(t[0] + ">" + t[1], t[0] > t[1]);
            holds(t[0] + "=" + t[1], t[0] == t[1]);
        }
        holds("0-1<0", true);
        holds("0-1>0", false);
        holds("[32768*65536]<[65536*32767+65535]", true);
        holds("[32768*65536]>[65536*32767+65535]", false);
    }

    private static void numbers() {
        due.terms("a number of one to five digits");
        lays("7", 7);
        lays("07", 7);
        lays("007", 7);
        lays("00007", 7);
        holds("99999=99998+1", true);
        holds("10000=100*100", true);
        holds("0=00000", true);
        fault("m(1=1)", -1001);
        fault("m1(=1)", -1003);
    }

    private static void goingRound() {
        due.terms("All is reckoned with 32 bits, as the machine does");
        String most = "[65536*32767+65535]";
        String least = "[32768*65536]";
        holds(least + "<0", true);
        holds(most + ">0", true);
        holds(most + "+1=" + least, true);
        holds(least + "-1=" + most, true);
        holds(most + "+" + most + "=0-2", true);
        holds("0-" + least + "=" + least, true);
        holds("65536*65536=0", true);
        holds("99999*99999/10000/10=14098", true);
        holds("99999*99999%10000=5409", true);
        holds("65535*65537=0-1", true);
        holds(least + "/[0-1]=" + least, true);
        holds(least + "%[0-1]=0", true);
        holds(most + "*" + most + "=1", true);
        lays(most + "+" + most + "+9", 7);
        due.terms("division as the machine does");
        holds("[0-7]/2=0-3", true);
        holds("7/[0-2]=0-3", true);
        holds("[0-7]/[0-2]=3", true);
        holds("[0-7]%4=0-3", true);
        holds("7%[0-4]=3", true);
        holds("0/5=0", true);
        holds("4/5=0", true);
        holds("5/5=1", true);
    }

    private static void fromTheLeft() {
        due.terms("TERMS with + or -, FACTORS with one of * / %, from the left on");
        lays("9-3-2", 4);
        lays("9-3+2", 8);
        lays("9-[3+2]", 4);
        lays("16/4/2", 2);
        lays("16/[4/2]", 8);
        lays("3*5/2", 7);
        lays("5/2*3", 6);
        lays("7%4*2", 6);
        lays("2*7%4", 2);
        lays("1+2*3", 7);
        lays("[1+2]*3", 9);
        lays("8-2*3", 2);
    }

    private static void dividedInE() {
        due.terms("what is divided by 0 is REFUSED: then the whole E is 0");
        lays("5/0", 0);
        lays("5%0", 0);
        lays("0/0", 0);
        lays("5+1/0", 0);
        lays("1/0+5", 0);
        lays("5-[3/[2-2]]*0", 0);
        lays("5+0*[1%0]", 0);
        lays("5/1", 5);
        SlateSchool x = one("m5/0(1=1);m4(1=1)", 99, 0);
        x.hour(0);
        due.is("no other CLAUSE is asked", x.roofIs(0, 1), 0);
        SlateSchool f = one("f5/w(1=1)", 99, 99);
        due.is("f by wind 0", f.hour(0), 0);
        due.is("f by wind 1", f.hour(1), 5);
        SlateSchool b = withMaster("f2(1=1);l5/h(1=1);d7%h+3(1=1)", 99, 99);
        b.hour(0);
        due.is("l: 0, then 5", b.apprenticeIs(0, 10), 5);
        due.is("d: 0, then 3", b.owes(0, 0, 0), 3);
    }

    private static void dividedInC() {
        due.terms("what is divided by 0 is REFUSED: then the whole C that is asked does not hold");
        holds("1/0=0", false);
        holds("0=1%0", false);
        holds("!1/0=0", false);
        holds("!(1/0=0)", false);
        holds("!!1/0=0", false);
        holds("1/0=0|1=1", false);
        holds("(1/0=0)|1=1", false);
        holds("!(1=1&1/0=1)|1=1", false);
        holds("1=1&1=1/0|1=1", false);
        SlateSchool x = one("m5(1/w=1|1=1);m4(1=1)", 99, 0);
        x.hour(0);
        due.is("the next CLAUSE is asked", x.roofIs(0, 1), 4);
        x.hour(1);
        due.is("the first one", x.roofIs(0, 1), 9);
    }

    private static void askedAsMatters() {
        due.terms("Of a C as much is asked, from the left, as matters");
        holds("1=1|1/0=0", true);
        holds("1=2|1/0=0", false);
        holds("1=2|1=1|1/0=0", true);
        holds("1=2&1/0=0", false);
        holds("1=2&1/0=0|1=1", true);
        holds("1=1&1/0=0|1=1", false);
        holds("1=1&1=2&1/0=0|1=1", true);
        holds("1=2&1/0=0&1/0=0|1=1", true);
        holds("!(1=1|1/0=0)|1=1", true);
        holds("!(1=2&1/0=0)", true);
        holds("!(1=2&1/0=0)&(1=1|1/0=0)", true);
        holds("(1=1|1/0=0)&1=2&1/0=0|!1=2", true);
        holds("1=1|(1=2&(1/0=0))", true);
    }

    private static void lettersOfMasters() {
        due.terms("in l, d: b, k, h (in m, f 0); s all TRADES together (in l, d of the MASTER's TRADE)");
        SlateSchool x = one("f2(1=1);l3(1=1)", 99, 99);
        x.master(4, true);
        x.master(1, false);
        x.master(2, false);
        x.below(1, 0);
        x.below(2, 0);
        x.hour(0);
        Due.law(x, "fs(b=0&k=0&h=0)");
        due.is("s 6, b k h 0 in f", x.hour(0), 6);
        Due.law(x, "ms(b=0&k=0&h=0)");
        x.hour(0);
        due.is("s 6, b k h 0 in m", x.roofIs(0, 1), 99 - 2 - 6 + 6);
        x.below(1, -1);
        Due.law(x, "f1(1=1);l1(s=3&b=2&k=2&h=4);dh+s+b+k(s=3&b=2)");
        x.hour(0);
        due.is("l", x.apprenticeIs(0, 12), 4);
        due.is("d", x.owes(0, 2, 0), 11);
        due.terms("o whether it has a ROPE (1, 0)");
        lays("o", 0);
        x.gear(0, 0, true);
        Due.law(x, "f1+o(1=1)");
        due.is("o 1: 2, one fewer", x.hour(0), 1);
    }

    private static void faultOfTheFirst() {
        due.terms("FAULTS, the first from the left: 1 what can't stand there (the end, too)");
        fault("x", -1000);
        fault("\u0000", -1000);
        fault("m1", -1002);
        fault("m1(", -1003);
        fault("m1(1", -1004);
        fault("m1(1=", -1005);
        fault("m1(1=1", -1006);
        fault("m1(1=1)", 1);
        fault("m1(1=1);", -1008);
        fault("m1(1=1);m", -1009);
        fault("m[", -1002);
        fault("m[1", -1003);
        fault("m1(!", -1004);
        fault("m1((1=1)", -1008);
        fault("m1(1=1|", -1007);
        fault("m1(1=1&", -1007);
        fault("m1+", -1003);
        fault("m1*", -1003);
        fault("x1234567", -1000);
        fault("m1(1==1);m123456(1=1)", -1005);
        fault("m123456(1==1)", -2006);
        fault("m[[[[[[[123456", -5007);
        fault("m123456[[[[[[[[", -2006);
        char[] beside = {'a' - 1, 'c', 'f', 'i', 'j', 'l', 'm', 'p', 'r', 'u', 'v', 'x', 'z', '0' - 1, '9' + 1, 'A',
                'G'};
        for (char sign : beside) {
            fault("m" + sign + "(1=1)", -1001);
        }
        char[] kinds = {'c', 'e', 'g', 'k', 'n', 'M', 'F', 'L', 'D', '1'};
        for (char sign : kinds) {
            fault(sign + "1(1=1)", -1000);
        }
    }

    private static void faultOfSixthDigit() {
        due.terms("2 a sixth digit, at it");
        fault("m99999(1=1)", 1);
        fault("m999999(1=1)", -2006);
        fault("m000000(1=1)", -2006);
        fault("m0000000(1=1)", -2006);
        fault("m1(12345=12345)", 1);
        fault("m1(123456=1)", -2008);
        fault("m1(1=123456)", -2010);
        fault("m1+123456(1=1)", -2008);
        fault("m[123456", -2007);
        fault("m12345[", -1006);
        fault("m12345a", -1006);
    }

    private static void faultOfClause() {
        due.terms("4 a 15th CLAUSE, at its letter (if that can stand there)");
        StringBuilder fourteen = new StringBuilder("d1(1=1)");
        for (int i = 1; i < 14; i++) {
            fourteen.append(";d1(1=1)");
        }
        String text = fourteen.toString();
        fault(text, 14);
        fault(text + ";m", -4112);
        fault(text + ";f", -4112);
        fault(text + ";l", -4112);
        fault(text + ";d123456", -4112);
        fault(text + ";a", -1112);
        fault(text + ";1", -1112);
        fault(text + ";", -1112);
        fault(text + "m", -1111);
        fault(text + ")", -1111);
        fault(text.substring(0, text.length() - 1) + ";m", -1110);
    }

    private static void faultOfSeventh() {
        due.terms("5 a seventh of ( [ ! that are open in one another, at it");
        fault("m[[[[[[1]]]]]](1=1)", 1);
        fault("m[[[[[[[1]]]]]]](1=1)", -5007);
        fault("m1(1=[[[[[1]]]]])", 1);
        fault("m1(1=[[[[[[1]]]]]])", -5010);
        fault("m1([[[[[1]]]]]=1)", 1);
        fault("m1([[[[[[1]]]]]]=1)", -5008);
        due.terms("5: the ( of the CLAUSE counts");
        fault("m1((((((1=1))))))", 1);
        fault("m1(((((((1=1)))))))", -5008);
        due.terms("5: a ! is open till its PIECE ends");
        fault("m1(!!!!!1=1)", 1);
        fault("m1(!!!!!!1=1)", -5008);
        fault("m1(!!!!!1=1&!!!!!1=1)", 1);
        fault("m1(!!!!!1=1|!!!!!1=1)", 1);
        fault("m1(!!!!!1=1|!!!!!!1=1)", -5017);
        fault("m1(!!!!1=[1])", 1);
        fault("m1(!!!!!1=[1])", -5010);
        fault("m1(!!!!![1]=1)", -5008);
        fault("m1(!!!!!(1=1))", -5008);
        fault("m1(!!!!(1=1))", 1);
        fault("m1(!!!!(!1=1))", -5008);
        fault("m1(!!!!(1=1)&(!!!!1=1))", 1);
        fault("m1((!(!(1=1))))", 1);
        fault("m1((!(!([1]=1))))", -5008);
        due.terms("5: open in one another, not those that are shut");
        fault("m[[[[[[1]]]]]]+[[[[[[1]]]]]](1=1)", 1);
        fault("m1((((((1=1)))))|(((((1=1))))))", 1);
        fault("m1((1=1)&(1=1)&(1=1)&(1=1)&(1=1)&(1=1)&(1=1))", 1);
        fault("m[1]+[1]+[1]+[1]+[1]+[1]+[1](1=1)", 1);
        due.terms("5: the E of a CLAUSE stands ahead of its (");
        fault("m[[[[[[1]]]]]]((((((1=1))))))", 1);
        fault("m1((((((1=1))))));f[[[[[[1]]]]]](!!!!!1=1)", 2);
        due.terms("5 only where it can stand");
        fault("m[[[[[[1[", -1008);
        fault("m[[[[[[(", -1007);
        fault("m1((((((1=(", -1010);
        fault("m1((((((1=!", -1010);
        fault("m1(!!!!!1!", -1009);
    }

    private static void faultOfEnds() {
        due.terms("1: what is shut in another way");
        fault("m1(1=1]", -1006);
        fault("m[1)(1=1)", -1003);
        fault("m1(1=1))", -1007);
        fault("m1](1=1)", -1002);
        fault("m1(([1=1])", -1006);
        fault("m1()", -1003);
        fault("m1(1)", -1004);
        fault("m1(1=1&1)", -1008);
        fault("m[](1=1)", -1002);
        fault("m1((1=1)(1=1))", -1008);
        fault("m1(1=1!1=1)", -1006);
        fault("m1(1=1=1)", -1006);
    }

    private static void room() {
        due.terms("(1) lays m SLATES there, as far as there is ROOM");
        int[][] cases = {{9, 9, 9}, {9, 8, 9}, {9, 6, 9}, {9, 5, 8}, {9, 0, 3}, {2, 0, 2}, {3, 0, 3}, {4, 0, 3}, {0,
            0, 0}};
        for (int[] c : cases) {
            SlateSchool x = one("m3(1=1)", c[0], c[1]);
            x.hour(0);
            due.is("ROOM " + c[0] + ", SLATES " + c[1], x.roofIs(0, 1), c[2]);
        }
        due.terms("(1) by numbers");
        SlateSchool x = one("m3(a=0);m2(a=1&n=3)", 99, 0);
        x.apprentice(0);
        x.on(1, 0);
        x.hour(0);
        due.is("3, then 2", x.roofIs(0, 1), 5);
        due.terms("(1), then (2)");
        SlateSchool y = one("m2(a=1);f9(a=0)", 9, 0);
        y.apprentice(0);
        y.on(1, 0);
        due.is("what the later one laid falls", y.hour(0), 2);
    }

    private static void fallingAsFar() {
        due.terms("(2) lets fall f SLATES (asked once), as far as there are any");
        int[][] cases = {{0, 0}, {1, 1}, {2, 2}, {3, 3}, {4, 3}, {99, 3}};
        for (int[] c : cases) {
            SlateSchool x = one("f3(1=1)", 99, c[0]);
            due.is("SLATES " + c[0], x.hour(0), c[1]);
            due.is("SLATES " + c[0], x.roofIs(0, 1), c[0] - c[1]);
            due.is("it let fall", x.apprenticeIs(0, 4), c[1]);
            due.is("BROKEN", x.count(7), c[1]);
        }
        SlateSchool once = one("fn(1=1)", 99, 4);
        due.is("asked once", once.hour(0), 4);
        due.terms("(2) Each one, by numbers");
        SlateSchool x = one("f3(a=0);f9(a=1)", 99, 5);
        x.apprentice(0);
        x.on(1, 0);
        due.is("3, then 2", x.hour(0), 5);
        due.is("3", x.apprenticeIs(0, 4), 3);
        due.is("2", x.apprenticeIs(1, 4), 2);
        SlateSchool y = one("f2(a=0);fn(a=1)", 99, 6);
        y.apprentice(0);
        y.on(1, 0);
        y.hour(0);
        due.is("f is asked behind what fell ahead", y.apprenticeIs(1, 4), 4);
    }

    private static void ropes() {
        due.terms("(2) one fewer with a ROPE, not below 0");
        int[][] cases = {{0, 50, 0}, {1, 50, 0}, {2, 50, 1}, {9, 50, 8}, {3, 0, 0}, {3, 1, 0}, {3, 2, 1}, {3, 3, 2},
            {3, 4, 2}};
        for (int[] c : cases) {
            SlateSchool x = one("f" + c[0] + "(1=1)", 99, c[1]);
            x.gear(0, 0, true);
            due.is("f " + c[0] + " of " + c[1], x.hour(0), c[2]);
            due.is("f " + c[0] + " of " + c[1], x.roofIs(0, 1), c[1] - c[2]);
        }
        SlateSchool bound = one("f12(1=1)", 99, 50);
        bound.gear(0, 0, true);
        due.is("of the bound", bound.hour(0), 8);
    }

    private static void struck() {
        due.terms("(2) the MASTERS below that ROOF without an UMBRELLA, the one with fewest BRUISES (of like "
                + "ones the lowest)");
        SlateSchool x = one("f1(1=1)", 99, 99);
        for (int b = 0; b < 8; b++) {
            x.master(0, b == 1);
            x.below(b, b == 2 ? -1 : 0);
        }
        int[] order = {0, 3, 4, 5, 6, 7, 0, 3};
        for (int b : order) {
            int before = x.masterIs(b, 4);
            x.hour(0);
            due.is("MASTER " + b, x.masterIs(b, 4), before + 1);
        }
        due.is("with an UMBRELLA", x.masterIs(1, 4), 0);
        due.is("below none", x.masterIs(2, 4), 0);
        x.gear(1, 1, false);
        x.hour(0);
        x.hour(0);
        due.is("fewest: twice that one", x.masterIs(1, 4), 1 + 1);
        x.hour(0);
        due.is("then the next with one", x.masterIs(4, 4), 2);
        due.is("nothing was broken", x.count(7), 0);
    }

    private static void skillsFull() {
        due.terms("(2) learns l in its TRADE (99 at most)");
        SlateSchool x = withMaster("f1(1=1);l9(1=1)", 99, 99);
        pass(x, 10);
        due.is("90", x.apprenticeIs(0, 10), 90);
        Due.law(x, "f1(1=1);l8(1=1)");
        x.hour(0);
        due.is("98", x.apprenticeIs(0, 10), 98);
        x.keep();
        Due.law(x, "f1(1=1);l1(s=98)");
        x.hour(0);
        due.is("99", x.apprenticeIs(0, 10), 99);
        Due.law(x, "f1(1=1);l1(s=99);d7(s=99)");
        x.hour(0);
        due.is("99 at most", x.apprenticeIs(0, 10), 99);
        due.is("struck and owed all the same", x.owes(0, 0, 0) + x.masterIs(0, 4), 7 + 13);
        x.undo();
        Due.law(x, "f1(1=1);l2(1=1)");
        x.hour(0);
        due.is("98 and 2", x.apprenticeIs(0, 10), 99);
        Due.law(x, "f1(1=1);l9(1=1)");
        x.hour(0);
        due.is("99 and 9", x.apprenticeIs(0, 10), 99);
        due.is("no other TRADE", x.apprenticeIs(0, 11), 0);
        x.master(4, false);
        x.below(0, -1);
        x.below(1, 0);
        x.hour(0);
        due.is("another TRADE goes on", x.apprenticeIs(0, 14), 9);
        Due.law(x, "f9(s=108)");
        due.is("all together above 99", x.hour(0), 9);
    }

    private static void askedAhead() {
        due.terms("(2) l, d asked ahead of the BRUISE; it lies there no more when it is asked for");
        SlateSchool x = withMaster("f2(1=1);l1+h(1=1);d10*n+h(1=1)", 9, 5);
        x.hour(0);
        due.is("l 1, then 2", x.apprenticeIs(0, 10), 3);
        due.is("d 40, then 31", x.owes(0, 0, 0), 71);
        SlateSchool last = withMaster("f1(1=1);d5+n(1=1)", 9, 1);
        last.hour(0);
        due.is("the last one: n 0", last.owes(0, 0, 0), 5);
        SlateSchool t = withMaster("f1(1=1);d7(t=0)", 9, 5);
        t.hour(0);
        due.is("THE HOUR is not yet one more", t.owes(0, 0, 0), 7);
    }

    private static void windsGoRound() {
        due.terms("X = (25173 X + 13849) modulo 65536, X modulo 10");
        int[][] steps = {{0, 13849, 9}, {1, 39022, 2}, {2, 64195, 5}, {3, 23832, 2}, {65535, 54212, 2}, {32768, 46617,
            7},
            {25, 53350, 0}, {3915, 0, 0}, {33870, 65535, 5}};
        for (int[] s : steps) {
            SlateSchool x = one("fw(1=1)", 99, 99);
            x.seed(s[0]);
            due.is("wind of " + s[0], x.hours(1), s[2]);
            due.is("X of " + s[0], x.count(6), s[1]);
        }
        due.terms("X is THE SEED at first, 1");
        SlateSchool x = one("fw(1=1)", 99, 99);
        due.is("1", x.count(6), 1);
        due.terms("WINDS in each HOUR, also with SNOW");
        x.snow(0, true);
        due.is("snow", x.hours(1), 0);
        due.is("X", x.count(6), 39022);
        due.is("7, not 2", x.hours(1), 7);
        due.is("X", x.count(6), 61087);
    }

    private static void struckOrBroken() {
        due.terms("(2) if there is one; else it is BROKEN");
        SlateSchool x = withMaster("f2(1=1);d3(1=1)", 99, 99);
        x.hour(0);
        due.is("none is broken", x.count(7), 0);
        due.terms("LED: how often a SLATE of an APPRENTICE struck a MASTER");
        due.is("two", x.owes(0, 0, 1), 2);
        x.gear(1, 0, true);
        x.hour(0);
        due.is("umbrella: broken", x.count(7), 2);
        due.is("still two", x.owes(0, 0, 1), 2);
        due.is("it owes no more", x.owes(0, 0, 0), 6);
        due.is("let fall", x.apprenticeIs(0, 4), 4);
        x.gear(1, 0, false);
        x.below(0, -1);
        x.hour(0);
        due.is("below none: broken", x.count(7), 4);
        x.roof(9, 9, 0);
        x.below(0, 1);
        x.hour(0);
        due.is("below another: broken", x.count(7), 6);
        due.is("still two", x.masterIs(0, 4), 2);
    }
}
