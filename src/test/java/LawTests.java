/** Promise 10: THE LAW, its FAULTS, and what it is asked. */
public final class LawTests {
    public static void main(String[] args) {
        Due due = new Due();
        all(due);
        due.end();
    }

    static void all(Due due) {
        due.promise(10);
        refused(due);
        stays(due);
        faults(due);
        depths(due);
        clauses(due);
        reckoned(due);
        divided(due);
        letters(due);
        bounds(due);
    }

    private static void refused(Due due) {
        SlateSchool x = new SlateSchool();
        due.is("no tape", x.law(1), -1);
        Due.feed(x, "m1(1=1)");
        int[] bad = {0, -1, 21, 201, Integer.MIN_VALUE, Integer.MAX_VALUE};
        for (int n : bad) {
            due.is("n " + n, x.law(n), -1);
        }
        due.is("the tape stays", x.count(4), 20);
        due.is("no law", x.count(3), 0);
        due.is("law", x.law(7), 1);
        due.is("empty then", x.count(4), 0);
        for (int i = 0; i < 11; i++) {
            Due.feed(x, "m1(1=1)");
        }
        due.is("201", x.law(201), -1);
        due.is("220 stay", x.count(4), 220);
        due.is("200: a blank", x.law(200), -1007);
        due.is("empty then", x.count(4), 0);
        StringBuilder text = new StringBuilder("m");
        while (text.length() < 193) {
            text.append("1+");
        }
        text.append("11");
        text.append("(1=1)");
        due.is("length", text.length(), 200);
        due.is("200", Due.law(x, text.toString()), 1);
        x.roof(99, 0, 0);
        x.apprentice(0);
        x.on(0, 0);
        x.hour(0);
        due.is("it is asked whole", x.roofIs(0, 1), 9);
    }

    private static void stays(Due due) {
        SlateSchool x = new SlateSchool();
        x.roof(99, 0, 0);
        x.apprentice(0);
        x.on(0, 0);
        due.is("law", Due.law(x, "m2(1=1);m1(1=1)"), 2);
        due.is("fault", Due.law(x, "m3(1=1);m4(1=1);f1(a=1"), -1022);
        due.is("the text before", x.count(3), 2);
        x.hour(0);
        due.is("the text before", x.roofIs(0, 1), 2);
        due.is("in its place", Due.law(x, "m5(1=1)"), 1);
        x.hour(0);
        due.is("the new one", x.roofIs(0, 1), 7);
        due.is("one", x.count(3), 1);
    }

    private static void faults(Due due) {
        SlateSchool x = new SlateSchool();
        Object[][] rows = {
            {"", ""}, {"x", -1000}, {";", -1000}, {"M", -1000}, {"(1=1)", -1000}, {"m", -1001}, {"m(1=1)", -1001},
            {"mm(1=1)", -1001}, {"mf(1=1)", -1001}, {"m1", -1002}, {"m1)", -1002}, {"m1]", -1002}, {"m1=1", -1002},
            {"m1()", -1003}, {"m1(1)", -1004}, {"m1(1=)", -1005}, {"m1(=1)", -1003}, {"m1(1=1", -1006},
            {"m1(1=1;", -1006}, {"m1(1=1]", -1006}, {"m1(1=1)m", -1007}, {"m1(1=1))", -1007}, {"m1(1=1);", -1008},
            {"m1(1=1);;", -1008}, {"m1(1=1=1)", -1006}, {"m1(1<1>1)", -1006}, {"m1(1==1)", -1005},
            {"m1(1=1|)", -1007}, {"m1(1=1&)", -1007}, {"m1(1=1||1=1)", -1007}, {"m1(1=1&&1=1)", -1007},
            {"m1(1=1|&1=1)", -1007}, {"m1(!)", -1004}, {"m1(!1)", -1005}, {"m1(1!1)", -1004}, {"m1(1=!1)", -1005},
            {"m1((1)=1)", -1005}, {"m1(1=(1))", -1005}, {"m1((1=1)=1)", -1008}, {"m1((1=1)+1)", -1008},
            {"m(1)(1=1)", -1001}, {"m[1(1=1)", -1003}, {"m[1)(1=1)", -1003}, {"m[](1=1)", -1002},
            {"m1](1=1)", -1002}, {"m-1(1=1)", -1001}, {"m1+(1=1)", -1003}, {"m1++1(1=1)", -1003},
            {"m1*/1(1=1)", -1003}, {"m1a(1=1)", -1002}, {"m1[1](1=1)", -1002}, {"ma1(1=1)", -1002},
            {"m 1(1=1)", -1001}, {"m1(1 =1)", -1004}, {"m1(1=1) ", -1007}, {" m1(1=1)", -1000},
            {"m123456(1=1)", -2006}, {"m1(123456=1)", -2008}, {"m000000(1=1)", -2006}, {"m1(1=999999)", -2010},
            {"m1(c=1)", -1003}, {"m1(m=1)", -1003}, {"m1(f=1)", -1003}, {"m1(l=1)", -1003}, {"m1(d=1)", -1003},
            {"m1(\u00001=1)", -1003}, {"m1(1=1)\u0000", -1007}, {"m1(1=1);\u0000", -1008}, {"m1(\u00ff=1)", -1003},
            {"m1(1=1);x1(1=1)", -1008}, {"m1(1=1):m1(1=1)", -1007}, {"m1(1#1)", -1004}, {"m1[1=1]", -1002},
            {"m123456x", -2006}, {"x123456", -1000},
        };
        for (int i = 1; i < rows.length; i++) {
            due.is("fault of " + rows[i][0], Due.law(x, (String) rows[i][0]), (Integer) rows[i][1]);
            due.is("tape", x.count(4), 0);
        }
        due.is("no law", x.count(3), 0);
        String[] good = {"m1(1=1)", "f99999(a=b)", "lw+t*e-n(s<k|h>o&q=g)", "d[[1]]((1=1))", "m1(!!1=1)", "m1(!(1=1))",
            "m1(!1=1&!1=2|(1=1|1=1)&1=1)", "m00001(00000=0)", "m[a]*[b](1=1);f1(1=1);l1(1=1);d1(1=1)"};
        for (String text : good) {
            due.is("law " + text, Due.law(x, text) > 0, true);
        }
        due.is("four", x.count(3), 4);
    }

    private static void depths(Due due) {
        SlateSchool x = new SlateSchool();
        due.is("six [", Due.law(x, "m[[[[[[1]]]]]](1=1)"), 1);
        due.is("seven [", Due.law(x, "m[[[[[[[1]]]]]]](1=1)"), -5007);
        due.is("[ behind another", Due.law(x, "m[[[[[[1]]]]]]+[[[[[[1]]]]]](1=1)"), 1);
        due.is("six (", Due.law(x, "m1((((((1=1))))))"), 1);
        due.is("seven (", Due.law(x, "m1(((((((1=1)))))))"), -5008);
        due.is("( behind another", Due.law(x, "m1((((((1=1)))))|(((((1=1))))))"), 1);
        due.is("five ! in the (", Due.law(x, "m1(!!!!!1=1)"), 1);
        due.is("six !", Due.law(x, "m1(!!!!!!1=1)"), -5008);
        due.is("a ! is open till its piece ends", Due.law(x, "m1(!!!!!1=1&!!!!!1=1|!!!!!1=1)"), 1);
        due.is("! over ( ", Due.law(x, "m1(!!!!!(1=1))"), -5008);
        due.is("! over [", Due.law(x, "m1(!!!!![1]=1)"), -5008);
        due.is("! over the second [", Due.law(x, "m1(!!!!!1=[1])"), -5010);
        due.is("! four over [", Due.law(x, "m1(!!!![1]=[1])"), 1);
        due.is("mixed", Due.law(x, "m1(!(!([1=1))"), -1009);
        due.is("mixed", Due.law(x, "m1(!(!([1]=1)))"), 1);
        due.is("mixed, the seventh", Due.law(x, "m1(!(!([[1]]=1)))"), -5008);
        due.is("the clause's ( is shut", Due.law(x, "m1(1=1);m[[[[[[1]]]]]](1=1)"), 1 + 1);
        due.is("a seventh that can't stand there", Due.law(x, "m[[[[[[1[1"), -1008);
        due.is("a seventh ( that can't stand there", Due.law(x, "m1((((((1("), -1009);
        due.is("a seventh ! that can't stand there", Due.law(x, "m1((((((1!"), -1009);
        due.is("( where a factor is due", Due.law(x, "m1((((((1=("), -1010);
        due.is("( for a factor in [", Due.law(x, "m[[[[[[("), -1007);
    }

    private static void clauses(Due due) {
        SlateSchool x = new SlateSchool();
        String fourteen = "m1(1=1)";
        for (int i = 1; i < 14; i++) {
            fourteen = fourteen + ";m1(1=1)";
        }
        due.is("fourteen", Due.law(x, fourteen), 14);
        due.is("fourteen", x.count(3), 14);
        due.is("a fifteenth", Due.law(x, fourteen + ";f"), -4112);
        due.is("a fifteenth that can't stand there", Due.law(x, fourteen + ";x"), -1112);
        due.is("none behind the ;", Due.law(x, fourteen + ";"), -1112);
        due.is("still fourteen", x.count(3), 14);
    }

    /** What an APPRENTICE lays by an E is what the E is, if that is 0 to 9. */
    private static int laid(String law) {
        SlateSchool x = new SlateSchool();
        if (Due.law(x, law) < 0) {
            return -1;
        }
        x.roof(99, 0, 0);
        x.apprentice(0);
        x.on(0, 0);
        x.hour(0);
        return x.roofIs(0, 1);
    }

    private static void value(Due due, String e, int want) {
        due.is("E " + e, laid("m" + e + "(1=1)"), want);
    }

    private static void holds(Due due, String c, boolean want) {
        due.is("C " + c, laid("m1(" + c + ")"), want ? 1 : 0);
    }

    private static void reckoned(Due due) {
        value(due, "9-3-2", 4);
        value(due, "1+2*3", 7);
        value(due, "[1+2]*3", 9);
        value(due, "2*3+1", 7);
        value(due, "7/2*2", 6);
        value(due, "8/4/2", 1);
        value(due, "17%10", 7);
        value(due, "17%10%4", 3);
        value(due, "5-[3-1]", 3);
        value(due, "[0-7]/2+9", 6);
        value(due, "[0-7]%4+9", 6);
        value(due, "7%[0-4]", 3);
        value(due, "[0-7]*[0-1]", 7);
        value(due, "99999*99999/10000/100-1400", 9);
        value(due, "[32768*65536]/[0-1]/32768/[0-16384]", 4);
        value(due, "[32768*65536]%[0-1]+3", 3);
        value(due, "65536*32767+65535+65536*32767+65535+8", 6);
        holds(due, "1<2", true);
        holds(due, "2<2", false);
        holds(due, "2>1", true);
        holds(due, "2>2", false);
        holds(due, "2=2", true);
        holds(due, "2=1", false);
        holds(due, "1=2|1=1", true);
        holds(due, "1=2|1=3|1=1", true);
        holds(due, "1=2|1=3", false);
        holds(due, "1=1&1=2", false);
        holds(due, "1=1&1=1&1=1", true);
        holds(due, "1=1&1=1&1=2", false);
        holds(due, "1=2&1=1|1=1", true);
        holds(due, "1=1|1=1&1=2", true);
        holds(due, "(1=1|1=1)&1=2", false);
        holds(due, "!1=2", true);
        holds(due, "!1=1", false);
        holds(due, "!!1=1", true);
        holds(due, "!1<2", false);
        holds(due, "!2>1", false);
        holds(due, "!2<1", true);
        holds(due, "!1>2", true);
        holds(due, "!1=2&1=2", false);
        holds(due, "!(1=2&1=2)", true);
        holds(due, "!1=1|1=1", true);
        due.is("the first whose C holds", laid("m2(1=2);m3(1=1);m4(1=1)"), 3);
        due.is("of its kind", laid("f2(1=1);m3(1=1)"), 3 + 0 - 2);
        due.is("none", laid("m3(1=2)"), 0);
    }

    private static void divided(Due due) {
        value(due, "5/0", 0);
        value(due, "5%0", 0);
        value(due, "5+1/0", 0);
        value(due, "5+1%[1-1]", 0);
        due.is("the whole E, and no other", laid("m5+1/0(1=1);m3(1=1)"), 0);
        due.is("the whole C", laid("m5(!1/0=1);m3(1=1)"), 3);
        holds(due, "1/0=0", false);
        holds(due, "1%0=0", false);
        holds(due, "!(1/0=0)", false);
        holds(due, "1/0=0|1=1", false);
        holds(due, "1=1|1/0=0", true);
        holds(due, "1=2&1/0=0|1=1", true);
        holds(due, "1=1&1/0=0|1=1", false);
        holds(due, "!(1=1|1/0=0)|1=1", true);
        holds(due, "!(1=2|1/0=0)|1=1", false);
        holds(due, "(1=2|1=1)&(1=1|1/0=1)", true);
        holds(due, "1=2&(1=1|1=1)&1/0=0|(1=2|1=1)", true);
    }

    private static void letters(Due due) {
        SlateSchool x = new SlateSchool();
        for (int q = 0; q < 4; q++) {
            x.roof(99, 0, 7);
        }
        for (int a = 0; a < 3; a++) {
            x.apprentice(8 - a);
        }
        x.on(2, 3);
        x.gear(0, 2, true);
        String[] asked = {"a", "g", "o", "q", "e", "t", "w", "n", "b+k+h", "s"};
        int[] want = {2, 6, 1, 3, 7, 5, 4, 8, 0, 0};
        for (int i = 0; i < 5; i++) {
            x.hour(0);
        }
        Due.law(x, "m8(1=1)");
        x.hour(0);
        x.keep();
        for (int i = 0; i < asked.length; i++) {
            x.undo();
            Due.law(x, "m" + asked[i] + "(1=1)");
            if (asked[i].equals("t")) {
                want[i]++;
            }
            x.hour(4);
            due.is("letter " + asked[i] + " in m", x.roofIs(3, 1), 8 + want[i]);
            x.undo();
            Due.law(x, "f1+" + asked[i] + "(1=1)");
            due.is("letter " + asked[i] + " in f", x.hour(4), Math.min(8, 1 + want[i]) - 1);
        }
        lettersOfMasters(due);
    }

    private static void lettersOfMasters(Due due) {
        SlateSchool x = new SlateSchool();
        x.roof(99, 60, 5);
        x.apprentice(3);
        x.on(0, 0);
        x.master(0, true);
        x.master(2, false);
        x.master(4, false);
        x.below(1, 0);
        Due.law(x, "f3(1=1);l2(1=1)");
        x.hour(0);
        x.below(1, -1);
        x.below(2, 0);
        Due.law(x, "f1(1=1);l4(1=1)");
        x.hour(0);
        Due.law(x, "f1(1=1);l1(s=4&b=2&k=4&h=1&t=2&w=9&n=55&q=0&a=0&e=5&g=3&o=0);ds*10+h(b=2)");
        x.hour(9);
        due.is("l", x.apprenticeIs(0, 14), 5);
        due.is("d", x.owes(0, 2, 0), 41);
        Due.law(x, "f2-b-k-h(1=1);m1+b+k+h(1=1)");
        x.on(0, -1);
        x.on(0, 0);
        x.keep();
        due.is("no master in m and f, not the one struck before", x.hour(0), 2);
        due.is("no master in m and f, not the one struck before", x.roofIs(0, 1), 55 + 1 - 2);
        x.undo();
        Due.law(x, "f1(s=11)");
        due.is("all trades together in f", x.hour(0), 1);
        Due.law(x, "ms-10(s=11)");
        x.hour(0);
        due.is("all trades together in m", x.roofIs(0, 1), 60 - 6 + 1);
    }

    private static void bounds(Due due) {
        value(due, "9", 9);
        value(due, "10", 9);
        value(due, "99999", 9);
        value(due, "0-1", 0);
        value(due, "0-99999", 0);
        SlateSchool x = new SlateSchool();
        x.roof(99, 99, 0);
        x.apprentice(0);
        x.on(0, 0);
        x.master(0, false);
        x.below(0, 0);
        Due.law(x, "f99(1=1)");
        due.is("f 9 at most", x.hour(0), 9);
        Due.law(x, "f0-5(1=1)");
        due.is("f not below 0", x.hour(0), 0);
        Due.law(x, "f1(1=1);l10(1=1);d100(1=1)");
        x.hour(0);
        due.is("l 9 at most", x.apprenticeIs(0, 10), 9);
        due.is("d 99 at most", x.owes(0, 0, 0), 99);
        Due.law(x, "f1(1=1);l0-3(1=1);d0-3(1=1)");
        x.hour(0);
        due.is("l not below 0", x.apprenticeIs(0, 10), 9);
        due.is("d not below 0", x.owes(0, 0, 0), 99);
    }
}
