import java.util.Random;

/** Runs of calls drawn from told seeds: the class and the Model answer alike. */
public final class ModelTests {
    private static final String[] FACTORS = {"a", "g", "s", "o", "q", "n", "e", "t", "w", "b", "k", "h"};
    private static final int[] EXTREMES = {Integer.MIN_VALUE, -10000, -3, -2, -1, 10, 11, 12, 40, 41, 99, 100, 255, 256,
        65535, 65536, Integer.MAX_VALUE};
    // an object is used for so many; one step takes fewer than thirty
    private static final int MOST_CALLS = 512;
    private final Random random;
    private final SlateSchool x = new SlateSchool();
    private final Model model = new Model();
    private final StringBuilder run = new StringBuilder();
    private boolean wrong = false;
    private boolean isLively = false;
    private int calls = 0;

    private ModelTests(int number) {
        random = new Random(number);
    }

    public static void main(String[] args) {
        int runs = args.length > 0 ? Integer.parseInt(args[0]) : 1000;
        int from = args.length > 1 ? Integer.parseInt(args[1]) : 0;
        int wrongRuns = 0;
        for (int i = from; i < from + runs; i++) {
            ModelTests test = new ModelTests(i);
            if (!test.isRight()) {
                wrongRuns++;
                System.out.println("run " + i + ":\n" + test.run);
            }
            if (wrongRuns >= 3) {
                break;
            }
        }
        System.out.println(runs + " runs, " + wrongRuns + " not alike");
        if (wrongRuns != 0) {
            System.exit(1);
        }
    }

    private boolean isRight() {
        if (random.nextInt(4) == 0) {
            fight();
            return !wrong;
        }
        boolean isOrdinary = random.nextInt(8) > 0;
        isLively = random.nextInt(3) > 0;
        if (isOrdinary) {
            begin();
        }
        for (int i = 0; i < MOST_CALLS && calls < MOST_CALLS - 30 && !wrong; i++) {
            callOne();
            if (run.length() > 20000) {
                run.delete(0, 10000);
            }
        }
        return !wrong;
    }

    /** Told twos strike one another, so that LENT, SETTLED and THE CHAIN have many ways. */
    private void fight() {
        law("m9(1=1);f1(1=1);d" + (random.nextBoolean() ? "5" : "1+a%2+b%3") + "(1=1)");
        same("roof", x.roof(99, 99, 0), model.roof(99, 99, 0), 99, 99, 0);
        int apprentices = 2 + random.nextInt(7);
        int masters = 2 + random.nextInt(7);
        for (int i = 0; i < apprentices; i++) {
            same("apprentice", x.apprentice(i), model.apprentice(i), i);
        }
        for (int i = 0; i < masters; i++) {
            same("master", x.master(i % 5, false), model.master(i % 5, false), i % 5, 0);
        }
        int strikes = 2 + random.nextInt(12);
        for (int i = 0; i < strikes; i++) {
            int a = random.nextInt(apprentices);
            int b = random.nextInt(masters);
            on(a, 0);
            below(b, 0);
            same("hour", x.hour(0), model.hour(0), 0);
            on(a, -1);
            below(b, -1);
            settledBoth();
        }
        for (int b = 0; b < masters; b++) {
            for (int c = 0; c < masters; c++) {
                int place = random.nextInt(5) - 1;
                same("chain", x.chain(b, c, place), model.chain(b, c, place), b, c, place);
            }
        }
        for (int k = 1; k < 4; k++) {
            for (int what = 0; what < masters; what++) {
                same("lent", x.lent(k, what), model.lent(k, what), k, what);
            }
        }
        same("lent", x.lent(1, 11), model.lent(1, 11), 1, 11);
        for (int a = 0; a < apprentices; a++) {
            same("apprenticeIs", x.apprenticeIs(a, 2), model.apprenticeIs(a, 2), a, 2);
        }
    }

    private void settledBoth() {
        same("settled", x.settled(0), model.settled(0), 0);
        same("settled", x.settled(1), model.settled(1), 1);
    }

    private void begin() {
        int roofs = 1 + random.nextInt(4);
        int apprentices = 1 + random.nextInt(5);
        int masters = 1 + random.nextInt(5);
        for (int i = 0; i < roofs; i++) {
            int room = isLively && i > 0 ? 60 + random.nextInt(40) : random.nextInt(100);
            int slates = random.nextInt(room + 1);
            int steep = random.nextInt(10);
            same("roof", x.roof(room, slates, steep), model.roof(room, slates, steep), room, slates, steep);
        }
        for (int i = 0; i < apprentices; i++) {
            int grip = random.nextInt(10);
            same("apprentice", x.apprentice(grip), model.apprentice(grip), grip);
            on(i, random.nextInt(roofs));
        }
        for (int i = 0; i < masters; i++) {
            int trade = random.nextInt(5);
            boolean umbrella = random.nextInt(5) == 0;
            same("master", x.master(trade, umbrella), model.master(trade, umbrella), trade, umbrella ? 1 : 0);
            below(i, random.nextInt(roofs));
        }
        law(lawText());
    }

    private void same(String call, long got, long want, int... with) {
        calls++;
        run.append(call).append('(');
        for (int i = 0; i < with.length; i++) {
            run.append(i > 0 ? ", " : "").append(with[i]);
        }
        run.append(") = ").append(got);
        if (got != want) {
            wrong = true;
            run.append(", the model: ").append(want);
        }
        run.append('\n');
    }

    private void same(String call, boolean got, boolean want, int... with) {
        same(call, got ? 1 : 0, want ? 1 : 0, with);
    }

    /** Mostly a number below the bound, at times one beyond it. */
    private int num(int from, int to) {
        if (random.nextInt(40) == 0) {
            return EXTREMES[random.nextInt(EXTREMES.length)];
        }
        return from + random.nextInt(to - from + 1);
    }

    private int app() {
        int n = model.count(1);
        return n > 0 && random.nextInt(15) > 0 ? random.nextInt(n) : num(-1, 8);
    }

    private int mas() {
        int n = model.count(2);
        return n > 0 && random.nextInt(15) > 0 ? random.nextInt(n) : num(-1, 8);
    }

    private int rof() {
        int n = model.count(0);
        return n > 0 && random.nextInt(15) > 0 ? random.nextInt(n) : num(-1, 10);
    }

    private void callOne() {
        int kind = random.nextInt(100);
        if (kind < 25) {
            change(isLively && random.nextInt(6) > 0 ? 3 + random.nextInt(6) : random.nextInt(12));
        } else if (kind < 45) {
            pass(random.nextInt(6));
        } else if (kind < 75) {
            look(random.nextInt(9));
        } else if (kind < 95) {
            search(random.nextInt(8));
        } else {
            taped(random.nextInt(4));
        }
    }

    private void on(int a, int q) {
        same("on", x.on(a, q), model.on(a, q), a, q);
    }

    private void below(int b, int q) {
        same("below", x.below(b, q), model.below(b, q), b, q);
    }

    private void change(int which) {
        boolean flag = random.nextBoolean();
        int a = num(-1, 10);
        int b = num(-1, 10);
        int c = num(-1, 10);
        switch (which) {
            case 0: same("roof", x.roof(a * 10, b * 9, c), model.roof(a * 10, b * 9, c), a * 10, b * 9, c); break;
            case 1: same("apprentice", x.apprentice(a), model.apprentice(a), a); break;
            case 2: same("master", x.master(a / 2, flag), model.master(a / 2, flag), a / 2, flag ? 1 : 0); break;
            case 3: case 4: case 5: on(app(), random.nextInt(6) == 0 ? -1 : rof()); break;
            case 6: case 7: case 8: below(mas(), random.nextInt(6) == 0 ? -1 : rof()); break;
            case 9: case 10:
                int what = num(0, 1);
                int i = what == 0 ? app() : mas();
                same("gear", x.gear(what, i, flag), model.gear(what, i, flag), what, i, flag ? 1 : 0);
                break;
            default:
                int hour = random.nextBoolean() ? num(-1, 100) : model.count(5) + random.nextInt(10);
                same("snow", x.snow(hour, flag), model.snow(hour, flag), hour, flag ? 1 : 0);
        }
    }

    private void pass(int which) {
        switch (which) {
            case 0:
                int n = num(0, random.nextInt(8) == 0 ? 41 : 3);
                same("hours", x.hours(n), model.hours(n), n);
                break;
            case 1: case 2:
                int wind = num(-1, 10);
                same("hour", x.hour(wind), model.hour(wind), wind);
                break;
            case 3:
                int seed = random.nextInt(4) == 0 ? num(-1, 65536) : random.nextInt(65536);
                same("seed", x.seed(seed), model.seed(seed), seed);
                break;
            case 4:
                if (random.nextInt(3) == 0) {
                    same("keep", x.keep(), model.keep());
                } else {
                    same("undo", x.undo(), model.undo());
                }
                break;
            default:
                if (random.nextInt(6) == 0) {
                    law(lawText());
                }
        }
    }

    private void look(int which) {
        int what = num(-1, 15);
        int a = app();
        int b = mas();
        int c = mas();
        int q = rof();
        int far = random.nextInt(12) == 0 ? num(0, 220) : num(-1, 10);
        switch (which) {
            case 0: same("roofIs", x.roofIs(q, what), model.roofIs(q, what), q, what); break;
            case 1: same("apprenticeIs", x.apprenticeIs(a, what), model.apprenticeIs(a, what), a, what); break;
            case 2: same("masterIs", x.masterIs(b, what), model.masterIs(b, what), b, what); break;
            case 3: same("owes", x.owes(a, b, what / 6), model.owes(a, b, what / 6), a, b, what / 6); break;
            case 4: same("teachers", x.teachers(a), model.teachers(a), a); break;
            case 5: same("count", x.count(far), model.count(far), far); break;
            case 6: same("settled", x.settled(what / 6), model.settled(what / 6), what / 6); break;
            default:
                int place = what / 3 - 1;
                same("chain", x.chain(b, c, place), model.chain(b, c, place), b, c, place);
        }
    }

    private void search(int which) {
        int n = num(0, 6);
        int what = num(-1, 2);
        switch (which) {
            case 0:
                int aim = num(0, random.nextBoolean() ? 3 : 29);
                same("tried", x.tried(n * 2, aim), model.tried(n * 2, aim), n * 2, aim);
                break;
            case 1: case 2:
                int bits = random.nextInt(10) == 0 ? num(-1, 256) : 1 << random.nextInt(4) | 1 << random.nextInt(4);
                int row = random.nextInt(3) == 0 ? Integer.numberOfTrailingZeros(bits | 256) : num(10, 12);
                int dome = rof();
                int within = random.nextInt(3) > 0 ? 8 + n * 2 : n;
                same("set", x.set(bits, dome, within, row), model.set(bits, dome, within, row), bits, dome, within, row);
                break;
            case 3:
                int k = random.nextInt(4);
                int part = random.nextInt(3);
                same("free", x.free(n, k, part), model.free(n, k, part), n, k, part);
                break;
            case 4:
                int kind = random.nextInt(6) > 0 ? random.nextInt(2) : what;
                int i = kind == 0 ? app() : mas();
                same("worth", x.worth(kind, i, n * 2), model.worth(kind, i, n * 2), kind, i, n * 2);
                break;
            case 5:
                int to = random.nextBoolean() ? mas() : num(9, 12);
                same("lent", x.lent(n, to), model.lent(n, to), n, to);
                break;
            case 6: letGo(app(), num(1, 3), num(-1, 1)); break;
            default:
                int b = mas();
                int least = Math.max(0, model.masterIs(b, 4)) + num(0, 8);
                int hours = random.nextInt(20) == 0 ? 3 : num(1, 2);
                int line = random.nextInt(2);
                same("odds", x.odds(b, hours, least, line), model.odds(b, hours, least, line), b, hours, least, line);
        }
    }

    /** Half of the time what is told is what a two there does. */
    private void letGo(int a, int n, int what) {
        same("check", x.check(0), model.check(0), 0);
        int[] bytes = new int[20];
        int masters = model.count(2);
        for (int b = 0; b < masters && n > 0 && n < 7; b++) {
            int more = model.tried(n, 20 + b) - model.masterIs(b, 4);
            bytes[b] = random.nextInt(12) > 0 ? more : random.nextInt(4);
        }
        feed(four(bytes, 0), four(bytes, 4), four(bytes, 8), four(bytes, 12), four(bytes, 16));
        same("letGo", x.letGo(a, n, what), model.letGo(a, n, what), a, n, what);
        same("count", x.count(4), model.count(4), 4);
    }

    private static int four(int[] bytes, int from) {
        return bytes[from] << 24 | bytes[from + 1] << 16 | bytes[from + 2] << 8 | bytes[from + 3];
    }

    private void feed(int a, int b, int c, int d, int e) {
        same("feed", x.feed(a, b, c, d, e), model.feed(a, b, c, d, e), a, b, c, d, e);
    }

    private void taped(int which) {
        int n = num(-1, 11);
        switch (which) {
            case 0:
                feed(slates(0), slates(1), slates(2), slates(3), slates(4));
                break;
            case 1:
                feed(slates(0), slates(1), slates(2), slates(3), slates(4));
                feed(slates(5), slates(6), slates(7), slates(8), slates(9));
                same("check", x.check(n), model.check(n), n);
                break;
            case 2:
                int length = num(0, 40);
                same("law", x.law(length), model.law(length), length);
                break;
            default: same("check", x.check(n), model.check(n), n);
        }
    }

    private int slates(int q) {
        return random.nextInt(20) == 0 ? random.nextInt() : model.roofIs(q, 1);
    }

    private void law(String text) {
        same("check", x.check(0), model.check(0), 0);
        for (int from = 0; from < text.length(); from += 20) {
            int[] bytes = new int[20];
            for (int i = 0; i < 20; i++) {
                bytes[i] = from + i < text.length() ? text.charAt(from + i) : ' ';
            }
            feed(four(bytes, 0), four(bytes, 4), four(bytes, 8), four(bytes, 12), four(bytes, 16));
        }
        run.append(text).append('\n');
        same("law", x.law(text.length()), model.law(text.length()), text.length());
        same("count", x.count(3), model.count(3), 3);
    }

    /** Of each kind a CLAUSE or two, the last one always holding: so that much happens. */
    private String livelyText() {
        String[] small = {"1", "2", "a%3+1", "[w+a]%4", "g/3", "[n+q]%3", "w/4+o", "h%3+1", "b+k", "e/4", "[s+t]%5",
            "2+s/9", "5%w", "w-3"};
        StringBuilder text = new StringBuilder();
        for (int i = 0; i < 4; i++) {
            if (random.nextInt(3) == 0) {
                text.append("mfld".charAt(i)).append(small[random.nextInt(small.length)]).append('(');
                int from = text.length();
                condition(text, 1);
                if (text.length() > from + 20) {
                    text.setLength(from);
                    text.append("w>a+4");
                }
                text.append(");");
            }
            if (i > 0 || random.nextInt(3) > 0) {
                text.append("mfld".charAt(i)).append(small[random.nextInt(small.length)]).append("(1=1);");
            }
        }
        text.setLength(text.length() - 1);
        return text.toString();
    }

    private String lawText() {
        if (isLively && random.nextInt(4) > 0) {
            return livelyText();
        }
        StringBuilder text = new StringBuilder();
        int clauses = random.nextInt(30) == 0 ? 16 : 1 + random.nextInt(7);
        for (int i = 0; i < clauses; i++) {
            text.append(i > 0 ? ";" : "").append("mffld".charAt(random.nextInt(5)));
            if (random.nextBoolean()) {
                text.append(random.nextInt(10));
            } else {
                sum(text, 0);
            }
            text.append('(');
            if (random.nextInt(3) == 0) {
                text.append("1=1");
            } else {
                condition(text, 1);
            }
            text.append(')');
        }
        if (random.nextInt(4) == 0) {
            int at = random.nextInt(text.length());
            String signs = "mfldagsoqnetwbkh0123456789[](!&|<>=+-*/%);x\u0000\u00ff ";
            char sign = signs.charAt(random.nextInt(signs.length()));
            switch (random.nextInt(3)) {
                case 0: text.setCharAt(at, sign); break;
                case 1: text.insert(at, sign); break;
                default: text.deleteCharAt(at);
            }
        }
        if (text.length() > 200 || text.length() == 0) {
            return text.length() == 0 ? "m1(1=1)" : text.substring(0, 200);
        }
        return text.toString();
    }

    private void condition(StringBuilder text, int open) {
        int pieces = 1 + random.nextInt(3) * random.nextInt(2);
        for (int i = 0; i < pieces; i++) {
            if (i > 0) {
                text.append(random.nextBoolean() ? '|' : '&');
            }
            piece(text, open);
        }
    }

    private void piece(StringBuilder text, int open) {
        int kind = random.nextInt(6);
        if (kind == 0 && open < 8) {
            text.append('!');
            piece(text, open + 1);
        } else if (kind == 1 && open < 8) {
            text.append('(');
            condition(text, open + 1);
            text.append(')');
        } else {
            sum(text, open);
            text.append("<>=".charAt(random.nextInt(3)));
            sum(text, open);
        }
    }

    private void sum(StringBuilder text, int open) {
        int factors = 1 + random.nextInt(3) * random.nextInt(2);
        for (int i = 0; i < factors; i++) {
            if (i > 0) {
                text.append("+-*/%+".charAt(random.nextInt(6)));
            }
            int kind = random.nextInt(8);
            if (kind == 0 && open < 8) {
                text.append('[');
                sum(text, open + 1);
                text.append(']');
            } else if (kind < 4) {
                text.append(random.nextInt(kind == 1 ? 200000 : 8));
            } else {
                text.append(FACTORS[random.nextInt(FACTORS.length)]);
            }
        }
    }
}
