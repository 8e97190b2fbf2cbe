import java.util.ArrayList;
import java.util.Arrays;
import java.util.HashMap;
import java.util.List;
import java.util.Map;

/** The document once more, written as plainly as can be and in another way than the class: to compare with. */
final class Model {
    private static final class Refused extends RuntimeException {
        Refused() {
            super(null, null, false, false);
        }
    }

    private static final class Fault extends RuntimeException {
        final int answer;

        Fault(int number, int place) {
            super(null, null, false, false);
            answer = -1000 * number - place;
        }
    }

    private interface Value {
        int of(Map<Character, Integer> letters);
    }

    private interface Condition {
        boolean of(Map<Character, Integer> letters);
    }

    private record Clause(char kind, Value value, Condition condition) {
    }

    private static final class Roof {
        int room;
        int slates;
        int steep;
    }

    private static final class Apprentice {
        int roof = 10;
        int grip;
        int fell;
        boolean rope;
        int[] skill = new int[5];
        int[] owed = new int[8];
        int[] struck = new int[8];
    }

    private static final class Master {
        int roof = 10;
        int trade;
        int bruises;
        boolean umbrella;
    }

    private static final class World {
        List<Roof> roofs = new ArrayList<>();
        List<Apprentice> apprentices = new ArrayList<>();
        List<Master> masters = new ArrayList<>();
        boolean[] snow = new boolean[100];
        List<Integer> tape = new ArrayList<>();
        int hour;
        int broken;
        int x = 1;

        World copy() {
            World w = new World();
            for (Roof r : roofs) {
                Roof s = new Roof();
                s.room = r.room;
                s.slates = r.slates;
                s.steep = r.steep;
                w.roofs.add(s);
            }
            for (Apprentice a : apprentices) {
                Apprentice c = new Apprentice();
                c.roof = a.roof;
                c.grip = a.grip;
                c.fell = a.fell;
                c.rope = a.rope;
                c.skill = a.skill.clone();
                c.owed = a.owed.clone();
                c.struck = a.struck.clone();
                w.apprentices.add(c);
            }
            for (Master m : masters) {
                Master c = new Master();
                c.roof = m.roof;
                c.trade = m.trade;
                c.bruises = m.bruises;
                c.umbrella = m.umbrella;
                w.masters.add(c);
            }
            w.snow = snow.clone();
            w.tape = new ArrayList<>(tape);
            w.hour = hour;
            w.broken = broken;
            w.x = x;
            return w;
        }

        int bruises() {
            return masters.stream().mapToInt(m -> m.bruises).sum();
        }

        int slates() {
            return roofs.stream().mapToInt(r -> r.slates).sum();
        }
    }

    /** A text read by descent; the first sign that can't stand ends it. */
    private static final class Text {
        final String text;
        int at;

        Text(String text) {
            this.text = text;
        }

        boolean is(String signs) {
            return at < text.length() && signs.indexOf(text.charAt(at)) >= 0;
        }

        char take(String signs) {
            if (!is(signs)) {
                throw new Fault(1, at);
            }
            return text.charAt(at++);
        }

        char open(String sign, int depth) {
            if (is(sign) && depth > 6) {
                throw new Fault(5, at);
            }
            return take(sign);
        }

        List<Clause> law() {
            List<Clause> clauses = new ArrayList<>();
            do {
                if (clauses.size() > 0) {
                    take(";");
                }
                if (is("mfld") && clauses.size() == 14) {
                    throw new Fault(4, at);
                }
                char kind = take("mfld");
                Value value = sum(0);
                open("(", 1);
                Condition condition = condition(1);
                take(")");
                clauses.add(new Clause(kind, value, condition));
            } while (at < text.length());
            return clauses;
        }

        Condition condition(int depth) {
            Condition left = part(depth);
            if (!is("|")) {
                return left;
            }
            take("|");
            Condition right = condition(depth);
            return m -> left.of(m) || right.of(m);
        }

        Condition part(int depth) {
            Condition left = piece(depth);
            if (!is("&")) {
                return left;
            }
            take("&");
            Condition right = part(depth);
            return m -> left.of(m) && right.of(m);
        }

        Condition piece(int depth) {
            if (is("!")) {
                open("!", depth + 1);
                Condition of = piece(depth + 1);
                return m -> !of.of(m);
            }
            if (is("(")) {
                open("(", depth + 1);
                Condition of = condition(depth + 1);
                take(")");
                return of;
            }
            Value left = sum(depth);
            char sign = take("<>=");
            Value right = sum(depth);
            return m -> {
                int l = left.of(m);
                int r = right.of(m);
                return sign == '<' ? l < r : sign == '>' ? l > r : l == r;
            };
        }

        Value sum(int depth) {
            Value sum = term(depth);
            while (is("+-")) {
                Value left = sum;
                char sign = take("+-");
                Value right = term(depth);
                sum = m -> sign == '+' ? left.of(m) + right.of(m) : left.of(m) - right.of(m);
            }
            return sum;
        }

        Value term(int depth) {
            Value term = factor(depth);
            while (is("*/%")) {
                Value left = term;
                char sign = take("*/%");
                Value right = factor(depth);
                term = m -> {
                    int l = left.of(m);
                    int r = right.of(m);
                    if (sign != '*' && r == 0) {
                        throw new Refused();
                    }
                    return sign == '*' ? l * r : sign == '/' ? l / r : l % r;
                };
            }
            return term;
        }

        Value factor(int depth) {
            if (is("[")) {
                open("[", depth + 1);
                Value value = sum(depth + 1);
                take("]");
                return value;
            }
            if (is("0123456789")) {
                int from = at;
                while (is("0123456789")) {
                    if (at - from == 5) {
                        throw new Fault(2, at);
                    }
                    at++;
                }
                int number = Integer.parseInt(text.substring(from, at));
                return m -> number;
            }
            char letter = take("agsoqnetwbkh");
            return m -> m.get(letter);
        }
    }

    private World world = new World();
    private World kept;
    private List<Clause> law = List.of();

    private int ask(char kind, int most, Map<Character, Integer> letters) {
        for (Clause clause : law) {
            if (clause.kind() != kind) {
                continue;
            }
            boolean holds;
            try {
                holds = clause.condition().of(letters);
            } catch (Refused refused) {
                holds = false;
            }
            if (holds) {
                try {
                    return Math.max(0, Math.min(most, clause.value().of(letters)));
                } catch (Refused refused) {
                    return 0;
                }
            }
        }
        return 0;
    }

    private Map<Character, Integer> letters(World w, int a, int wind, int b) {
        Apprentice who = w.apprentices.get(a);
        Roof roof = w.roofs.get(who.roof);
        Map<Character, Integer> m = new HashMap<>();
        m.put('a', a);
        m.put('g', who.grip);
        m.put('o', who.rope ? 1 : 0);
        m.put('q', who.roof);
        m.put('n', roof.slates);
        m.put('e', roof.steep);
        m.put('t', w.hour);
        m.put('w', wind);
        if (b < 0) {
            m.put('s', Arrays.stream(who.skill).sum());
            m.put('b', 0);
            m.put('k', 0);
            m.put('h', 0);
        } else {
            Master master = w.masters.get(b);
            m.put('s', who.skill[master.trade]);
            m.put('b', b);
            m.put('k', master.trade);
            m.put('h', master.bruises);
        }
        return m;
    }

    private int pass(World w, int wind) {
        int fallen = 0;
        if (w.hour >= 100 || !w.snow[w.hour]) {
            for (int a = 0; a < w.apprentices.size(); a++) {
                if (w.apprentices.get(a).roof < 10) {
                    Roof roof = w.roofs.get(w.apprentices.get(a).roof);
                    roof.slates = Math.min(roof.room, roof.slates + ask('m', 9, letters(w, a, wind, -1)));
                }
            }
            for (int a = 0; a < w.apprentices.size(); a++) {
                if (w.apprentices.get(a).roof < 10) {
                    fallen += fall(w, a, wind);
                }
            }
        }
        w.hour++;
        return fallen;
    }

    private int fall(World w, int a, int wind) {
        Apprentice who = w.apprentices.get(a);
        Roof roof = w.roofs.get(who.roof);
        int n = Math.min(ask('f', 9, letters(w, a, wind, -1)), roof.slates);
        n = who.rope ? Math.max(0, n - 1) : n;
        for (int i = 0; i < n; i++) {
            roof.slates--;
            who.fell++;
            int struck = -1;
            for (int b = w.masters.size() - 1; b >= 0; b--) {
                Master m = w.masters.get(b);
                if (m.roof == who.roof && !m.umbrella && (struck < 0 || m.bruises <= w.masters.get(struck).bruises)) {
                    struck = b;
                }
            }
            if (struck < 0) {
                w.broken++;
                continue;
            }
            Map<Character, Integer> letters = letters(w, a, wind, struck);
            Master m = w.masters.get(struck);
            who.owed[struck] += ask('d', 99, letters);
            who.skill[m.trade] = Math.min(99, who.skill[m.trade] + ask('l', 9, letters));
            who.struck[struck]++;
            m.bruises++;
        }
        return n;
    }

    private int draw(World w) {
        w.x = (25173 * w.x + 13849) % 65536;
        return w.x % 10;
    }

    private int passAll(World w, int n) {
        int fallen = 0;
        for (int i = 0; i < n; i++) {
            fallen += pass(w, draw(w));
        }
        return fallen;
    }

    private static boolean in(int value, int from, int to) {
        return from <= value && value <= to;
    }

    private boolean isRoof(int q) {
        return in(q, 0, world.roofs.size() - 1);
    }

    private boolean isApprentice(int a) {
        return in(a, 0, world.apprentices.size() - 1);
    }

    private boolean isMaster(int b) {
        return in(b, 0, world.masters.size() - 1);
    }

    int roof(int room, int slates, int steep) {
        if (!in(room, 0, 99) || !in(slates, 0, room) || !in(steep, 0, 9) || world.roofs.size() == 10) {
            return -1;
        }
        Roof roof = new Roof();
        roof.room = room;
        roof.slates = slates;
        roof.steep = steep;
        world.roofs.add(roof);
        return world.roofs.size() - 1;
    }

    int apprentice(int grip) {
        if (!in(grip, 0, 9) || world.apprentices.size() == 8) {
            return -1;
        }
        Apprentice a = new Apprentice();
        a.grip = grip;
        world.apprentices.add(a);
        return world.apprentices.size() - 1;
    }

    int master(int trade, boolean umbrella) {
        if (!in(trade, 0, 4) || world.masters.size() == 8) {
            return -1;
        }
        Master m = new Master();
        m.trade = trade;
        m.umbrella = umbrella;
        world.masters.add(m);
        return world.masters.size() - 1;
    }

    boolean on(int a, int roof) {
        if (!isApprentice(a) || roof != -1 && !isRoof(roof)) {
            return false;
        }
        world.apprentices.get(a).roof = roof == -1 ? 10 : roof;
        return true;
    }

    boolean below(int b, int roof) {
        if (!isMaster(b) || roof != -1 && !isRoof(roof)) {
            return false;
        }
        world.masters.get(b).roof = roof == -1 ? 10 : roof;
        return true;
    }

    boolean gear(int what, int i, boolean is) {
        if (what == 0 && isApprentice(i) && world.apprentices.get(i).rope != is) {
            world.apprentices.get(i).rope = is;
            return true;
        }
        if (what == 1 && isMaster(i) && world.masters.get(i).umbrella != is) {
            world.masters.get(i).umbrella = is;
            return true;
        }
        return false;
    }

    boolean snow(int hour, boolean is) {
        if (!in(hour, 0, 99) || world.snow[hour] == is) {
            return false;
        }
        world.snow[hour] = is;
        return true;
    }

    int feed(int a, int b, int c, int d, int e) {
        if (world.tape.size() > 200) {
            return -1;
        }
        for (int number : new int[] {a, b, c, d, e}) {
            world.tape.add(number >>> 24);
            world.tape.add(number >>> 16 & 255);
            world.tape.add(number >>> 8 & 255);
            world.tape.add(number & 255);
        }
        return world.tape.size();
    }

    int law(int n) {
        if (!in(n, 1, 200) || world.tape.size() < n) {
            return -1;
        }
        StringBuilder text = new StringBuilder();
        for (int i = 0; i < n; i++) {
            text.append((char) (int) world.tape.get(i));
        }
        world.tape.clear();
        try {
            law = new Text(text.toString()).law();
            return law.size();
        } catch (Fault fault) {
            return fault.answer;
        }
    }

    int hours(int n) {
        return in(n, 1, 40) ? passAll(world, n) : -1;
    }

    int hour(int wind) {
        return in(wind, 0, 9) ? pass(world, wind) : -1;
    }

    int roofIs(int q, int what) {
        if (!isRoof(q) || !in(what, 0, 4)) {
            return -1;
        }
        Roof roof = world.roofs.get(q);
        int bits = 0;
        for (int i = 0; i < 8; i++) {
            if (what == 3 && isApprentice(i) && world.apprentices.get(i).roof == q
                    || what == 4 && isMaster(i) && world.masters.get(i).roof == q) {
                bits += 1 << i;
            }
        }
        return what == 0 ? roof.room : what == 1 ? roof.slates : what == 2 ? roof.steep : bits;
    }

    int apprenticeIs(int a, int what) {
        if (!isApprentice(a) || !in(what, 0, 4) && !in(what, 10, 14)) {
            return -1;
        }
        Apprentice who = world.apprentices.get(a);
        switch (what) {
            case 0: return who.roof;
            case 1: return who.grip;
            case 2: return who.rope ? 1 : 0;
            case 3: return Arrays.stream(who.owed).sum();
            case 4: return who.fell;
            default: return who.skill[what - 10];
        }
    }

    int masterIs(int b, int what) {
        if (!isMaster(b) || !in(what, 0, 4)) {
            return -1;
        }
        Master m = world.masters.get(b);
        switch (what) {
            case 0: return m.roof;
            case 1: return m.trade;
            case 2: return m.umbrella ? 1 : 0;
            case 3: return world.apprentices.stream().mapToInt(a -> a.owed[b]).sum();
            default: return m.bruises;
        }
    }

    int tried(int n, int what) {
        if (!in(n, 1, 40) || !(in(what, 0, 3) || in(what, 10, 19) && isRoof(what - 10)
                || in(what, 20, 27) && isMaster(what - 20))) {
            return -1;
        }
        World w = world.copy();
        int fallen = passAll(w, n);
        if (what >= 20) {
            return w.masters.get(what - 20).bruises;
        }
        if (what >= 10) {
            return w.roofs.get(what - 10).slates;
        }
        return what == 0 ? w.slates() : what == 1 ? fallen : what == 2 ? w.bruises() : w.broken;
    }

    int set(int apprentices, int dome, int n, int what) {
        List<Integer> told = new ArrayList<>();
        for (int i = 0; i < 32; i++) {
            if ((apprentices >>> i & 1) == 1) {
                told.add(i);
            }
        }
        if (!in(told.size(), 1, 3) || !isApprentice(told.get(told.size() - 1)) || !isRoof(dome) || !in(n, 1, 20)
                || !in(what, 10, 12) && !told.contains(what)) {
            return -1;
        }
        List<int[]> rows = new ArrayList<>();
        rows(rows, new int[told.size()], 0);
        int[] best = null;
        int bestHours = 0;
        int bestBruises = 0;
        for (int[] row : rows) {
            World w = world.copy();
            for (int i = 0; i < row.length; i++) {
                w.apprentices.get(told.get(i)).roof = row[i];
            }
            int hours = 0;
            while (hours <= n && w.roofs.get(dome).slates != w.roofs.get(dome).room) {
                pass(w, draw(w));
                hours++;
            }
            if (hours <= n && (best == null || hours < bestHours || hours == bestHours && w.bruises() < bestBruises)) {
                best = row;
                bestHours = hours;
                bestBruises = w.bruises();
            }
        }
        if (best == null) {
            return -2;
        }
        for (int i = 0; i < best.length && what == 12; i++) {
            world.apprentices.get(told.get(i)).roof = best[i];
        }
        return what == 11 ? bestBruises : what >= 10 ? bestHours : best[told.indexOf(what)];
    }

    private void rows(List<int[]> rows, int[] row, int i) {
        if (i == row.length) {
            rows.add(row.clone());
            return;
        }
        for (int q = 0; q < world.roofs.size(); q++) {
            row[i] = q;
            rows(rows, row, i + 1);
        }
    }

    int free(int n, int k, int what) {
        if (!in(n, 1, 8) || !in(k, 0, 8) || !in(what, 0, 2)) {
            return -1;
        }
        int[] best = null;
        for (int bits = (1 << n) - 1; bits >= 0; bits--) {
            World w = world.copy();
            boolean fits = Integer.bitCount(bits) == k;
            for (int i = 0; i < n && fits; i++) {
                if ((bits >> i & 1) == 1) {
                    fits = w.hour + i <= 99 && !w.snow[w.hour + i];
                    if (fits) {
                        w.snow[w.hour + i] = true;
                    }
                }
            }
            if (fits) {
                passAll(w, n);
                int[] is = {bits, w.bruises(), w.slates()};
                if (best == null || is[1] < best[1] || is[1] == best[1] && is[2] >= best[2]) {
                    best = is;
                }
            }
        }
        return best == null ? -2 : best[what];
    }

    int worth(int what, int i, int n) {
        if (!in(n, 1, 40) || !(what == 0 && isApprentice(i) && !world.apprentices.get(i).rope
                || what == 1 && isMaster(i) && !world.masters.get(i).umbrella)) {
            return -10000;
        }
        World w = world.copy();
        World with = world.copy();
        if (what == 0) {
            with.apprentices.get(i).rope = true;
        } else {
            with.masters.get(i).umbrella = true;
        }
        passAll(w, n);
        passAll(with, n);
        return w.bruises() - with.bruises();
    }

    int lent(int k, int what) {
        if (!in(k, 1, 99) || !in(what, 10, 11) && !isMaster(what)) {
            return -1;
        }
        int[] best = new int[world.masters.size()];
        Arrays.fill(best, 8);
        int[] row = best.clone();
        best = bestRow(k, row, 0, new boolean[8], best);
        int ropes = 0;
        for (int a : best) {
            if (a < 8) {
                ropes++;
                world.apprentices.get(a).rope |= what == 11;
            }
        }
        return what >= 10 ? ropes : best[what];
    }

    private int[] bestRow(int k, int[] row, int b, boolean[] used, int[] best) {
        if (b == row.length) {
            long more = Arrays.stream(row).filter(a -> a < 8).count() - Arrays.stream(best).filter(a -> a < 8).count();
            return more > 0 || more == 0 && Arrays.compare(row, best) < 0 ? row.clone() : best;
        }
        int[] now = best;
        for (int a = 0; a <= 8; a++) {
            boolean may = a == 8 || isApprentice(a) && !used[a] && !world.apprentices.get(a).rope
                    && world.masters.get(b).bruises > 0 && world.apprentices.get(a).struck[b] >= k;
            if (may) {
                row[b] = a;
                if (a < 8) {
                    used[a] = true;
                }
                now = bestRow(k, row, b + 1, used, now);
                if (a < 8) {
                    used[a] = false;
                }
            }
        }
        return now;
    }

    int letGo(int a, int n, int what) {
        int masters = world.masters.size();
        if (!isApprentice(a) || !in(n, 1, 6) || !in(what, -1, 1) || masters == 0 || world.tape.size() < masters) {
            return -1;
        }
        List<int[]> twos = new ArrayList<>();
        for (int grip = 0; grip < 10; grip++) {
            for (int roof = 0; roof <= 10; roof++) {
                if (roof < 10 && !isRoof(roof)) {
                    continue;
                }
                World w = world.copy();
                w.apprentices.get(a).grip = grip;
                w.apprentices.get(a).roof = roof;
                passAll(w, n);
                boolean fits = true;
                for (int b = 0; b < masters; b++) {
                    fits &= w.masters.get(b).bruises == world.masters.get(b).bruises + world.tape.get(b);
                }
                if (fits) {
                    twos.add(new int[] {grip, roof});
                }
            }
        }
        world.tape.clear();
        return what == -1 ? twos.size() : twos.isEmpty() ? -2 : twos.get(0)[what];
    }

    int settled(int what) {
        if (!in(what, 0, 1)) {
            return -1;
        }
        List<Integer> positions = new ArrayList<>();
        for (int a = 0; a < world.apprentices.size(); a++) {
            positions.add(-apprenticeIs(a, 3));
        }
        for (int b = 0; b < world.masters.size(); b++) {
            positions.add(masterIs(b, 3));
        }
        positions.removeIf(p -> p == 0);
        if (positions.size() > 7) {
            return -2;
        }
        int sets = mostSets(positions, new ArrayList<>(), 0);
        return what == 0 ? positions.size() - sets : sets;
    }

    /** Each POSITION is put into one of the sets there are, or into a new one. */
    private static int mostSets(List<Integer> positions, List<Integer> sums, int i) {
        if (i == positions.size()) {
            return sums.stream().allMatch(s -> s == 0) ? sums.size() : -1;
        }
        int best = -1;
        for (int j = 0; j < sums.size(); j++) {
            int sum = sums.get(j);
            sums.set(j, sum + positions.get(i));
            best = Math.max(best, mostSets(positions, sums, i + 1));
            sums.set(j, sum);
        }
        sums.add(positions.get(i));
        best = Math.max(best, mostSets(positions, sums, i + 1));
        sums.remove(sums.size() - 1);
        return best;
    }

    int owes(int a, int b, int what) {
        if (!isApprentice(a) || !isMaster(b) || !in(what, 0, 1)) {
            return -1;
        }
        Apprentice who = world.apprentices.get(a);
        return what == 0 ? who.owed[b] : who.struck[b];
    }

    int teachers(int a) {
        if (!isApprentice(a)) {
            return -1;
        }
        int bits = 0;
        for (int b = 0; b < 8; b++) {
            bits += world.apprentices.get(a).struck[b] > 0 ? 1 << b : 0;
        }
        return bits;
    }

    int chain(int b, int c, int what) {
        if (!isMaster(b) || !isMaster(c) || !in(what, -1, 7)) {
            return -3;
        }
        int[] best = null;
        for (int length = 0; length <= 7 && best == null; length++) {
            best = chainOf(b, c, new int[length], 0, new boolean[64]);
        }
        if (best == null) {
            return -2;
        }
        return what == -1 ? best.length : what < best.length ? best[what] : -3;
    }

    /** The least row of just this length, by all ways but those on from where none was found before. */
    private int[] chainOf(int at, int c, int[] row, int i, boolean[] barren) {
        if (i == row.length) {
            return at == c ? row.clone() : null;
        }
        if (barren[at * 8 + i]) {
            return null;
        }
        for (int a = 0; a < world.apprentices.size(); a++) {
            int[] best = null;
            for (int b = 0; b < world.masters.size(); b++) {
                if (b != at && owes(a, at, 1) > 0 && owes(a, b, 1) > 0) {
                    row[i] = a;
                    int[] is = chainOf(b, c, row, i + 1, barren);
                    if (is != null && (best == null || Arrays.compare(is, best) < 0)) {
                        best = is;
                    }
                }
            }
            if (best != null) {
                return best;
            }
        }
        barren[at * 8 + i] = true;
        return null;
    }

    int odds(int b, int n, int bruises, int what) {
        if (!isMaster(b) || !in(n, 1, 3) || !in(bruises, 0, 999) || !in(what, 0, 1)) {
            return -1;
        }
        int held = held(world, b, n, bruises);
        int all = n == 1 ? 10 : n == 2 ? 100 : 1000;
        for (int divisor = all; divisor > 1; divisor--) {
            if (held % divisor == 0 && all % divisor == 0) {
                held /= divisor;
                all /= divisor;
            }
        }
        return what == 0 ? held : all;
    }

    private int held(World from, int b, int n, int bruises) {
        if (n == 0) {
            return from.masters.get(b).bruises >= bruises ? 1 : 0;
        }
        int sum = 0;
        for (int wind = 0; wind < 10; wind++) {
            World w = from.copy();
            pass(w, wind);
            sum += held(w, b, n - 1, bruises);
        }
        return sum;
    }

    boolean seed(int x) {
        if (!in(x, 0, 65535)) {
            return false;
        }
        world.x = x;
        return true;
    }

    int keep() {
        kept = world.copy();
        return world.slates();
    }

    boolean undo() {
        if (kept == null) {
            return false;
        }
        world = kept.copy();
        return true;
    }

    int check(int n) {
        if (!in(n, 0, 10) || world.tape.size() < 4 * n) {
            return -2;
        }
        int wrong = -1;
        for (int q = n - 1; q >= 0; q--) {
            long number = 0;
            for (int i = 0; i < 4; i++) {
                number = number * 256 + world.tape.get(4 * q + i);
            }
            if (!isRoof(q) || number != world.roofs.get(q).slates) {
                wrong = q;
            }
        }
        world.tape.clear();
        return wrong;
    }

    int count(int what) {
        switch (what) {
            case 0: return world.roofs.size();
            case 1: return world.apprentices.size();
            case 2: return world.masters.size();
            case 3: return law.size();
            case 4: return world.tape.size();
            case 5: return world.hour;
            case 6: return world.x;
            case 7: return world.broken;
            case 8: return world.bruises();
            case 9: return world.slates();
            default: return in(what, 100, 199) ? world.snow[what - 100] ? 1 : 0 : -1;
        }
    }
}
