/**
 * Apprentices of the weathercock, as the document ../shared/DOC.md promises it.
 * All rows are made in the constructors and used again: no call makes an object.
 */
public final class SlateSchool {
    public static final int NONE = -1;

    private static final int MOST_ROOFS = 10;
    private static final int MOST_APPRENTICES = 8;
    private static final int MOST_MASTERS = 8;
    private static final int TRADES = 5;
    private static final int MOST_SLATES = 99;
    private static final int MOST_SKILL = 99;
    private static final int SNOW_HOURS = 100;
    private static final int WINDS = 10;
    private static final int NO_ROOF = 10;
    private static final int NOT_THERE = -2;
    private static final int NO_CHAIN_PLACE = -3;
    private static final int NO_WORTH = -10000;
    private static final int MOST_TAPE = 220;
    private static final int MOST_TEXT = 200;
    private static final int MOST_CLAUSES = 14;
    private static final int MOST_OPEN = 6;
    private static final int MOST_TOLD = 3;
    private static final int MOST_POSITIONS = 7;

    private static final String KINDS = "mfld";
    private static final String LETTERS = "agsoqnetwbkh";
    private static final String COMPARISONS = "<>=";
    private static final int LETTER_COUNT = 12;

    private final Site site = new Site();
    private final Site trial = new Site();
    private final Site kept = new Site();
    private final Tape tape = new Tape();
    private final Tape keptTape = new Tape();
    private final Reader reader = new Reader();
    private final Setting setting = new Setting();
    private final Lending lending = new Lending();
    private final Settling settling = new Settling();
    private final Chaining chaining = new Chaining();
    private Law law = new Law();
    private Law draft = new Law();
    private boolean isKept = false;

    public SlateSchool() {
    }

    public int roof(int room, int slates, int steep) {
        if (!isWithin(room, 0, MOST_SLATES) || !isWithin(slates, 0, room) || !isWithin(steep, 0, 9)) {
            return NONE;
        }
        return site.roofs.add(room, slates, steep);
    }

    public int apprentice(int grip) {
        return isWithin(grip, 0, 9) ? site.apprentices.add(grip) : NONE;
    }

    public int master(int trade, boolean umbrella) {
        return isWithin(trade, 0, TRADES - 1) ? site.masters.add(trade, umbrella ? 1 : 0) : NONE;
    }

    public boolean on(int a, int roof) {
        if (!site.apprentices.has(a) || !isPlace(roof)) {
            return false;
        }
        site.apprentices.place[a] = roof == NONE ? NO_ROOF : roof;
        return true;
    }

    public boolean below(int b, int roof) {
        if (!site.masters.has(b) || !isPlace(roof)) {
            return false;
        }
        site.masters.place[b] = roof == NONE ? NO_ROOF : roof;
        return true;
    }

    public boolean gear(int what, int i, boolean is) {
        int flag = is ? 1 : 0;
        if (!hasGearBearer(what, i) || site.gearOf(what, i) == flag) {
            return false;
        }
        site.putGear(what, i, flag);
        return true;
    }

    public boolean snow(int hour, boolean is) {
        int flag = is ? 1 : 0;
        if (!isWithin(hour, 0, SNOW_HOURS - 1) || site.snows[hour] == flag) {
            return false;
        }
        site.snows[hour] = flag;
        return true;
    }

    public int feed(int a, int b, int c, int d, int e) {
        if (tape.length + 20 > MOST_TAPE) {
            return NONE;
        }
        tape.append(a);
        tape.append(b);
        tape.append(c);
        tape.append(d);
        tape.append(e);
        return tape.length;
    }

    public int law(int n) {
        if (!isWithin(n, 1, MOST_TEXT) || n > tape.length) {
            return NONE;
        }
        int answer = reader.readLaw(tape, n, draft);
        tape.length = 0;
        if (answer >= 0) {
            Law before = law;
            law = draft;
            draft = before;
        }
        return answer;
    }

    public int hours(int n) {
        return isWithin(n, 1, 40) ? site.passHours(law, n) : NONE;
    }

    public int hour(int wind) {
        return isWithin(wind, 0, WINDS - 1) ? site.passHour(law, wind) : NONE;
    }

    public int roofIs(int q, int what) {
        if (!site.roofs.has(q)) {
            return NONE;
        }
        switch (what) {
            case 0: return site.roofs.room[q];
            case 1: return site.roofs.slates[q];
            case 2: return site.roofs.steep[q];
            case 3: return site.apprentices.bitsOn(q);
            case 4: return site.masters.bitsBelow(q);
            default: return NONE;
        }
    }

    public int apprenticeIs(int a, int what) {
        if (!site.apprentices.has(a)) {
            return NONE;
        }
        if (isWithin(what, 10, 9 + TRADES)) {
            return site.apprentices.skill[a * TRADES + what - 10];
        }
        switch (what) {
            case 0: return site.apprentices.place[a];
            case 1: return site.apprentices.grip[a];
            case 2: return site.apprentices.rope[a];
            case 3: return site.owedBy(a);
            case 4: return site.apprentices.fell[a];
            default: return NONE;
        }
    }

    public int masterIs(int b, int what) {
        if (!site.masters.has(b)) {
            return NONE;
        }
        switch (what) {
            case 0: return site.masters.place[b];
            case 1: return site.masters.trade[b];
            case 2: return site.masters.umbrella[b];
            case 3: return site.owedTo(b);
            case 4: return site.masters.bruises[b];
            default: return NONE;
        }
    }

    public int tried(int n, int what) {
        boolean isRoof = what >= 10 && site.roofs.has(what - 10);
        boolean isMaster = what >= 20 && site.masters.has(what - 20);
        if (!isWithin(n, 1, 40) || !(isWithin(what, 0, 3) || isRoof || isMaster)) {
            return NONE;
        }
        trial.copyFrom(site);
        int fallen = trial.passHours(law, n);
        if (isRoof) {
            return trial.roofs.slates[what - 10];
        }
        if (isMaster) {
            return trial.masters.bruises[what - 20];
        }
        switch (what) {
            case 0: return trial.roofs.allSlates();
            case 1: return fallen;
            case 2: return trial.masters.allBruises();
            default: return trial.broken;
        }
    }

    public int set(int apprentices, int dome, int n, int what) {
        boolean isTold = site.apprentices.has(what) && (apprentices >> what & 1) == 1;
        if (!areTold(apprentices) || !site.roofs.has(dome) || !isWithin(n, 1, 20)
                || !(isWithin(what, 10, 12) || isTold)) {
            return NONE;
        }
        setting.search(site, trial, law, apprentices, dome, n);
        if (setting.hours == NONE) {
            return NOT_THERE;
        }
        if (what == 12) {
            setting.placeOn(site, setting.bestRow);
        }
        if (what == 11) {
            return setting.bruises;
        }
        return isTold ? setting.roofOf(what) : setting.hours;
    }

    public int free(int n, int k, int what) {
        if (!isWithin(n, 1, 8) || !isWithin(k, 0, 8) || !isWithin(what, 0, 2)) {
            return NONE;
        }
        int open = site.hoursWithoutSnow(n);
        if (Integer.bitCount(open) < k) {
            return NOT_THERE;
        }
        int best = NONE;
        int bruises = 0;
        int slates = 0;
        for (int bits = 0; bits <= open; bits++) {
            if ((bits & ~open) == 0 && Integer.bitCount(bits) == k) {
                trial.copyFrom(site);
                trial.letSnow(bits, n);
                trial.passHours(law, n);
                int bruisesThen = trial.masters.allBruises();
                int slatesThen = trial.roofs.allSlates();
                if (best == NONE || bruisesThen < bruises || bruisesThen == bruises && slatesThen > slates) {
                    best = bits;
                    bruises = bruisesThen;
                    slates = slatesThen;
                }
            }
        }
        switch (what) {
            case 0: return best;
            case 1: return bruises;
            default: return slates;
        }
    }

    public int worth(int what, int i, int n) {
        if (!hasGearBearer(what, i) || !isWithin(n, 1, 40) || site.gearOf(what, i) == 1) {
            return NO_WORTH;
        }
        trial.copyFrom(site);
        trial.passHours(law, n);
        int without = trial.masters.allBruises();
        trial.copyFrom(site);
        trial.putGear(what, i, 1);
        trial.passHours(law, n);
        return without - trial.masters.allBruises();
    }

    public int lent(int k, int what) {
        boolean isMaster = site.masters.has(what);
        if (!isWithin(k, 1, 99) || !(what == 10 || what == 11 || isMaster)) {
            return NONE;
        }
        lending.plan(site, k);
        if (isMaster) {
            return lending.borrower[what];
        }
        if (what == 11) {
            lending.handOut(site);
        }
        return lending.ropes;
    }

    public int letGo(int a, int n, int what) {
        int masters = site.masters.count;
        if (!site.apprentices.has(a) || !isWithin(n, 1, 6) || !isWithin(what, NONE, 1)
                || masters == 0 || tape.length < masters) {
            return NONE;
        }
        int found = 0;
        int first = NONE;
        for (int two = 0; two < 10 * (NO_ROOF + 1); two++) {
            int place = two % (NO_ROOF + 1);
            if ((place == NO_ROOF || site.roofs.has(place)) && bruisesAsTold(a, two, n)) {
                first = found == 0 ? two : first;
                found++;
            }
        }
        tape.length = 0;
        if (what == NONE) {
            return found;
        }
        if (found == 0) {
            return NOT_THERE;
        }
        return what == 0 ? first / (NO_ROOF + 1) : first % (NO_ROOF + 1);
    }

    public int settled(int what) {
        if (!isWithin(what, 0, 1)) {
            return NONE;
        }
        if (!settling.gather(site)) {
            return NOT_THERE;
        }
        int sets = settling.mostSets();
        return what == 0 ? settling.count - sets : sets;
    }

    public int owes(int a, int b, int what) {
        if (!site.apprentices.has(a) || !site.masters.has(b) || !isWithin(what, 0, 1)) {
            return NONE;
        }
        int pair = a * MOST_MASTERS + b;
        return what == 0 ? site.owed[pair] : site.struck[pair];
    }

    public int teachers(int a) {
        return site.apprentices.has(a) ? site.struckBy(a) : NONE;
    }

    public int chain(int b, int c, int what) {
        if (!site.masters.has(b) || !site.masters.has(c) || !isWithin(what, NONE, 7)) {
            return NO_CHAIN_PLACE;
        }
        if (!chaining.search(site, b, c)) {
            return NOT_THERE;
        }
        if (what == NONE) {
            return chaining.length;
        }
        return what < chaining.length ? chaining.row[what] : NO_CHAIN_PLACE;
    }

    public int odds(int b, int n, int bruises, int what) {
        if (!site.masters.has(b) || !isWithin(n, 1, 3) || !isWithin(bruises, 0, 999) || !isWithin(what, 0, 1)) {
            return NONE;
        }
        int all = 1;
        for (int i = 0; i < n; i++) {
            all *= WINDS;
        }
        int held = 0;
        for (int winds = 0; winds < all; winds++) {
            if (bruisesByWinds(b, n, winds) >= bruises) {
                held++;
            }
        }
        int divisor = commonDivisor(held, all);
        if (divisor == 0) {
            return NONE;
        }
        return what == 0 ? held / divisor : all / divisor;
    }

    public boolean seed(int x) {
        if (!isWithin(x, 0, 65535)) {
            return false;
        }
        site.x = x;
        return true;
    }

    public int keep() {
        kept.copyFrom(site);
        keptTape.copyFrom(tape);
        isKept = true;
        return site.roofs.allSlates();
    }

    public boolean undo() {
        if (!isKept) {
            return false;
        }
        site.copyFrom(kept);
        tape.copyFrom(keptTape);
        return true;
    }

    public int check(int n) {
        if (!isWithin(n, 0, 10) || tape.length < 4 * n) {
            return NOT_THERE;
        }
        tape.length = 0;
        for (int q = 0; q < n; q++) {
            if (!site.roofs.has(q) || tape.numberAt(4 * q) != site.roofs.slates[q]) {
                return q;
            }
        }
        return NONE;
    }

    public int count(int what) {
        if (isWithin(what, 100, 99 + SNOW_HOURS)) {
            return site.snows[what - 100];
        }
        switch (what) {
            case 0: return site.roofs.count;
            case 1: return site.apprentices.count;
            case 2: return site.masters.count;
            case 3: return law.clauses;
            case 4: return tape.length;
            case 5: return site.hour;
            case 6: return site.x;
            case 7: return site.broken;
            case 8: return site.masters.allBruises();
            case 9: return site.roofs.allSlates();
            default: return NONE;
        }
    }

    private static boolean isWithin(int value, int least, int most) {
        return value >= least && value <= most;
    }

    private boolean isPlace(int roof) {
        return roof == NONE || site.roofs.has(roof);
    }

    private boolean hasGearBearer(int what, int i) {
        return what == 0 ? site.apprentices.has(i) : what == 1 && site.masters.has(i);
    }

    private boolean areTold(int bits) {
        return bits > 0 && bits >> site.apprentices.count == 0 && Integer.bitCount(bits) <= MOST_TOLD;
    }

    /** A two is its GRIP and its ROOF in one number, so that ascending numbers are the order asked for. */
    private boolean bruisesAsTold(int a, int two, int n) {
        trial.copyFrom(site);
        if (!trial.apprentices.has(a)) {
            return false;
        }
        trial.apprentices.grip[a] = two / (NO_ROOF + 1);
        trial.apprentices.place[a] = two % (NO_ROOF + 1);
        trial.passHours(law, n);
        for (int b = 0; b < site.masters.count; b++) {
            if (trial.masters.bruises[b] - site.masters.bruises[b] != tape.byteAt(b)) {
                return false;
            }
        }
        return true;
    }

    private int bruisesByWinds(int b, int n, int winds) {
        trial.copyFrom(site);
        int rest = winds;
        for (int i = 0; i < n; i++) {
            trial.passHour(law, rest % WINDS);
            rest /= WINDS;
        }
        return trial.masters.has(b) ? trial.masters.bruises[b] : 0;
    }

    private static int commonDivisor(int one, int other) {
        int high = other;
        int low = one;
        for (int i = 0; i < 100 && low != 0; i++) {
            int rest = high % low;
            high = low;
            low = rest;
        }
        return high;
    }

    private static final class Roofs {
        int count = 0;
        final int[] room = new int[MOST_ROOFS];
        final int[] slates = new int[MOST_ROOFS];
        final int[] steep = new int[MOST_ROOFS];

        boolean has(int q) {
            return q >= 0 && q < count;
        }

        int add(int itsRoom, int itsSlates, int itsSteep) {
            if (count >= MOST_ROOFS) {
                return NONE;
            }
            room[count] = itsRoom;
            slates[count] = itsSlates;
            steep[count] = itsSteep;
            count++;
            return count - 1;
        }

        int allSlates() {
            int sum = 0;
            for (int q = 0; q < count; q++) {
                sum += slates[q];
            }
            return sum;
        }

        void copyFrom(Roofs other) {
            count = other.count;
            System.arraycopy(other.room, 0, room, 0, MOST_ROOFS);
            System.arraycopy(other.slates, 0, slates, 0, MOST_ROOFS);
            System.arraycopy(other.steep, 0, steep, 0, MOST_ROOFS);
        }
    }

    private static final class Apprentices {
        int count = 0;
        final int[] place = new int[MOST_APPRENTICES];
        final int[] grip = new int[MOST_APPRENTICES];
        final int[] rope = new int[MOST_APPRENTICES];
        final int[] fell = new int[MOST_APPRENTICES];
        final int[] skill = new int[MOST_APPRENTICES * TRADES];

        boolean has(int a) {
            return a >= 0 && a < count;
        }

        int add(int itsGrip) {
            if (count >= MOST_APPRENTICES) {
                return NONE;
            }
            place[count] = NO_ROOF;
            grip[count] = itsGrip;
            count++;
            return count - 1;
        }

        int bitsOn(int q) {
            int bits = 0;
            for (int a = 0; a < count; a++) {
                if (place[a] == q) {
                    bits |= 1 << a;
                }
            }
            return bits;
        }

        int skillInAll(int a) {
            int sum = 0;
            for (int k = 0; k < TRADES && has(a); k++) {
                sum += skill[a * TRADES + k];
            }
            return sum;
        }

        void copyFrom(Apprentices other) {
            count = other.count;
            System.arraycopy(other.place, 0, place, 0, MOST_APPRENTICES);
            System.arraycopy(other.grip, 0, grip, 0, MOST_APPRENTICES);
            System.arraycopy(other.rope, 0, rope, 0, MOST_APPRENTICES);
            System.arraycopy(other.fell, 0, fell, 0, MOST_APPRENTICES);
            System.arraycopy(other.skill, 0, skill, 0, MOST_APPRENTICES * TRADES);
        }
    }

    private static final class Masters {
        int count = 0;
        final int[] place = new int[MOST_MASTERS];
        final int[] trade = new int[MOST_MASTERS];
        final int[] umbrella = new int[MOST_MASTERS];
        final int[] bruises = new int[MOST_MASTERS];

        boolean has(int b) {
            return b >= 0 && b < count;
        }

        int add(int itsTrade, int itsUmbrella) {
            if (count >= MOST_MASTERS) {
                return NONE;
            }
            place[count] = NO_ROOF;
            trade[count] = itsTrade;
            umbrella[count] = itsUmbrella;
            count++;
            return count - 1;
        }

        int bitsBelow(int q) {
            int bits = 0;
            for (int b = 0; b < count; b++) {
                if (place[b] == q) {
                    bits |= 1 << b;
                }
            }
            return bits;
        }

        int allBruises() {
            int sum = 0;
            for (int b = 0; b < count; b++) {
                sum += bruises[b];
            }
            return sum;
        }

        /** Whom a SLATE from a ROOF strikes: its number, or NONE. */
        int struckBelow(int q) {
            int least = NONE;
            for (int b = 0; b < count; b++) {
                if (place[b] == q && umbrella[b] == 0 && (least == NONE || bruises[b] < bruises[least])) {
                    least = b;
                }
            }
            return least;
        }

        void copyFrom(Masters other) {
            count = other.count;
            System.arraycopy(other.place, 0, place, 0, MOST_MASTERS);
            System.arraycopy(other.trade, 0, trade, 0, MOST_MASTERS);
            System.arraycopy(other.umbrella, 0, umbrella, 0, MOST_MASTERS);
            System.arraycopy(other.bruises, 0, bruises, 0, MOST_MASTERS);
        }
    }

    /** All that an HOUR changes: one is the guild's own, one is tried on, one is KEPT. */
    private static final class Site {
        final Roofs roofs = new Roofs();
        final Apprentices apprentices = new Apprentices();
        final Masters masters = new Masters();
        final int[] owed = new int[MOST_APPRENTICES * MOST_MASTERS];
        final int[] struck = new int[MOST_APPRENTICES * MOST_MASTERS];
        final int[] snows = new int[SNOW_HOURS];
        int hour = 0;
        int x = 1;
        int broken = 0;
        private final int[] told = new int[LETTER_COUNT];

        void copyFrom(Site other) {
            roofs.copyFrom(other.roofs);
            apprentices.copyFrom(other.apprentices);
            masters.copyFrom(other.masters);
            System.arraycopy(other.owed, 0, owed, 0, MOST_APPRENTICES * MOST_MASTERS);
            System.arraycopy(other.struck, 0, struck, 0, MOST_APPRENTICES * MOST_MASTERS);
            System.arraycopy(other.snows, 0, snows, 0, SNOW_HOURS);
            hour = other.hour;
            x = other.x;
            broken = other.broken;
        }

        /** The callers have looked that the bearer is there. */
        int gearOf(int what, int i) {
            if (what == 0) {
                return apprentices.has(i) ? apprentices.rope[i] : 0;
            }
            return masters.has(i) ? masters.umbrella[i] : 0;
        }

        void putGear(int what, int i, int flag) {
            if (what == 0 && apprentices.has(i)) {
                apprentices.rope[i] = flag;
            }
            if (what == 1 && masters.has(i)) {
                masters.umbrella[i] = flag;
            }
        }

        int owedBy(int a) {
            int sum = 0;
            for (int b = 0; b < masters.count && apprentices.has(a); b++) {
                sum += owed[a * MOST_MASTERS + b];
            }
            return sum;
        }

        int owedTo(int b) {
            int sum = 0;
            for (int a = 0; a < apprentices.count && masters.has(b); a++) {
                sum += owed[a * MOST_MASTERS + b];
            }
            return sum;
        }

        /** The MASTERS that an APPRENTICE struck, as bits. */
        int struckBy(int a) {
            int bits = 0;
            for (int b = 0; b < masters.count && apprentices.has(a); b++) {
                if (struck[a * MOST_MASTERS + b] > 0) {
                    bits |= 1 << b;
                }
            }
            return bits;
        }

        /** Those of the next HOURS that can still be SNOW, as bits, the first one lowest. */
        int hoursWithoutSnow(int n) {
            int bits = 0;
            for (int i = 0; i < n; i++) {
                int then = hour + i;
                if (then >= 0 && then < SNOW_HOURS && snows[then] == 0) {
                    bits |= 1 << i;
                }
            }
            return bits;
        }

        void letSnow(int bits, int n) {
            for (int i = 0; i < n; i++) {
                int then = hour + i;
                if ((bits >> i & 1) == 1 && then >= 0 && then < SNOW_HOURS) {
                    snows[then] = 1;
                }
            }
        }

        int nextWind() {
            x = (25173 * x + 13849) & 65535;
            return x % WINDS;
        }

        int passHours(Law law, int n) {
            int fallen = 0;
            for (int i = 0; i < n; i++) {
                fallen += passHour(law, nextWind());
            }
            return fallen;
        }

        int passHour(Law law, int wind) {
            int fallen = 0;
            boolean isSnow = hour >= 0 && hour < SNOW_HOURS && snows[hour] == 1;
            if (!isSnow) {
                for (int a = 0; a < apprentices.count; a++) {
                    lay(law, a, wind);
                }
                for (int a = 0; a < apprentices.count; a++) {
                    fallen += letFall(law, a, wind);
                }
            }
            hour++;
            return fallen;
        }

        private void lay(Law law, int a, int wind) {
            int q = apprentices.place[a];
            if (!roofs.has(q)) {
                return;
            }
            tell(a, q, wind);
            roofs.slates[q] += Math.min(law.answer('m', 9, told), roofs.room[q] - roofs.slates[q]);
        }

        private int letFall(Law law, int a, int wind) {
            int q = apprentices.place[a];
            if (!roofs.has(q)) {
                return 0;
            }
            tell(a, q, wind);
            int falling = Math.min(law.answer('f', 9, told), roofs.slates[q]);
            // the ROPE holds one of those that would fall, not one of those asked for
            if (apprentices.rope[a] == 1 && falling > 0) {
                falling--;
            }
            for (int i = 0; i < falling; i++) {
                roofs.slates[q]--;
                apprentices.fell[a]++;
                int b = masters.struckBelow(q);
                if (masters.has(b)) {
                    tell(a, q, wind);
                    tellMaster(a, b);
                    // both are asked before either changes what the other asks for
                    int learned = law.answer('l', 9, told);
                    int owing = law.answer('d', 99, told);
                    bruise(a, b, learned, owing);
                } else {
                    broken++;
                }
            }
            return falling;
        }

        private void bruise(int a, int b, int learned, int owing) {
            int own = a * TRADES + masters.trade[b];
            apprentices.skill[own] = Math.min(MOST_SKILL, apprentices.skill[own] + learned);
            owed[a * MOST_MASTERS + b] += owing;
            struck[a * MOST_MASTERS + b]++;
            masters.bruises[b]++;
        }

        /** What the letters of THE LAW stand for, in the order of LETTERS, with no MASTER yet. */
        private void tell(int a, int q, int wind) {
            told[0] = a;
            told[1] = apprentices.grip[a];
            told[2] = apprentices.skillInAll(a);
            told[3] = apprentices.rope[a];
            told[4] = q;
            told[5] = roofs.slates[q];
            told[6] = roofs.steep[q];
            told[7] = hour;
            told[8] = wind;
            told[9] = 0;
            told[10] = 0;
            told[11] = 0;
        }

        private void tellMaster(int a, int b) {
            told[2] = apprentices.skill[a * TRADES + masters.trade[b]];
            told[9] = b;
            told[10] = masters.trade[b];
            told[11] = masters.bruises[b];
        }
    }

    private static final class Tape {
        int length = 0;
        private final int[] bytes = new int[MOST_TAPE];

        void append(int number) {
            for (int shift = 24; shift >= 0 && length < MOST_TAPE; shift -= 8) {
                bytes[length] = number >> shift & 255;
                length++;
            }
        }

        int byteAt(int place) {
            return place >= 0 && place < MOST_TAPE ? bytes[place] : 0;
        }

        int numberAt(int place) {
            int number = 0;
            for (int i = 0; i < 4; i++) {
                number = number << 8 | byteAt(place + i);
            }
            return number;
        }

        void copyFrom(Tape other) {
            length = other.length;
            System.arraycopy(other.bytes, 0, bytes, 0, MOST_TAPE);
        }
    }

    /**
     * THE LAW as steps for a stack: of each CLAUSE first those of its E, then those of its C.
     * No sign of the text makes more than one step, so the rows are as long as the text can be.
     */
    private static final class Law {
        static final int NUMBER = 0;
        static final int LETTER = 1;
        static final int NOT = 2;
        static final int OR = 3;
        static final int AND = 4;
        static final int STACK = 40;

        int clauses = 0;
        int size = 0;
        private final int[] kinds = new int[MOST_CLAUSES];
        private final int[] amountAt = new int[MOST_CLAUSES];
        private final int[] conditionAt = new int[MOST_CLAUSES];
        private final int[] endAt = new int[MOST_CLAUSES];
        private final int[] steps = new int[MOST_TEXT];
        private final int[] numbers = new int[MOST_TEXT];
        private final int[] stack = new int[STACK];

        void beginClause(char kind) {
            if (clauses < MOST_CLAUSES) {
                kinds[clauses] = kind;
                amountAt[clauses] = size;
            }
        }

        void beginCondition() {
            if (clauses < MOST_CLAUSES) {
                conditionAt[clauses] = size;
            }
        }

        void endClause() {
            if (clauses < MOST_CLAUSES) {
                endAt[clauses] = size;
                clauses++;
            }
        }

        /** A step's place, or NONE if the row is full. */
        int addStep(int step, int number) {
            if (size >= MOST_TEXT) {
                return NONE;
            }
            steps[size] = step;
            numbers[size] = number;
            size++;
            return size - 1;
        }

        /** What an OR or an AND that settles the matter goes on with. */
        void aim(int place, int target) {
            if (place >= 0 && place < size) {
                numbers[place] = target;
            }
        }

        int answer(char kind, int most, int[] told) {
            for (int i = 0; i < clauses; i++) {
                if (kinds[i] == kind && reckon(conditionAt[i], endAt[i], told) != 0) {
                    return Math.max(0, Math.min(most, reckon(amountAt[i], conditionAt[i], told)));
                }
            }
            return 0;
        }

        /** The value of an E; of a C 1 or 0; what is REFUSED is 0, which serves both. */
        private int reckon(int from, int end, int[] told) {
            int at = from;
            int top = 0;
            for (int done = 0; done < MOST_TEXT && at >= 0 && at < end && at < size; done++) {
                int step = steps[at];
                int number = numbers[at];
                at++;
                if (step == NUMBER || step == LETTER) {
                    if (top >= STACK || step == LETTER && (number < 0 || number >= told.length)) {
                        return 0;
                    }
                    stack[top] = step == NUMBER ? number : told[number];
                    top++;
                } else if (top < 1) {
                    return 0;
                } else if (step == NOT) {
                    stack[top - 1] = 1 - stack[top - 1];
                } else if (step == OR || step == AND) {
                    // one that is settled stays on the stack, and what comes behind it isn't asked
                    if ((stack[top - 1] != 0) == (step == OR)) {
                        at = number;
                    } else {
                        top--;
                    }
                } else if (top < 2 || stack[top - 1] == 0 && (step == '/' || step == '%')) {
                    return 0;
                } else {
                    top--;
                    stack[top - 1] = joined(step, stack[top - 1], stack[top]);
                }
            }
            return top > 0 ? stack[top - 1] : 0;
        }

        private static int joined(int sign, int left, int right) {
            switch (sign) {
                case '+': return left + right;
                case '-': return left - right;
                case '*': return left * right;
                case '/': return right == 0 ? 0 : left / right;
                case '%': return right == 0 ? 0 : left % right;
                case '<': return left < right ? 1 : 0;
                case '>': return left > right ? 1 : 0;
                default: return left == right ? 1 : 0;
            }
        }
    }

    /** Reads a text into a LAW; behind the first FAULT nothing more is read. */
    private static final class Reader {
        private static final int CANT_STAND = 1;
        private static final int SIXTH_DIGIT = 2;
        private static final int CLAUSE_TOO_MANY = 4;
        private static final int TOO_DEEP = 5;

        private final int[] text = new int[MOST_TEXT];
        private int length = 0;
        private int at = 0;
        private int fault = 0;
        private int faultPlace = 0;

        /** How many CLAUSES, or the FAULT as it is answered. */
        int readLaw(Tape tape, int n, Law law) {
            length = Math.min(n, MOST_TEXT);
            for (int i = 0; i < length; i++) {
                text[i] = tape.byteAt(i);
            }
            at = 0;
            fault = 0;
            law.clauses = 0;
            law.size = 0;
            readClause(law);
            for (int i = 0; i < MOST_TEXT && fault == 0 && at < length; i++) {
                expect(';');
                readClause(law);
            }
            return fault == 0 ? law.clauses : -1000 * fault - faultPlace;
        }

        /** The end is as a sign 0, which can't stand anywhere either. */
        private char sign() {
            return at >= 0 && at < length ? (char) text[at] : (char) 0;
        }

        private void fail(int number) {
            if (fault == 0) {
                fault = number;
                faultPlace = at;
            }
        }

        private void expect(char due) {
            if (fault == 0 && sign() == due) {
                at++;
            } else {
                fail(CANT_STAND);
            }
        }

        private void readClause(Law law) {
            char kind = sign();
            if (fault == 0 && KINDS.indexOf(kind) >= 0 && law.clauses >= MOST_CLAUSES) {
                fail(CLAUSE_TOO_MANY);
            }
            if (KINDS.indexOf(kind) < 0) {
                fail(CANT_STAND);
            }
            if (fault != 0) {
                return;
            }
            at++;
            law.beginClause(kind);
            readSum(law, 0);
            law.beginCondition();
            expect('(');
            readCondition(law, 1);
            expect(')');
            law.endClause();
        }

        private void readCondition(Law law, int open) {
            readPart(law, open);
            int before = NONE;
            for (int i = 0; i < MOST_TEXT && fault == 0 && sign() == '|'; i++) {
                at++;
                int step = law.addStep(Law.OR, 0);
                law.aim(before, step);
                before = step;
                readPart(law, open);
            }
            law.aim(before, law.size);
        }

        private void readPart(Law law, int open) {
            readPiece(law, open);
            int before = NONE;
            for (int i = 0; i < MOST_TEXT && fault == 0 && sign() == '&'; i++) {
                at++;
                int step = law.addStep(Law.AND, 0);
                law.aim(before, step);
                before = step;
                readPiece(law, open);
            }
            law.aim(before, law.size);
        }

        private void readPiece(Law law, int open) {
            if (fault != 0) {
                return;
            }
            int inner = open;
            for (int i = 0; i < MOST_OPEN && inner < MOST_OPEN && sign() == '!'; i++) {
                at++;
                inner++;
            }
            if (inner >= MOST_OPEN && (sign() == '!' || sign() == '(')) {
                fail(TOO_DEEP);
            } else if (sign() == '(') {
                at++;
                readCondition(law, inner + 1);
                expect(')');
            } else {
                readComparison(law, inner);
            }
            for (int i = open; i < inner; i++) {
                law.addStep(Law.NOT, 0);
            }
        }

        private void readComparison(Law law, int open) {
            readSum(law, open);
            char comparison = sign();
            if (fault != 0 || COMPARISONS.indexOf(comparison) < 0) {
                fail(CANT_STAND);
                return;
            }
            at++;
            readSum(law, open);
            law.addStep(comparison, 0);
        }

        private void readSum(Law law, int open) {
            readTerm(law, open);
            for (int i = 0; i < MOST_TEXT && fault == 0 && (sign() == '+' || sign() == '-'); i++) {
                char joint = sign();
                at++;
                readTerm(law, open);
                law.addStep(joint, 0);
            }
        }

        private void readTerm(Law law, int open) {
            readFactor(law, open);
            for (int i = 0; i < MOST_TEXT && fault == 0 && isTermSign(sign()); i++) {
                char joint = sign();
                at++;
                readFactor(law, open);
                law.addStep(joint, 0);
            }
        }

        private static boolean isTermSign(char sign) {
            return sign == '*' || sign == '/' || sign == '%';
        }

        private void readFactor(Law law, int open) {
            char sign = sign();
            int letter = LETTERS.indexOf(sign);
            if (sign == '[' && open >= MOST_OPEN) {
                fail(TOO_DEEP);
            }
            if (fault != 0) {
                return;
            }
            if (sign == '[') {
                at++;
                readSum(law, open + 1);
                expect(']');
            } else if (isDigit(sign)) {
                readNumber(law);
            } else if (letter >= 0) {
                at++;
                law.addStep(Law.LETTER, letter);
            } else {
                fail(CANT_STAND);
            }
        }

        private void readNumber(Law law) {
            int number = 0;
            for (int i = 0; i < 5 && isDigit(sign()); i++) {
                number = number * 10 + sign() - '0';
                at++;
            }
            if (isDigit(sign())) {
                fail(SIXTH_DIGIT);
            }
            law.addStep(Law.NUMBER, number);
        }

        private static boolean isDigit(char sign) {
            return sign >= '0' && sign <= '9';
        }
    }

    /** SET: all rows are tried, the least first, so that only a better one takes the place of one before. */
    private static final class Setting {
        int hours = NONE;
        int bruises = 0;
        final int[] bestRow = new int[MOST_TOLD];
        private int count = 0;
        private final int[] who = new int[MOST_TOLD];
        private final int[] row = new int[MOST_TOLD];

        void search(Site site, Site trial, Law law, int apprentices, int dome, int n) {
            hours = NONE;
            tellWho(site, apprentices);
            int rows = 1;
            for (int i = 0; i < count; i++) {
                rows *= site.roofs.count;
                row[i] = 0;
            }
            for (int i = 0; i < rows; i++) {
                trial.copyFrom(site);
                placeOn(trial, row);
                tryRow(trial, law, dome, hours == NONE ? n : hours);
                stepRow(site.roofs.count);
            }
        }

        private void tellWho(Site site, int apprentices) {
            count = 0;
            for (int a = 0; a < site.apprentices.count; a++) {
                if ((apprentices >> a & 1) == 1 && count < MOST_TOLD) {
                    who[count] = a;
                    count++;
                }
            }
        }

        /** A row that needs more HOURS than the best one so far is left. */
        private void tryRow(Site trial, Law law, int dome, int most) {
            if (!trial.roofs.has(dome)) {
                return;
            }
            for (int passed = 0; passed <= most; passed++) {
                if (trial.roofs.slates[dome] == trial.roofs.room[dome]) {
                    take(passed, trial.masters.allBruises());
                    return;
                }
                if (passed < most) {
                    trial.passHour(law, trial.nextWind());
                }
            }
        }

        private void take(int itsHours, int itsBruises) {
            if (hours == NONE || itsHours < hours || itsHours == hours && itsBruises < bruises) {
                hours = itsHours;
                bruises = itsBruises;
                System.arraycopy(row, 0, bestRow, 0, MOST_TOLD);
            }
        }

        private void stepRow(int roofs) {
            for (int i = count - 1; i >= 0; i--) {
                row[i]++;
                if (row[i] < roofs) {
                    return;
                }
                row[i] = 0;
            }
        }

        void placeOn(Site site, int[] roofs) {
            for (int i = 0; i < count && i < roofs.length; i++) {
                if (site.apprentices.has(who[i])) {
                    site.apprentices.place[who[i]] = roofs[i];
                }
            }
        }

        int roofOf(int a) {
            for (int i = 0; i < count; i++) {
                if (who[i] == a) {
                    return bestRow[i];
                }
            }
            return NONE;
        }
    }

    /** LENT: how many ropes the MASTERS from one on can lend, by the APPRENTICES that have one already. */
    private static final class Lending {
        private static final int SETS = 1 << MOST_APPRENTICES;
        private static final int NOBODY = 8;

        int ropes = 0;
        final int[] borrower = new int[MOST_MASTERS];
        private final int[] may = new int[MOST_MASTERS];
        private final int[] most = new int[(MOST_MASTERS + 1) * SETS];

        void plan(Site site, int k) {
            int masters = site.masters.count;
            int sets = 1 << site.apprentices.count;
            for (int b = 0; b < masters; b++) {
                may[b] = borrowersOf(site, b, k);
            }
            for (int taken = 0; taken < sets; taken++) {
                most[masters * SETS + taken] = 0;
            }
            for (int b = masters - 1; b >= 0; b--) {
                for (int taken = 0; taken < sets; taken++) {
                    most[b * SETS + taken] = mostFrom(b, taken);
                }
            }
            ropes = most[0];
            tellRow(masters);
        }

        private static int borrowersOf(Site site, int b, int k) {
            int bits = 0;
            for (int a = 0; a < site.apprentices.count; a++) {
                if (site.masters.bruises[b] > 0 && site.apprentices.rope[a] == 0
                        && site.struck[a * MOST_MASTERS + b] >= k) {
                    bits |= 1 << a;
                }
            }
            return bits;
        }

        private int mostFrom(int b, int taken) {
            int best = most[(b + 1) * SETS + taken];
            for (int a = 0; a < MOST_APPRENTICES; a++) {
                if ((may[b] & ~taken & 1 << a) != 0) {
                    best = Math.max(best, 1 + most[(b + 1) * SETS + (taken | 1 << a)]);
                }
            }
            return best;
        }

        private void tellRow(int masters) {
            int taken = 0;
            for (int b = 0; b < masters; b++) {
                borrower[b] = leastBorrower(b, taken);
                if (borrower[b] != NOBODY) {
                    taken |= 1 << borrower[b];
                }
            }
        }

        private int leastBorrower(int b, int taken) {
            for (int a = 0; a < MOST_APPRENTICES; a++) {
                if ((may[b] & ~taken & 1 << a) != 0
                        && 1 + most[(b + 1) * SETS + (taken | 1 << a)] == most[b * SETS + taken]) {
                    return a;
                }
            }
            return NOBODY;
        }

        void handOut(Site site) {
            for (int b = 0; b < site.masters.count; b++) {
                if (site.apprentices.has(borrower[b])) {
                    site.apprentices.rope[borrower[b]] = 1;
                }
            }
        }
    }

    /** SETTLED: the most even sets by the POSITIONS that are in them so far. */
    private static final class Settling {
        int count = 0;
        private final int[] position = new int[MOST_POSITIONS];
        private final int[] sets = new int[1 << MOST_POSITIONS];

        /** Whether there are no more POSITIONS than may be. */
        boolean gather(Site site) {
            count = 0;
            boolean isFew = true;
            for (int a = 0; a < site.apprentices.count; a++) {
                isFew = add(-site.owedBy(a)) && isFew;
            }
            for (int b = 0; b < site.masters.count; b++) {
                isFew = add(site.owedTo(b)) && isFew;
            }
            return isFew;
        }

        private boolean add(int pence) {
            if (pence == 0) {
                return true;
            }
            if (count >= MOST_POSITIONS) {
                return false;
            }
            position[count] = pence;
            count++;
            return true;
        }

        int mostSets() {
            int all = (1 << count) - 1;
            sets[0] = 0;
            for (int chosen = 1; chosen <= all; chosen++) {
                int sum = 0;
                int best = 0;
                for (int i = 0; i < count; i++) {
                    if ((chosen >> i & 1) == 1) {
                        sum += position[i];
                        best = Math.max(best, sets[chosen ^ 1 << i]);
                    }
                }
                sets[chosen] = sum == 0 ? best + 1 : best;
            }
            return sets[all];
        }
    }

    /** THE CHAIN: MASTERS in rings about the last one, then inwards by the least APPRENTICES. */
    private static final class Chaining {
        int length = 0;
        final int[] row = new int[MOST_MASTERS];
        private final int[] ring = new int[MOST_MASTERS];
        private final int[] struck = new int[MOST_APPRENTICES];

        /** Whether there is one from MASTER b to MASTER c. */
        boolean search(Site site, int b, int c) {
            int apprentices = site.apprentices.count;
            for (int a = 0; a < apprentices; a++) {
                struck[a] = site.struckBy(a);
            }
            length = ringOf(b, c, apprentices);
            if (length == NONE) {
                return false;
            }
            int here = 1 << b;
            for (int i = 0; i < length && length < MOST_MASTERS; i++) {
                int inner = ring[length - 1 - i];
                row[i] = leastBetween(here, inner, apprentices);
                if (row[i] != NONE) {
                    here = struck[row[i]] & inner;
                }
            }
            return true;
        }

        /** In which ring about c b is; NONE if in none. */
        private int ringOf(int b, int c, int apprentices) {
            int seen = 1 << c;
            ring[0] = seen;
            for (int d = 0; d < MOST_MASTERS; d++) {
                if ((ring[d] >> b & 1) == 1) {
                    return d;
                }
                int next = 0;
                for (int a = 0; a < apprentices; a++) {
                    if ((struck[a] & ring[d]) != 0) {
                        next |= struck[a];
                    }
                }
                if ((next & ~seen) == 0 || d + 1 >= MOST_MASTERS) {
                    return NONE;
                }
                ring[d + 1] = next & ~seen;
                seen |= next;
            }
            return NONE;
        }

        private int leastBetween(int here, int inner, int apprentices) {
            for (int a = 0; a < apprentices; a++) {
                if ((struck[a] & here) != 0 && (struck[a] & inner) != 0) {
                    return a;
                }
            }
            return NONE;
        }
    }
}
