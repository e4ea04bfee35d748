import java.util.Arrays;

/**
 * Who can come to whom in a small net of points and arcs: a tree for each point, kept as arcs come
 * and go. The document's promises say what each call answers; README.md says how to use it.
 */
public final class ReachTrees {
    public static final int NONE = -1, UNKNOWN = -2, OUTSIDE = -3, NOT = -4, FULL = -5, NULL = -11, EMPTY = -12, CAST = -13, ROOM = -14;

    private static final int FEWEST_POINTS = 2;
    private static final int FIRST_POINTS = 4;
    private static final int MOST_POINTS = 10;
    private static final int MOST_ARCS = 40;
    private static final int MOST_LETTERS = 200;
    private static final int LAST_LETTER = 255;
    private static final int MOST_CLAUSES = 24;
    private static final int MOST_DIGITS = 2;
    private static final int MOST_UNDOABLE = 8;
    private static final int KEPT_NETS = 2;
    private static final int LAST_RULE = 3;
    private static final int FOLD_LIMIT = 1000;
    private static final int CHAINS = 3;
    private static final int MOST_THINGS = 8;
    private static final int GREATEST_NUMBER = 9999;
    private static final int NUMBER_SHIFT = 50000;
    private static final int SUM_SHIFT = 500000;
    private static final int ARC_BASE = 10;

    private static final int KIND_NET = 0;
    private static final int KIND_ARC = 1;
    private static final int KIND_RING = 2;
    private static final int KIND_PATH = 3;
    private static final int KIND_STAR = 4;
    private static final int KINDS = 5;
    private static final int MOST_NUMBERS = 3;

    private static final int TOKEN_END = 0;
    private static final int TOKEN_WORD = 1;
    private static final int TOKEN_NUMBER = 2;
    private static final int TOKEN_OTHER = 3;

    private final Letters letters;
    private final Reader reader;
    private final Net live;
    private final Past past;
    private final Net[] kept;
    private int keptSet;
    private final Cut cut;
    private final Chain[] chains;

    public ReachTrees() {
        letters = new Letters();
        reader = new Reader(letters);
        live = new Net();
        past = new Past();
        kept = new Net[KEPT_NETS];
        for (int k = 0; k < KEPT_NETS; k++) {
            kept[k] = new Net();
        }
        keptSet = 0;
        cut = new Cut();
        chains = new Chain[CHAINS];
        for (int c = 0; c < CHAINS; c++) {
            chains[c] = new Chain();
        }
    }

    // ---- what is told

    public int write(int letter) {
        if (letter < 0 || letter > LAST_LETTER) {
            return OUTSIDE;
        }
        if (letters.length >= MOST_LETTERS) {
            return FULL;
        }
        letters.row[letters.length] = letter;
        letters.length++;
        return letters.length;
    }

    public int erase() {
        int had = letters.length;
        letters.length = 0;
        return had;
    }

    public int fault() {
        return reader.readAll(live.points);
    }

    public int net() {
        if (reader.readAll(live.points) != NONE) {
            return NOT;
        }
        for (int c = 0; c < reader.clauses; c++) {
            doClause(c);
        }
        letters.length = 0;
        past.forget();
        keptSet = 0;
        for (int c = 0; c < CHAINS; c++) {
            chains[c].vanish();
        }
        return reader.clauses;
    }

    private void doClause(int c) {
        int u = reader.numberOf(c, 0);
        int v = reader.numberOf(c, 1);
        int w = reader.numberOf(c, 2);
        switch (reader.kinds[c]) {
            case KIND_NET:
                live.makeEmpty(u);
                break;
            case KIND_ARC:
                putIfNew(u, v);
                break;
            case KIND_RING:
                putIfNew(u, v);
                putIfNew(v, w);
                putIfNew(w, u);
                break;
            case KIND_PATH:
                putIfNew(u, v);
                putIfNew(v, w);
                break;
            default:
                putIfNew(u, v);
                putIfNew(u, w);
                break;
        }
    }

    private void putIfNew(int u, int v) {
        if (!live.hasArc(u, v) && live.arcs() < MOST_ARCS) {
            live.putIn(u, v);
        }
    }

    // ---- what is done

    public int put(int u, int v) {
        if (!arePair(u, v)) {
            return UNKNOWN;
        }
        if (live.hasArc(u, v)) {
            return NOT;
        }
        if (live.arcs() >= MOST_ARCS) {
            return FULL;
        }
        past.note(live);
        int pairsBefore = live.pairs();
        live.putIn(u, v);
        return live.pairs() - pairsBefore;
    }

    public int take(int from, int to) {
        int all = live.allPoints();
        if ((from & ~all) != 0 || (to & ~all) != 0) {
            return OUTSIDE;
        }
        int arcsTaken = live.arcsBetween(from, to);
        if (arcsTaken == 0) {
            return NOT;
        }
        past.note(live);
        live.takeOut(from, to);
        return arcsTaken;
    }

    public int clear() {
        int work = live.work;
        if (work == 0) {
            return NOT;
        }
        past.note(live);
        live.work = 0;
        return work;
    }

    public int undo() {
        if (past.size == 0) {
            return NOT;
        }
        past.restore(live);
        return past.size;
    }

    public int keep(int k) {
        if (k < 0 || k >= KEPT_NETS) {
            return UNKNOWN;
        }
        kept[k].copyFrom(live);
        keptSet |= 1 << k;
        return live.arcs();
    }

    public int back(int k) {
        if (k < 0 || k >= KEPT_NETS) {
            return UNKNOWN;
        }
        if (!has(keptSet, k)) {
            return NOT;
        }
        live.copyFrom(kept[k]);
        past.forget();
        return live.arcs();
    }

    // ---- who can come to whom

    public int arc(int u, int v) {
        if (!arePair(u, v)) {
            return UNKNOWN;
        }
        return live.hasArc(u, v) ? 1 : 0;
    }

    public int reaches(int u, int v) {
        if (!isPoint(u) || !isPoint(v)) {
            return UNKNOWN;
        }
        return live.comesTo(u, v) ? 1 : 0;
    }

    public int above(int s, int v) {
        if (!isPoint(s) || !isPoint(v)) {
            return UNKNOWN;
        }
        return live.aboveOf(s, v);
    }

    public int way(int s, int v, int k) {
        if (!isPoint(s) || !isPoint(v)) {
            return UNKNOWN;
        }
        if (k < 0) {
            return OUTSIDE;
        }
        if (!live.comesTo(s, v)) {
            return NONE;
        }
        int steps = live.depthOf(s, v);
        return k > steps ? NONE : live.climb(s, v, steps - k);
    }

    public int around(int s, int what) {
        if (!isPoint(s)) {
            return UNKNOWN;
        }
        switch (what) {
            case 0:
                return live.members[s];
            case 1:
                return live.comersTo(s);
            case 2:
                return live.ringOf(s);
            default:
                return OUTSIDE;
        }
    }

    public int needless(int u, int v) {
        if (!isArcThere(u, v)) {
            return UNKNOWN;
        }
        return live.isNeedless(u, v) ? 1 : 0;
    }

    public int reduced() {
        if (live.rings() < live.points) {
            return NOT;
        }
        return live.arcs() - live.needlessArcs();
    }

    public int fold(int rule, int x) {
        if (rule < 0 || rule > LAST_RULE || x < 0 || x >= FOLD_LIMIT) {
            return OUTSIDE;
        }
        int folded = x;
        for (int u = 0; u < live.points; u++) {
            for (int v = 0; v < live.points; v++) {
                if (u != v) {
                    folded = foldPair(rule, folded, u, v);
                }
            }
        }
        return folded;
    }

    private int foldPair(int rule, int x, int u, int v) {
        boolean reached = live.comesTo(u, v);
        if (rule == LAST_RULE) {
            return (2 * x + (reached ? 1 : 0)) % FOLD_LIMIT;
        }
        if (!reached) {
            return x;
        }
        switch (rule) {
            case 0:
                return x + 1;
            case 1:
                return x + u + v;
            default:
                return Math.max(x, tell(u, v));
        }
    }

    // ---- foretold

    public int gain(int u, int v, int what) {
        if (!arePair(u, v)) {
            return UNKNOWN;
        }
        if (what < 0 || what > 1) {
            return OUTSIDE;
        }
        if (live.hasArc(u, v)) {
            return NOT;
        }
        return what == 0 ? live.pairsGained(u, v) : live.workGained(u, v);
    }

    public int best() {
        int bestArc = NONE;
        int bestGain = -1;
        for (int u = 0; u < live.points; u++) {
            for (int v = 0; v < live.points; v++) {
                if (u != v && !live.hasArc(u, v)) {
                    int gained = live.pairsGained(u, v);
                    if (gained > bestGain) {
                        bestGain = gained;
                        bestArc = tell(u, v);
                    }
                }
            }
        }
        return bestArc;
    }

    public int loss(int u, int v) {
        if (!isArcThere(u, v)) {
            return UNKNOWN;
        }
        return live.pairsLost(u, v);
    }

    public int worst() {
        int worstArc = NONE;
        int worstLoss = -1;
        for (int u = 0; u < live.points; u++) {
            for (int v = 0; v < live.points; v++) {
                if (live.hasArc(u, v)) {
                    int lost = live.pairsLost(u, v);
                    if (lost > worstLoss) {
                        worstLoss = lost;
                        worstArc = tell(u, v);
                    }
                }
            }
        }
        return worstArc;
    }

    public int sever(int u, int v) {
        if (!arePair(u, v)) {
            return UNKNOWN;
        }
        return cut.fewestArcs(live, u, v);
    }

    // ---- chains

    public int chain(int chain) {
        if (!isChain(chain)) {
            return UNKNOWN;
        }
        chains[chain].begin();
        return 0;
    }

    public int add(int chain, int what, int end, int v) {
        if (!isChain(chain) || (what == 1 && !isTellable(v))) {
            return UNKNOWN;
        }
        if (what < 0 || what > 1 || end < 0 || end > 1) {
            return OUTSIDE;
        }
        if (what == 0 && (v < -GREATEST_NUMBER || v > GREATEST_NUMBER)) {
            return OUTSIDE;
        }
        Chain c = chains[chain];
        if (c.missing) {
            return NULL;
        }
        if (c.size >= MOST_THINGS) {
            return ROOM;
        }
        c.insert(end == 1 ? c.size : 0, v, what == 1);
        return c.size;
    }

    public int last(int chain, int what) {
        if (!isChain(chain)) {
            return UNKNOWN;
        }
        if (what < 0 || what > 1) {
            return OUTSIDE;
        }
        Chain c = chains[chain];
        if (c.missing) {
            return NULL;
        }
        if (c.size == 0) {
            return EMPTY;
        }
        int lastThing = c.size - 1;
        if (c.isArc[lastThing] != (what == 1)) {
            return CAST;
        }
        c.size = lastThing;
        return what == 1 ? c.values[lastThing] : c.values[lastThing] + NUMBER_SHIFT;
    }

    public int sum(int chain, int what) {
        if (!isChain(chain)) {
            return UNKNOWN;
        }
        if (what < 0 || what > 2) {
            return OUTSIDE;
        }
        if (chains[chain].missing) {
            return NULL;
        }
        return chains[chain].total(what != 1, what != 0) + SUM_SHIFT;
    }

    public int strike(int chain, int what) {
        if (!isChain(chain)) {
            return UNKNOWN;
        }
        if (what < 0 || what > 1) {
            return OUTSIDE;
        }
        if (chains[chain].missing) {
            return NULL;
        }
        return strikeArcs(chains[chain], what == 1);
    }

    private int strikeArcs(Chain c, boolean there) {
        int sizeBefore = c.size;
        int left = 0;
        for (int i = 0; i < sizeBefore; i++) {
            boolean goes = c.isArc[i] && live.hasArc(c.values[i] / ARC_BASE, c.values[i] % ARC_BASE) == there;
            if (!goes) {
                c.values[left] = c.values[i];
                c.isArc[left] = c.isArc[i];
                left++;
            }
        }
        c.size = left;
        return sizeBefore - left;
    }

    public int append(int from, int to) {
        if (!isChain(from) || !isChain(to)) {
            return UNKNOWN;
        }
        Chain source = chains[from];
        Chain goal = chains[to];
        if (source.missing || goal.missing) {
            return NULL;
        }
        // Told ahead of the loop: when a chain is appended to itself its size grows meanwhile.
        int things = source.size;
        if (goal.size + things > MOST_THINGS) {
            return ROOM;
        }
        for (int i = 0; i < things; i++) {
            goal.insert(goal.size, source.values[i], source.isArc[i]);
        }
        return goal.size;
    }

    public int drop(int chain) {
        if (!isChain(chain)) {
            return UNKNOWN;
        }
        if (chains[chain].missing) {
            return NULL;
        }
        int had = chains[chain].size;
        chains[chain].vanish();
        return had;
    }

    public int count(int what) {
        switch (what) {
            case 0:
                return live.points;
            case 1:
                return live.arcs();
            case 2:
                return live.pairs();
            case 3:
                return live.work;
            case 4:
                return live.rings();
            case 5:
                return live.needlessArcs();
            case 6:
                return thingsOfChains();
            case 7:
                return past.size;
            case 8:
                return letters.length;
            default:
                return OUTSIDE;
        }
    }

    private int thingsOfChains() {
        int things = 0;
        for (int c = 0; c < CHAINS; c++) {
            things += chains[c].size;
        }
        return things;
    }

    private boolean isPoint(int p) {
        return p >= 0 && p < live.points;
    }

    private boolean arePair(int u, int v) {
        return isPoint(u) && isPoint(v) && u != v;
    }

    private boolean isArcThere(int u, int v) {
        return arePair(u, v) && live.hasArc(u, v);
    }

    private boolean isTellable(int told) {
        return told >= 0 && arePair(told / ARC_BASE, told % ARC_BASE);
    }

    private static boolean isChain(int chain) {
        return chain >= 0 && chain < CHAINS;
    }

    private static int tell(int u, int v) {
        return ARC_BASE * u + v;
    }

    private static boolean has(int set, int p) {
        return (set & (1 << p)) != 0;
    }

    /** The lowest point of a set that is not empty. */
    private static int lowest(int set) {
        return Integer.bitCount((set & -set) - 1);
    }

    /** Points, arcs, trees and work; sets of points are bits, so that an arc's ORDER is the bits' order. */
    private static final class Net {
        int points;
        int work;
        final int[] outgoing = new int[MOST_POINTS];
        final int[] members = new int[MOST_POINTS];
        final int[] aboves = new int[MOST_POINTS * MOST_POINTS];

        Net() {
            makeEmpty(FIRST_POINTS);
        }

        void makeEmpty(int howMany) {
            points = howMany;
            work = 0;
            Arrays.fill(outgoing, 0);
            Arrays.fill(aboves, NONE);
            for (int s = 0; s < MOST_POINTS; s++) {
                members[s] = 1 << s;
            }
        }

        void copyFrom(Net other) {
            points = other.points;
            work = other.work;
            System.arraycopy(other.outgoing, 0, outgoing, 0, MOST_POINTS);
            System.arraycopy(other.members, 0, members, 0, MOST_POINTS);
            System.arraycopy(other.aboves, 0, aboves, 0, MOST_POINTS * MOST_POINTS);
        }

        int allPoints() {
            return (1 << points) - 1;
        }

        boolean hasArc(int u, int v) {
            return has(outgoing[u], v);
        }

        int arcs() {
            return arcsBetween(allPoints(), allPoints());
        }

        int arcsBetween(int from, int to) {
            int arcs = 0;
            for (int u = 0; u < points; u++) {
                if (has(from, u)) {
                    arcs += Integer.bitCount(outgoing[u] & to);
                }
            }
            return arcs;
        }

        boolean comesTo(int u, int v) {
            return has(members[u], v);
        }

        int pairs() {
            int pairs = 0;
            for (int s = 0; s < points; s++) {
                pairs += Integer.bitCount(members[s]) - 1;
            }
            return pairs;
        }

        int aboveOf(int s, int v) {
            return aboves[s * MOST_POINTS + v];
        }

        int depthOf(int s, int v) {
            int depth = 0;
            int p = v;
            while (p != s && p != NONE && depth < MOST_POINTS) {
                p = aboveOf(s, p);
                depth++;
            }
            return depth;
        }

        int climb(int s, int v, int steps) {
            int p = v;
            for (int i = 0; i < steps && p != NONE; i++) {
                p = aboveOf(s, p);
            }
            return p;
        }

        void putIn(int u, int v) {
            outgoing[u] |= 1 << v;
            for (int s = 0; s < points; s++) {
                if (comesTo(s, u)) {
                    work++;
                    if (!comesTo(s, v)) {
                        graft(s, v, u, 1);
                    }
                }
            }
        }

        private void graft(int s, int p, int under, int depth) {
            // Each level adds a point to the tree, so no net comes deeper than this.
            if (depth > MOST_POINTS) {
                return;
            }
            members[s] |= 1 << p;
            aboves[s * MOST_POINTS + p] = under;
            followArcs(s, p, depth);
        }

        private void followArcs(int s, int p, int depth) {
            for (int q = 0; q < points; q++) {
                if (hasArc(p, q)) {
                    work++;
                    if (!comesTo(s, q)) {
                        graft(s, q, p, depth + 1);
                    }
                }
            }
        }

        void takeOut(int from, int to) {
            for (int u = 0; u < points; u++) {
                if (has(from, u)) {
                    outgoing[u] &= ~to;
                }
            }
            for (int s = 0; s < points; s++) {
                if (stoodOn(s, from, to)) {
                    makeAnew(s);
                }
            }
        }

        /** All arcs between the two sets have gone, so a tree stood on one if a point of it hangs so. */
        private boolean stoodOn(int s, int from, int to) {
            for (int p = 0; p < points; p++) {
                int over = aboveOf(s, p);
                if (over != NONE && has(from, over) && has(to, p)) {
                    return true;
                }
            }
            return false;
        }

        private void makeAnew(int s) {
            members[s] = 1 << s;
            for (int p = 0; p < points; p++) {
                aboves[s * MOST_POINTS + p] = NONE;
            }
            followArcs(s, s, 0);
        }

        int comersTo(int v) {
            int comers = 0;
            for (int s = 0; s < points; s++) {
                if (comesTo(s, v)) {
                    comers |= 1 << s;
                }
            }
            return comers;
        }

        int ringOf(int s) {
            return members[s] & comersTo(s);
        }

        int rings() {
            int rings = 0;
            for (int s = 0; s < points; s++) {
                if (lowest(ringOf(s)) == s) {
                    rings++;
                }
            }
            return rings;
        }

        boolean isNeedless(int u, int v) {
            return has(membersWithout(u, u, v), v);
        }

        int needlessArcs() {
            int needless = 0;
            for (int u = 0; u < points; u++) {
                for (int v = 0; v < points; v++) {
                    if (hasArc(u, v) && isNeedless(u, v)) {
                        needless++;
                    }
                }
            }
            return needless;
        }

        /** The points to which s could come if the arc from u to v were not there. */
        private int membersWithout(int s, int u, int v) {
            int seen = 1 << s;
            int waiting = seen;
            for (int i = 0; i < MOST_POINTS && waiting != 0; i++) {
                int p = lowest(waiting);
                int next = p == u ? outgoing[p] & ~(1 << v) : outgoing[p];
                waiting = (waiting & ~(1 << p)) | (next & ~seen);
                seen |= next;
            }
            return seen;
        }

        int pairsLost(int u, int v) {
            int lost = 0;
            for (int s = 0; s < points; s++) {
                // A tree that does not stand on the arc keeps all its points without it.
                if (aboveOf(s, v) == u) {
                    lost += Integer.bitCount(members[s] & ~membersWithout(s, u, v));
                }
            }
            return lost;
        }

        /**
         * What the tree of s would get by an arc from u to v. A tree holds all that its points come
         * to, so what is new is just what v comes to and the tree has not.
         */
        private int newMembers(int s, int u, int v) {
            return comesTo(s, u) ? members[v] & ~members[s] : 0;
        }

        int pairsGained(int u, int v) {
            int gained = 0;
            for (int s = 0; s < points; s++) {
                gained += Integer.bitCount(newMembers(s, u, v));
            }
            return gained;
        }

        int workGained(int u, int v) {
            int gained = 0;
            for (int s = 0; s < points; s++) {
                if (comesTo(s, u)) {
                    gained += 1 + arcsBetween(newMembers(s, u, v), allPoints());
                }
            }
            return gained;
        }
    }

    /** The nets ahead of the latest doings, in a round of rows that are used again. */
    private static final class Past {
        final Net[] notes = new Net[MOST_UNDOABLE];
        int next;
        int size;

        Past() {
            for (int i = 0; i < MOST_UNDOABLE; i++) {
                notes[i] = new Net();
            }
        }

        void note(Net net) {
            notes[next].copyFrom(net);
            next = (next + 1) % MOST_UNDOABLE;
            size = Math.min(size + 1, MOST_UNDOABLE);
        }

        void restore(Net net) {
            next = (next + MOST_UNDOABLE - 1) % MOST_UNDOABLE;
            size--;
            net.copyFrom(notes[next]);
        }

        void forget() {
            size = 0;
        }
    }

    /**
     * The fewest arcs that part two points are as many as the ways between them that share no arc;
     * ways are found one by one, each free to run back over an arc that an earlier one uses.
     */
    private static final class Cut {
        final int[] used = new int[MOST_POINTS];
        final int[] usedInto = new int[MOST_POINTS];
        final int[] cameFrom = new int[MOST_POINTS];

        int fewestArcs(Net net, int u, int v) {
            Arrays.fill(used, 0);
            Arrays.fill(usedInto, 0);
            int ways = 0;
            while (ways < MOST_POINTS && findWay(net, u, v)) {
                useWay(u, v);
                ways++;
            }
            return ways;
        }

        private boolean findWay(Net net, int u, int v) {
            int seen = 1 << u;
            int waiting = seen;
            for (int i = 0; i < MOST_POINTS && waiting != 0 && !has(seen, v); i++) {
                int p = lowest(waiting);
                int fresh = ((net.outgoing[p] & ~used[p]) | usedInto[p]) & ~seen;
                for (int q = 0; q < net.points; q++) {
                    if (has(fresh, q)) {
                        cameFrom[q] = p;
                    }
                }
                seen |= fresh;
                waiting = (waiting & ~(1 << p)) | fresh;
            }
            return has(seen, v);
        }

        private void useWay(int u, int v) {
            int q = v;
            for (int i = 0; i < MOST_POINTS && q != u; i++) {
                int p = cameFrom[q];
                useStep(p, q);
                q = p;
            }
        }

        private void useStep(int p, int q) {
            if (has(usedInto[p], q)) {
                used[q] &= ~(1 << p);
                usedInto[p] &= ~(1 << q);
            } else {
                used[p] |= 1 << q;
                usedInto[q] |= 1 << p;
            }
        }
    }

    private static final class Letters {
        final int[] row = new int[MOST_LETTERS];
        int length;
    }

    /** Reads the text to its first fault and notes the clauses ahead of it. */
    private static final class Reader {
        final Letters letters;
        final int[] kinds = new int[MOST_CLAUSES];
        final int[] numbers = new int[MOST_CLAUSES * MOST_NUMBERS];
        int clauses;
        int tokenSort;
        int tokenStart;
        int tokenEnd;

        Reader(Letters letters) {
            this.letters = letters;
        }

        int numberOf(int clause, int place) {
            return numbers[clause * MOST_NUMBERS + place];
        }

        /** The place of the fault, or NONE; the net clauses on the way set the bounds of those behind. */
        int readAll(int pointsNow) {
            int points = pointsNow;
            clauses = 0;
            tokenEnd = 0;
            while (clauses < MOST_CLAUSES) {
                if (!readClause(points)) {
                    return tokenStart;
                }
                if (kinds[clauses] == KIND_NET) {
                    points = numberOf(clauses, 0);
                }
                clauses++;
                nextToken();
                if (tokenSort == TOKEN_END) {
                    return NONE;
                }
                if (!isSemicolon()) {
                    return tokenStart;
                }
            }
            // A semicolon asks for one clause more than there may be.
            return tokenStart;
        }

        private boolean readClause(int points) {
            nextToken();
            int kind = kindOfToken();
            if (kind == NONE) {
                return false;
            }
            kinds[clauses] = kind;
            int wanted = numbersOf(kind);
            for (int i = 0; i < wanted; i++) {
                nextToken();
                if (!takeNumber(kind, i, points)) {
                    return false;
                }
            }
            return true;
        }

        private boolean takeNumber(int kind, int place, int points) {
            if (tokenSort != TOKEN_NUMBER || tokenEnd - tokenStart > MOST_DIGITS) {
                return false;
            }
            int number = tokenNumber();
            int least = kind == KIND_NET ? FEWEST_POINTS : 0;
            int most = kind == KIND_NET ? MOST_POINTS : points - 1;
            if (number < least || number > most) {
                return false;
            }
            for (int i = 0; i < place; i++) {
                if (numberOf(clauses, i) == number) {
                    return false;
                }
            }
            numbers[clauses * MOST_NUMBERS + place] = number;
            return true;
        }

        private int tokenNumber() {
            int number = 0;
            for (int i = tokenStart; i < tokenEnd; i++) {
                number = 10 * number + letters.row[i] - '0';
            }
            return number;
        }

        private void nextToken() {
            int i = tokenEnd;
            while (i < letters.length && letters.row[i] == ' ') {
                i++;
            }
            tokenStart = i;
            if (i >= letters.length) {
                tokenSort = TOKEN_END;
                tokenEnd = i;
                return;
            }
            tokenSort = sortOf(letters.row[i]);
            i++;
            while (tokenSort != TOKEN_OTHER && i < letters.length && sortOf(letters.row[i]) == tokenSort) {
                i++;
            }
            tokenEnd = i;
        }

        private static int sortOf(int letter) {
            if (letter >= 'a' && letter <= 'z') {
                return TOKEN_WORD;
            }
            return letter >= '0' && letter <= '9' ? TOKEN_NUMBER : TOKEN_OTHER;
        }

        private boolean isSemicolon() {
            return tokenSort == TOKEN_OTHER && letters.row[tokenStart] == ';';
        }

        private int kindOfToken() {
            if (tokenSort != TOKEN_WORD) {
                return NONE;
            }
            for (int kind = 0; kind < KINDS; kind++) {
                if (tokenIs(wordOf(kind))) {
                    return kind;
                }
            }
            return NONE;
        }

        private boolean tokenIs(String word) {
            if (tokenEnd - tokenStart != word.length()) {
                return false;
            }
            for (int i = 0; i < word.length(); i++) {
                if (letters.row[tokenStart + i] != word.charAt(i)) {
                    return false;
                }
            }
            return true;
        }

        private static String wordOf(int kind) {
            switch (kind) {
                case KIND_NET:
                    return "net";
                case KIND_ARC:
                    return "arc";
                case KIND_RING:
                    return "ring";
                case KIND_PATH:
                    return "path";
                default:
                    return "star";
            }
        }

        private static int numbersOf(int kind) {
            switch (kind) {
                case KIND_NET:
                    return 1;
                case KIND_ARC:
                    return 2;
                default:
                    return MOST_NUMBERS;
            }
        }
    }

    /** A row of numbers and arcs (as they are told), or missing. */
    private static final class Chain {
        final int[] values = new int[MOST_THINGS];
        final boolean[] isArc = new boolean[MOST_THINGS];
        boolean missing = true;
        int size;

        void begin() {
            missing = false;
            size = 0;
        }

        void vanish() {
            missing = true;
            size = 0;
        }

        void insert(int place, int value, boolean arc) {
            for (int i = size; i > place; i--) {
                values[i] = values[i - 1];
                isArc[i] = isArc[i - 1];
            }
            values[place] = value;
            isArc[place] = arc;
            size++;
        }

        int total(boolean ofNumbers, boolean ofArcs) {
            int total = 0;
            for (int i = 0; i < size; i++) {
                if (isArc[i] ? ofArcs : ofNumbers) {
                    total += values[i];
                }
            }
            return total;
        }
    }
}
