/**
 * Four relations between eight things.
 *
 * A relation is held as one long, the pair (x, y) as its bit 8 * x + y: so the image of a thing is
 * a row of eight bits, and no call but text has to make an object.
 */
public final class Relationkeys {
    private static final int NONE = -1;
    private static final int REFUSED = -9;
    private static final int RELATIONS = 4;
    private static final int THINGS = 8;
    private static final int EVERY_THING = 255;
    private static final int KINDS = 10;
    private static final int EQUIVALENCE = 9;
    private static final int CLOSURES = 4;
    private static final int HIGHEST_POWER = 9;
    private static final int HOUSE_ROWS = 5;
    private static final long NO_PAIR = 0L;
    private static final long EVERY_PAIR = -1L;
    private static final long IDENTITY = 0x8040201008040201L;
    private static final long DIGEST_START = 7845L;
    private static final long DIGEST_FACTOR = 31L;

    private final long[] relations;
    private int refusals;
    private int knocks;

    public Relationkeys() {
        relations = new long[RELATIONS];
        refusals = 0;
        knocks = 0;
    }

    // ---- pairs come and go

    public int put(int relation, int x, int y) throws IndexOutOfBoundsException, IllegalArgumentException {
        long before = pairsOf(relation);
        checkThing(x);
        checkThing(y);
        return change(relation, before | Pairs.single(x, y));
    }

    public int take(int relation, int x, int y) throws IndexOutOfBoundsException, IllegalArgumentException {
        long before = pairsOf(relation);
        checkThing(x);
        checkThing(y);
        return change(relation, before & ~Pairs.single(x, y));
    }

    public int aim(int relation, int x, int set) throws IndexOutOfBoundsException, IllegalArgumentException {
        long before = pairsOf(relation);
        checkThing(x);
        checkSet(set);
        change(relation, Pairs.withImage(before, x, set));
        return Pairs.imageOf(before, x);
    }

    public int send(int relation, int x, int y) throws IndexOutOfBoundsException, IllegalArgumentException {
        long before = pairsOf(relation);
        checkThing(x);
        checkThing(y);
        return change(relation, Pairs.withImage(before, x, 1 << y));
    }

    public int clear(int relation) throws IndexOutOfBoundsException {
        return change(relation, NO_PAIR);
    }

    public int fill(int relation) throws IndexOutOfBoundsException {
        return change(relation, EVERY_PAIR);
    }

    public int same(int relation) throws IndexOutOfBoundsException {
        long before = pairsOf(relation);
        change(relation, IDENTITY);
        return Long.bitCount(before & IDENTITY);
    }

    public int copy(int from, int into) throws IndexOutOfBoundsException {
        return become(into, pairsOf(from));
    }

    public int firsts(int relation, int set) throws IndexOutOfBoundsException, IllegalArgumentException {
        long before = pairsOf(relation);
        checkSet(set);
        return change(relation, before & Pairs.product(set, EVERY_THING));
    }

    public int seconds(int relation, int set) throws IndexOutOfBoundsException, IllegalArgumentException {
        long before = pairsOf(relation);
        checkSet(set);
        return change(relation, before & Pairs.product(EVERY_THING, set));
    }

    // ---- algebra

    public int unite(int relation, int other) throws IndexOutOfBoundsException {
        return become(relation, Pairs.united(pairsOf(relation), pairsOf(other)));
    }

    public int meet(int relation, int other) throws IndexOutOfBoundsException {
        return become(relation, Pairs.met(pairsOf(relation), pairsOf(other)));
    }

    public int less(int relation, int other) throws IndexOutOfBoundsException {
        return become(relation, pairsOf(relation) & ~pairsOf(other));
    }

    public int part(int relation, int other) throws IndexOutOfBoundsException {
        return become(relation, pairsOf(relation) ^ pairsOf(other));
    }

    public int flip(int relation) throws IndexOutOfBoundsException {
        return become(relation, Pairs.complement(pairsOf(relation)));
    }

    public int turn(int relation) throws IndexOutOfBoundsException {
        long before = pairsOf(relation);
        long after = Pairs.turned(before);
        become(relation, after);
        return Long.bitCount(after & ~before);
    }

    public int through(int one, int other, int into) throws IndexOutOfBoundsException {
        return become(into, Pairs.chained(pairsOf(one), pairsOf(other)));
    }

    public int power(int relation, int n) throws IndexOutOfBoundsException, IllegalArgumentException {
        long before = pairsOf(relation);
        if (n < 0 || n > HIGHEST_POWER) {
            throw new IllegalArgumentException("n is not 0 to 9");
        }
        return become(relation, Pairs.raised(before, n));
    }

    public int residual(int one, int other, int into) throws IndexOutOfBoundsException {
        return become(into, Pairs.residualOf(pairsOf(one), pairsOf(other)));
    }

    public int close(int relation, int which) throws IndexOutOfBoundsException, IllegalArgumentException {
        long before = pairsOf(relation);
        if (which < 0 || which >= CLOSURES) {
            throw new IllegalArgumentException("no such closure");
        }
        return change(relation, Pairs.closed(before, which));
    }

    public int kernel(int relation, int into) throws IndexOutOfBoundsException {
        return become(into, Pairs.kernelOf(pairsOf(relation)));
    }

    public int fold(int relation, int equivalence, int into) throws IndexOutOfBoundsException {
        long pairs = pairsOf(relation);
        long classes = pairsOf(equivalence);
        checkRelation(into);
        if (!Pairs.isOfKind(classes, EQUIVALENCE)) {
            return refuse();
        }
        return become(into, Pairs.folded(pairs, classes));
    }

    // ---- what is asked

    public boolean has(int relation, int x, int y) throws IndexOutOfBoundsException, IllegalArgumentException {
        long pairs = pairsOf(relation);
        checkThing(x);
        checkThing(y);
        return Pairs.holds(pairs, x, y);
    }

    public int count(int relation) throws IndexOutOfBoundsException {
        return Long.bitCount(pairsOf(relation));
    }

    public int image(int relation, int x) throws IndexOutOfBoundsException, IllegalArgumentException {
        long pairs = pairsOf(relation);
        checkThing(x);
        return Pairs.imageOf(pairs, x);
    }

    public int source(int relation, int y) throws IndexOutOfBoundsException, IllegalArgumentException {
        long pairs = pairsOf(relation);
        checkThing(y);
        return Pairs.sourceOf(pairs, y);
    }

    public int ends(int relation, boolean areSecond) throws IndexOutOfBoundsException {
        long pairs = pairsOf(relation);
        return areSecond ? Pairs.secondsOf(pairs) : Pairs.firstsOf(pairs);
    }

    public boolean hasImage(int relation, int set) throws IndexOutOfBoundsException, IllegalArgumentException {
        long pairs = pairsOf(relation);
        checkSet(set);
        return Pairs.hasImageBefore(pairs, set, THINGS);
    }

    public int images(int relation) throws IndexOutOfBoundsException {
        return Pairs.unlikeImages(pairsOf(relation));
    }

    public int apply(int relation, int x) throws IndexOutOfBoundsException, IllegalArgumentException {
        long pairs = pairsOf(relation);
        checkThing(x);
        int image = Pairs.imageOf(pairs, x);
        if (Integer.bitCount(image) > 1) {
            return refuse();
        }
        return Pairs.smallest(image);
    }

    public int reach(int relation, int x) throws IndexOutOfBoundsException, IllegalArgumentException {
        long pairs = pairsOf(relation);
        checkThing(x);
        return Pairs.imageOf(Pairs.joined(pairs), x);
    }

    public int steps(int relation, int x, int y) throws IndexOutOfBoundsException, IllegalArgumentException {
        long pairs = pairsOf(relation);
        checkThing(x);
        checkThing(y);
        return Pairs.leastSteps(pairs, x, y);
    }

    public boolean hasRing(int relation) throws IndexOutOfBoundsException {
        return (Pairs.joined(pairsOf(relation)) & IDENTITY) != NO_PAIR;
    }

    public int fixed(int relation) throws IndexOutOfBoundsException {
        return Pairs.fixedOf(pairsOf(relation));
    }

    public boolean is(int relation, int kind) throws IndexOutOfBoundsException, IllegalArgumentException {
        long pairs = pairsOf(relation);
        if (kind < 0 || kind >= KINDS) {
            throw new IllegalArgumentException("no such kind");
        }
        return Pairs.isOfKind(pairs, kind);
    }

    public int classOf(int relation, int x) throws IndexOutOfBoundsException, IllegalArgumentException {
        long pairs = pairsOf(relation);
        checkThing(x);
        if (!Pairs.isOfKind(pairs, EQUIVALENCE)) {
            return refuse();
        }
        return Pairs.imageOf(pairs, x);
    }

    public int classes(int relation) throws IndexOutOfBoundsException {
        long pairs = pairsOf(relation);
        if (!Pairs.isOfKind(pairs, EQUIVALENCE)) {
            return refuse();
        }
        return Pairs.unlikeImages(pairs);
    }

    public boolean isWithin(int relation, int other) throws IndexOutOfBoundsException {
        return Pairs.isPartOf(pairsOf(relation), pairsOf(other));
    }

    public boolean areAlike(int relation, int other) throws IndexOutOfBoundsException {
        return pairsOf(relation) == pairsOf(other);
    }

    public boolean areApart(int relation, int other) throws IndexOutOfBoundsException {
        return (pairsOf(relation) & pairsOf(other)) == NO_PAIR;
    }

    public int hash(int relation) throws IndexOutOfBoundsException {
        return Pairs.hashOf(pairsOf(relation));
    }

    public String text(int relation) throws IndexOutOfBoundsException {
        return Texts.textOf(pairsOf(relation));
    }

    // ---- the whole

    public int knock() {
        knocks++;
        return knocks;
    }

    public int house(int what) throws IllegalArgumentException {
        switch (what) {
            case 0:
                return pairsOfAll();
            case 1:
                return refusals;
            case 2:
                return knocks;
            case 3:
                return emptyRelations();
            case 4:
                return equivalences();
            default:
                throw new IllegalArgumentException("what is not 0 to 4");
        }
    }

    public boolean isSound() {
        for (int relation = 0; relation < RELATIONS; relation++) {
            long next = pairsOf((relation + 1) % RELATIONS);
            long behind = pairsOf((relation + 2) % RELATIONS);
            if (!Laws.areKept(pairsOf(relation), next, behind)) {
                return false;
            }
        }
        return true;
    }

    public long digest() {
        long sum = DIGEST_START;
        for (int what = 0; what < HOUSE_ROWS; what++) {
            sum = mixed(sum, house(what));
        }
        for (int relation = 0; relation < RELATIONS; relation++) {
            long pairs = pairsOf(relation);
            sum = mixedNumbers(sum, pairs);
            sum = mixedThings(sum, pairs);
            sum = mixedKinds(sum, pairs);
            sum = mixedOthers(sum, pairs);
        }
        return mixed(sum, isSound() ? 1 : 0);
    }

    // ---- what is looked at before a call changes anything

    private static void checkRelation(int relation) {
        if (relation < 0 || relation >= RELATIONS) {
            throw new IndexOutOfBoundsException("no such relation");
        }
    }

    private static void checkThing(int thing) {
        if (thing < 0 || thing >= THINGS) {
            throw new IllegalArgumentException("no such thing");
        }
    }

    private static void checkSet(int set) {
        if (set < 0 || set > EVERY_THING) {
            throw new IllegalArgumentException("no such set");
        }
    }

    // ---- the state

    private long pairsOf(int relation) {
        checkRelation(relation);
        return relations[relation];
    }

    /** Answers how many pairs the relation has then. */
    private int become(int relation, long pairs) {
        checkRelation(relation);
        relations[relation] = pairs;
        return Long.bitCount(pairs);
    }

    /** Answers how many pairs went and came. */
    private int change(int relation, long pairs) {
        long before = pairsOf(relation);
        become(relation, pairs);
        return Long.bitCount(before ^ pairs);
    }

    private int refuse() {
        refusals++;
        return REFUSED;
    }

    // ---- the numbers of the house

    private int pairsOfAll() {
        int sum = 0;
        for (int relation = 0; relation < RELATIONS; relation++) {
            sum += Long.bitCount(pairsOf(relation));
        }
        return sum;
    }

    private int emptyRelations() {
        int sum = 0;
        for (int relation = 0; relation < RELATIONS; relation++) {
            if (pairsOf(relation) == NO_PAIR) {
                sum++;
            }
        }
        return sum;
    }

    private int equivalences() {
        int sum = 0;
        for (int relation = 0; relation < RELATIONS; relation++) {
            if (Pairs.isOfKind(pairsOf(relation), EQUIVALENCE)) {
                sum++;
            }
        }
        return sum;
    }

    // ---- the parts of the digest

    private static long mixed(long sum, int value) {
        return sum * DIGEST_FACTOR + value;
    }

    private static long mixedNumbers(long before, long pairs) {
        long sum = mixed(before, Long.bitCount(pairs));
        sum = mixed(sum, Pairs.hashOf(pairs));
        sum = mixed(sum, Texts.signsOf(pairs));
        sum = mixed(sum, Pairs.unlikeImages(pairs));
        return mixed(sum, Pairs.fixedOf(pairs));
    }

    private static long mixedThings(long before, long pairs) {
        long sum = before;
        long turned = Pairs.turned(pairs);
        long ways = Pairs.joined(pairs);
        for (int thing = 0; thing < THINGS; thing++) {
            sum = mixed(sum, Pairs.imageOf(pairs, thing));
            sum = mixed(sum, Pairs.imageOf(turned, thing));
            sum = mixed(sum, Pairs.imageOf(ways, thing));
        }
        return sum;
    }

    private static long mixedKinds(long before, long pairs) {
        long sum = before;
        for (int kind = 0; kind < KINDS; kind++) {
            sum = mixed(sum, Pairs.isOfKind(pairs, kind) ? 1 : 0);
        }
        return sum;
    }

    private long mixedOthers(long before, long pairs) {
        long sum = before;
        for (int relation = 0; relation < RELATIONS; relation++) {
            long other = pairsOf(relation);
            sum = mixed(sum, Pairs.isPartOf(pairs, other) ? 1 : 0);
            sum = mixed(sum, pairs == other ? 1 : 0);
            sum = mixed(sum, (pairs & other) == NO_PAIR ? 1 : 0);
        }
        return sum;
    }

    /** What can be made and asked of relations that are held as bits; things and sets are in range here. */
    private static final class Pairs {
        private static final int[] NUMBERS = {0, 16, 32, 1, -1, 65536, 2147483647, -2147483648};

        static long single(int x, int y) {
            return 1L << (THINGS * x + y);
        }

        static boolean holds(long pairs, int x, int y) {
            return (pairs & single(x, y)) != NO_PAIR;
        }

        static boolean isIn(int set, int thing) {
            return (set & (1 << thing)) != 0;
        }

        static int imageOf(long pairs, int x) {
            return (int) (pairs >>> (THINGS * x)) & EVERY_THING;
        }

        static long imageAt(int x, int set) {
            return (long) set << (THINGS * x);
        }

        static long withImage(long pairs, int x, int set) {
            return pairs & ~imageAt(x, EVERY_THING) | imageAt(x, set);
        }

        static int sourceOf(long pairs, int y) {
            return imageOf(turned(pairs), y);
        }

        /** All pairs from the one set into the other one. */
        static long product(int from, int into) {
            long made = NO_PAIR;
            for (int x = 0; x < THINGS; x++) {
                if (isIn(from, x)) {
                    made |= imageAt(x, into);
                }
            }
            return made;
        }

        static int firstsOf(long pairs) {
            int set = 0;
            for (int x = 0; x < THINGS; x++) {
                if (imageOf(pairs, x) != 0) {
                    set |= 1 << x;
                }
            }
            return set;
        }

        static int secondsOf(long pairs) {
            return imageOfSet(pairs, EVERY_THING);
        }

        static int imageOfSet(long pairs, int set) {
            int image = 0;
            for (int x = 0; x < THINGS; x++) {
                if (isIn(set, x)) {
                    image |= imageOf(pairs, x);
                }
            }
            return image;
        }

        static long united(long one, long other) {
            return one | other;
        }

        static long met(long one, long other) {
            return one & other;
        }

        static long complement(long pairs) {
            return ~pairs;
        }

        static long turned(long pairs) {
            long made = NO_PAIR;
            for (int x = 0; x < THINGS; x++) {
                for (int y = 0; y < THINGS; y++) {
                    if (holds(pairs, x, y)) {
                        made |= single(y, x);
                    }
                }
            }
            return made;
        }

        static long chained(long one, long other) {
            long made = NO_PAIR;
            for (int x = 0; x < THINGS; x++) {
                made |= imageAt(x, imageOfSet(other, imageOf(one, x)));
            }
            return made;
        }

        static long raised(long pairs, int n) {
            long made = IDENTITY;
            for (int times = 0; times < n; times++) {
                made = chained(made, pairs);
            }
            return made;
        }

        static long residualOf(long one, long other) {
            long made = NO_PAIR;
            for (int y = 0; y < THINGS; y++) {
                int shared = EVERY_THING;
                for (int x = 0; x < THINGS; x++) {
                    if (holds(one, x, y)) {
                        shared &= imageOf(other, x);
                    }
                }
                made |= imageAt(y, shared);
            }
            return made;
        }

        static long closed(long pairs, int which) {
            switch (which) {
                case 0:
                    return pairs | IDENTITY;
                case 1:
                    return pairs | turned(pairs);
                case 2:
                    return joined(pairs);
                default:
                    return joined(pairs | turned(pairs) | IDENTITY);
            }
        }

        /** The transitive closure; one round for each thing between is enough, as Warshall found. */
        static long joined(long pairs) {
            long made = pairs;
            for (int between = 0; between < THINGS; between++) {
                int image = imageOf(made, between);
                for (int x = 0; x < THINGS; x++) {
                    if (holds(made, x, between)) {
                        made |= imageAt(x, image);
                    }
                }
            }
            return made;
        }

        static long kernelOf(long pairs) {
            long made = NO_PAIR;
            for (int x = 0; x < THINGS; x++) {
                for (int y = 0; y < THINGS; y++) {
                    if (imageOf(pairs, x) == imageOf(pairs, y)) {
                        made |= single(x, y);
                    }
                }
            }
            return made;
        }

        static long folded(long pairs, long equivalence) {
            long made = NO_PAIR;
            for (int x = 0; x < THINGS; x++) {
                for (int y = 0; y < THINGS; y++) {
                    if (holds(pairs, x, y)) {
                        made |= single(smallest(imageOf(equivalence, x)), smallest(imageOf(equivalence, y)));
                    }
                }
            }
            return made;
        }

        static int smallest(int set) {
            for (int thing = 0; thing < THINGS; thing++) {
                if (isIn(set, thing)) {
                    return thing;
                }
            }
            return NONE;
        }

        static boolean hasImageBefore(long pairs, int set, int end) {
            for (int x = 0; x < end; x++) {
                if (imageOf(pairs, x) == set) {
                    return true;
                }
            }
            return false;
        }

        static int unlikeImages(long pairs) {
            int sum = 0;
            for (int x = 0; x < THINGS; x++) {
                if (!hasImageBefore(pairs, imageOf(pairs, x), x)) {
                    sum++;
                }
            }
            return sum;
        }

        /** No shortest way is longer than there are things: it would come by one of them twice. */
        static int leastSteps(long pairs, int x, int y) {
            int ends = imageOf(pairs, x);
            for (int steps = 1; steps <= THINGS; steps++) {
                if (isIn(ends, y)) {
                    return steps;
                }
                ends = imageOfSet(pairs, ends);
            }
            return NONE;
        }

        static int fixedOf(long pairs) {
            return secondsOf(pairs & IDENTITY);
        }

        static boolean isPartOf(long pairs, long other) {
            return (pairs & ~other) == NO_PAIR;
        }

        static boolean isOfKind(long pairs, int kind) {
            switch (kind) {
                case 0:
                    return isPartOf(IDENTITY, pairs);
                case 1:
                    return (pairs & IDENTITY) == NO_PAIR;
                case 2:
                    return turned(pairs) == pairs;
                case 3:
                    return isPartOf(pairs & turned(pairs), IDENTITY);
                case 4:
                    return isPartOf(chained(pairs, pairs), pairs);
                case 5:
                    return firstsOf(pairs) == EVERY_THING;
                case 6:
                    return hasNoImageOfTwo(pairs);
                case 7:
                    return hasNoImageOfTwo(turned(pairs));
                case 8:
                    return secondsOf(pairs) == EVERY_THING;
                case EQUIVALENCE:
                    return isPartOf(IDENTITY, pairs)
                        && turned(pairs) == pairs
                        && isPartOf(chained(pairs, pairs), pairs);
                default:
                    return false;
            }
        }

        static boolean hasNoImageOfTwo(long pairs) {
            for (int x = 0; x < THINGS; x++) {
                if (Integer.bitCount(imageOf(pairs, x)) > 1) {
                    return false;
                }
            }
            return true;
        }

        static int hashOf(long pairs) {
            int hash = 0;
            for (int x = 0; x < NUMBERS.length; x++) {
                int image = imageOf(pairs, x);
                if (image != 0) {
                    hash += NUMBERS[x] ^ sumOfNumbers(image);
                }
            }
            return hash;
        }

        static int sumOfNumbers(int set) {
            int sum = 0;
            for (int thing = 0; thing < NUMBERS.length; thing++) {
                if (isIn(set, thing)) {
                    sum += NUMBERS[thing];
                }
            }
            return sum;
        }

        /** Put together from the last pair to the first one. */
        static long copiedBackwards(long pairs) {
            long made = NO_PAIR;
            for (int x = THINGS - 1; x >= 0; x--) {
                for (int y = THINGS - 1; y >= 0; y--) {
                    if (holds(pairs, x, y)) {
                        made |= single(x, y);
                    }
                }
            }
            return made;
        }
    }

    /** Relations as texts. */
    private static final class Texts {
        static String textOf(long pairs) {
            StringBuilder text = new StringBuilder();
            for (int x = 0; x < THINGS; x++) {
                int image = Pairs.imageOf(pairs, x);
                if (image != 0) {
                    if (text.length() > 0) {
                        text.append(' ');
                    }
                    text.append(x);
                    text.append(':');
                    appendThings(text, image);
                }
            }
            return text.toString();
        }

        private static void appendThings(StringBuilder text, int set) {
            boolean isFirst = true;
            for (int thing = 0; thing < THINGS; thing++) {
                if (Pairs.isIn(set, thing)) {
                    if (!isFirst) {
                        text.append(',');
                    }
                    text.append(thing);
                    isFirst = false;
                }
            }
        }

        /** The length of the text, told without making it: the digest asks for it at each call. */
        static int signsOf(long pairs) {
            if (pairs == NO_PAIR) {
                return 0;
            }
            int rows = Integer.bitCount(Pairs.firstsOf(pairs));
            int thingsAndCommas = 2 * Long.bitCount(pairs) - rows;
            int namesAndColons = 2 * rows;
            int spaces = rows - 1;
            return thingsAndCommas + namesAndColons + spaces;
        }
    }

    /** The laws that isSound looks at, of a relation, the next one and the one behind that. */
    private static final class Laws {
        static boolean areKept(long a, long b, long c) {
            return areSetsKept(a, b)
                && areChainsKept(a, b, c)
                && areTurnsKept(a, b, c)
                && areClosuresKept(a)
                && Pairs.isOfKind(Pairs.kernelOf(a), EQUIVALENCE)
                && Pairs.isPartOf(Pairs.chained(a, Pairs.residualOf(a, b)), b)
                && isCopyKept(a);
        }

        private static boolean areSetsKept(long a, long b) {
            long united = Pairs.united(a, b);
            long met = Pairs.met(a, b);
            long notA = Pairs.complement(a);
            long notB = Pairs.complement(b);
            return united == Pairs.united(b, a)
                && met == Pairs.met(b, a)
                && Pairs.complement(united) == Pairs.met(notA, notB)
                && Pairs.complement(met) == Pairs.united(notA, notB);
        }

        private static boolean areChainsKept(long a, long b, long c) {
            long leftFirst = Pairs.chained(Pairs.chained(a, b), c);
            long rightFirst = Pairs.chained(a, Pairs.chained(b, c));
            return leftFirst == rightFirst;
        }

        private static boolean areTurnsKept(long a, long b, long c) {
            long turned = Pairs.turned(a);
            long chain = Pairs.chained(a, b);
            boolean isChainWithin = Pairs.isPartOf(chain, c);
            long turnedChain = Pairs.chained(turned, Pairs.complement(c));
            boolean isTurnWithin = Pairs.isPartOf(turnedChain, Pairs.complement(b));
            return Pairs.turned(turned) == a
                && Pairs.turned(chain) == Pairs.chained(Pairs.turned(b), turned)
                && isChainWithin == isTurnWithin;
        }

        private static boolean areClosuresKept(long a) {
            for (int which = 0; which < CLOSURES; which++) {
                long closed = Pairs.closed(a, which);
                boolean isKept = Pairs.closed(closed, which) == closed
                    && Pairs.isPartOf(a, closed)
                    && Pairs.isOfKind(closed, kindOfClosure(which));
                if (!isKept) {
                    return false;
                }
            }
            return true;
        }

        private static int kindOfClosure(int which) {
            switch (which) {
                case 0:
                    return 0;
                case 1:
                    return 2;
                case 2:
                    return 4;
                default:
                    return EQUIVALENCE;
            }
        }

        private static boolean isCopyKept(long a) {
            long copy = Pairs.copiedBackwards(a);
            return copy == a && Pairs.hashOf(copy) == Pairs.hashOf(a);
        }
    }
}
