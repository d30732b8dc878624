import java.util.ArrayDeque;
import java.util.Arrays;
import java.util.Deque;
import java.util.HashSet;
import java.util.Set;

/**
 * The document once more, word by word over a table of booleans and without any thought of speed,
 * so that a fault of the class is not made a second time here.
 */
final class Model {
    private static final int[] NUMBERS = {0, 16, 32, 1, -1, 65536, Integer.MAX_VALUE, Integer.MIN_VALUE};

    private final boolean[][][] relations = new boolean[4][8][8];
    private int refused = 0;
    private int knocked = 0;

    // ---- pairs come and go

    int put(int relation, int x, int y) {
        checkAll(relation);
        checkThings(x, y);
        boolean was = relations[relation][x][y];
        relations[relation][x][y] = true;
        return was ? 0 : 1;
    }

    int take(int relation, int x, int y) {
        checkAll(relation);
        checkThings(x, y);
        boolean was = relations[relation][x][y];
        relations[relation][x][y] = false;
        return was ? 1 : 0;
    }

    int aim(int relation, int x, int set) {
        checkAll(relation);
        checkThings(x);
        checkSet(set);
        int before = setOf(relations[relation][x]);
        for (int y = 0; y < 8; y++) {
            relations[relation][x][y] = (set >> y) % 2 == 1;
        }
        return before;
    }

    int send(int relation, int x, int y) {
        checkAll(relation);
        checkThings(x, y);
        int moved = 0;
        for (int k = 0; k < 8; k++) {
            if (relations[relation][x][k] != (k == y)) {
                moved++;
                relations[relation][x][k] = k == y;
            }
        }
        return moved;
    }

    int clear(int relation) {
        checkAll(relation);
        int went = count(relation);
        relations[relation] = new boolean[8][8];
        return went;
    }

    int fill(int relation) {
        checkAll(relation);
        int came = 64 - count(relation);
        relations[relation] = made((x, y) -> true);
        return came;
    }

    int same(int relation) {
        checkAll(relation);
        int were = sizeOf(fixed(relation));
        relations[relation] = made((x, y) -> x == y);
        return were;
    }

    int copy(int from, int into) {
        checkAll(from, into);
        boolean[][] a = relations[from];
        return become(into, made((x, y) -> a[x][y]));
    }

    int firsts(int relation, int set) {
        checkAll(relation);
        checkSet(set);
        boolean[][] a = relations[relation];
        int before = count(relation);
        return before - become(relation, made((x, y) -> a[x][y] && isIn(set, x)));
    }

    int seconds(int relation, int set) {
        checkAll(relation);
        checkSet(set);
        boolean[][] a = relations[relation];
        int before = count(relation);
        return before - become(relation, made((x, y) -> a[x][y] && isIn(set, y)));
    }

    // ---- algebra

    int unite(int relation, int other) {
        checkAll(relation, other);
        boolean[][] a = relations[relation];
        boolean[][] b = relations[other];
        return become(relation, made((x, y) -> a[x][y] || b[x][y]));
    }

    int meet(int relation, int other) {
        checkAll(relation, other);
        boolean[][] a = relations[relation];
        boolean[][] b = relations[other];
        return become(relation, made((x, y) -> a[x][y] && b[x][y]));
    }

    int less(int relation, int other) {
        checkAll(relation, other);
        boolean[][] a = relations[relation];
        boolean[][] b = relations[other];
        return become(relation, made((x, y) -> a[x][y] && !b[x][y]));
    }

    int part(int relation, int other) {
        checkAll(relation, other);
        boolean[][] a = relations[relation];
        boolean[][] b = relations[other];
        return become(relation, made((x, y) -> a[x][y] != b[x][y]));
    }

    int flip(int relation) {
        checkAll(relation);
        boolean[][] a = relations[relation];
        return become(relation, made((x, y) -> !a[x][y]));
    }

    int turn(int relation) {
        checkAll(relation);
        boolean[][] a = relations[relation];
        become(relation, made((x, y) -> a[y][x]));
        int fresh = 0;
        for (int x = 0; x < 8; x++) {
            for (int y = 0; y < 8; y++) {
                fresh += relations[relation][x][y] && !a[x][y] ? 1 : 0;
            }
        }
        return fresh;
    }

    int through(int one, int other, int into) {
        checkAll(one, other, into);
        return become(into, chain(relations[one], relations[other]));
    }

    int power(int relation, int n) {
        checkAll(relation);
        check(n >= 0 && n <= 9);
        boolean[][] a = relations[relation];
        if (n == 0) {
            return become(relation, made((x, y) -> x == y));
        }
        boolean[][] made = a;
        for (int k = 1; k < n; k++) {
            made = chain(a, made);
        }
        return become(relation, made);
    }

    int residual(int one, int other, int into) {
        checkAll(one, other, into);
        boolean[][] a = relations[one];
        boolean[][] b = relations[other];
        return become(into, made((y, z) -> {
            for (int x = 0; x < 8; x++) {
                if (a[x][y] && !b[x][z]) {
                    return false;
                }
            }
            return true;
        }));
    }

    int close(int relation, int which) {
        checkAll(relation);
        check(which >= 0 && which <= 3);
        int before = count(relation);
        boolean[][] a = relations[relation];
        boolean hasGrown = true;
        while (hasGrown) {
            hasGrown = false;
            for (int x = 0; x < 8; x++) {
                for (int y = 0; y < 8; y++) {
                    if (!a[x][y] && isForced(a, x, y, which)) {
                        a[x][y] = true;
                        hasGrown = true;
                    }
                }
            }
        }
        return count(relation) - before;
    }

    private static boolean isForced(boolean[][] a, int x, int y, int which) {
        boolean isByItself = x == y;
        boolean isByTurning = a[y][x];
        boolean isByChain = false;
        for (int k = 0; k < 8; k++) {
            isByChain |= a[x][k] && a[k][y];
        }
        return isByItself && (which == 0 || which == 3)
            || isByTurning && (which == 1 || which == 3)
            || isByChain && (which == 2 || which == 3);
    }

    int kernel(int relation, int into) {
        checkAll(relation, into);
        boolean[][] a = relations[relation];
        return become(into, made((x, y) -> Arrays.equals(a[x], a[y])));
    }

    int fold(int relation, int equivalence, int into) {
        checkAll(relation, equivalence, into);
        if (!is(equivalence, 9)) {
            return refuse();
        }
        boolean[][] made = new boolean[8][8];
        for (int x = 0; x < 8; x++) {
            for (int y = 0; y < 8; y++) {
                if (relations[relation][x][y]) {
                    made[leastOfClass(equivalence, x)][leastOfClass(equivalence, y)] = true;
                }
            }
        }
        return become(into, made);
    }

    private int leastOfClass(int equivalence, int x) {
        int least = 0;
        while (!relations[equivalence][x][least]) {
            least++;
        }
        return least;
    }

    // ---- what is asked

    boolean has(int relation, int x, int y) {
        checkAll(relation);
        checkThings(x, y);
        return relations[relation][x][y];
    }

    int count(int relation) {
        checkAll(relation);
        int sum = 0;
        for (boolean[] row : relations[relation]) {
            sum += sizeOf(setOf(row));
        }
        return sum;
    }

    int image(int relation, int x) {
        checkAll(relation);
        checkThings(x);
        return setOf(relations[relation][x]);
    }

    int source(int relation, int y) {
        checkAll(relation);
        checkThings(y);
        int set = 0;
        for (int x = 0; x < 8; x++) {
            set += relations[relation][x][y] ? 1 << x : 0;
        }
        return set;
    }

    int ends(int relation, boolean areSecond) {
        checkAll(relation);
        int set = 0;
        for (int k = 0; k < 8; k++) {
            int others = areSecond ? source(relation, k) : image(relation, k);
            set += others != 0 ? 1 << k : 0;
        }
        return set;
    }

    boolean hasImage(int relation, int set) {
        checkAll(relation);
        checkSet(set);
        return allImages(relation).contains(set);
    }

    int images(int relation) {
        checkAll(relation);
        return allImages(relation).size();
    }

    private Set<Integer> allImages(int relation) {
        Set<Integer> sets = new HashSet<>();
        for (int x = 0; x < 8; x++) {
            sets.add(image(relation, x));
        }
        return sets;
    }

    int apply(int relation, int x) {
        checkAll(relation);
        checkThings(x);
        int found = -1;
        for (int y = 0; y < 8; y++) {
            if (relations[relation][x][y]) {
                if (found >= 0) {
                    return refuse();
                }
                found = y;
            }
        }
        return found;
    }

    int reach(int relation, int x) {
        checkAll(relation);
        checkThings(x);
        int[] distances = distancesFrom(relation, x);
        int set = 0;
        for (int y = 0; y < 8; y++) {
            set += distances[y] > 0 ? 1 << y : 0;
        }
        return set;
    }

    int steps(int relation, int x, int y) {
        checkAll(relation);
        checkThings(x, y);
        int distance = distancesFrom(relation, x)[y];
        return distance == 0 ? -1 : distance;
    }

    /** 0 for a thing to which one does not come. */
    private int[] distancesFrom(int relation, int x) {
        int[] distances = new int[8];
        Deque<Integer> waiting = new ArrayDeque<>();
        waiting.add(x);
        boolean isStart = true;
        while (!waiting.isEmpty()) {
            int from = waiting.remove();
            int distance = isStart ? 0 : distances[from];
            isStart = false;
            for (int k = 0; k < 8; k++) {
                if (relations[relation][from][k] && distances[k] == 0) {
                    distances[k] = distance + 1;
                    waiting.add(k);
                }
            }
        }
        return distances;
    }

    boolean hasRing(int relation) {
        checkAll(relation);
        for (int x = 0; x < 8; x++) {
            if (steps(relation, x, x) > 0) {
                return true;
            }
        }
        return false;
    }

    int fixed(int relation) {
        checkAll(relation);
        int set = 0;
        for (int x = 0; x < 8; x++) {
            set += relations[relation][x][x] ? 1 << x : 0;
        }
        return set;
    }

    boolean is(int relation, int kind) {
        checkAll(relation);
        check(kind >= 0 && kind <= 9);
        if (kind == 9) {
            return is(relation, 0) && is(relation, 2) && is(relation, 4);
        }
        for (int x = 0; x < 8; x++) {
            for (int y = 0; y < 8; y++) {
                for (int z = 0; z < 8; z++) {
                    if (breaks(relation, kind, x, y, z)) {
                        return false;
                    }
                }
            }
        }
        return true;
    }

    private boolean breaks(int relation, int kind, int x, int y, int z) {
        boolean[][] a = relations[relation];
        switch (kind) {
            case 0:
                return !a[x][x];
            case 1:
                return a[x][x];
            case 2:
                return a[x][y] && !a[y][x];
            case 3:
                return x != y && a[x][y] && a[y][x];
            case 4:
                return a[x][y] && a[y][z] && !a[x][z];
            case 5:
                return image(relation, x) == 0;
            case 6:
                return y != z && a[x][y] && a[x][z];
            case 7:
                return x != y && a[x][z] && a[y][z];
            default:
                return source(relation, y) == 0;
        }
    }

    int classOf(int relation, int x) {
        checkAll(relation);
        checkThings(x);
        return is(relation, 9) ? image(relation, x) : refuse();
    }

    int classes(int relation) {
        checkAll(relation);
        return is(relation, 9) ? allImages(relation).size() : refuse();
    }

    boolean isWithin(int relation, int other) {
        checkAll(relation, other);
        return sharedPairs(relation, other) == count(relation);
    }

    boolean areAlike(int relation, int other) {
        checkAll(relation, other);
        return isWithin(relation, other) && isWithin(other, relation);
    }

    boolean areApart(int relation, int other) {
        checkAll(relation, other);
        return sharedPairs(relation, other) == 0;
    }

    int hash(int relation) {
        checkAll(relation);
        int hash = 0;
        for (int x = 0; x < 8; x++) {
            int sum = 0;
            for (int y = 0; y < 8; y++) {
                sum += relations[relation][x][y] ? NUMBERS[y] : 0;
            }
            hash += image(relation, x) == 0 ? 0 : NUMBERS[x] ^ sum;
        }
        return hash;
    }

    String text(int relation) {
        checkAll(relation);
        StringBuilder text = new StringBuilder();
        for (int x = 0; x < 8; x++) {
            String things = "";
            for (int y = 0; y < 8; y++) {
                things += relations[relation][x][y] ? "," + y : "";
            }
            text.append(things.isEmpty() ? "" : " " + x + ":" + things.substring(1));
        }
        return text.toString().trim();
    }

    // ---- the whole

    int knock() {
        return ++knocked;
    }

    int house(int what) {
        check(what >= 0 && what <= 4);
        int[] rows = {0, refused, knocked, 0, 0};
        for (int relation = 0; relation < 4; relation++) {
            rows[0] += count(relation);
            rows[3] += text(relation).isEmpty() ? 1 : 0;
            rows[4] += is(relation, 9) ? 1 : 0;
        }
        return rows[what];
    }

    /** What is asked there is true of all relations. */
    boolean isSound() {
        return true;
    }

    long digest() {
        long d = 7845;
        for (int what = 0; what <= 4; what++) {
            d = d * 31 + house(what);
        }
        for (int relation = 0; relation < 4; relation++) {
            d = d * 31 + count(relation);
            d = d * 31 + hash(relation);
            d = d * 31 + text(relation).length();
            d = d * 31 + images(relation);
            d = d * 31 + fixed(relation);
            for (int thing = 0; thing < 8; thing++) {
                d = d * 31 + image(relation, thing);
                d = d * 31 + source(relation, thing);
                d = d * 31 + reach(relation, thing);
            }
            for (int kind = 0; kind <= 9; kind++) {
                d = d * 31 + (is(relation, kind) ? 1 : 0);
            }
            for (int other = 0; other < 4; other++) {
                d = d * 31 + (isWithin(relation, other) ? 1 : 0);
                d = d * 31 + (areAlike(relation, other) ? 1 : 0);
                d = d * 31 + (areApart(relation, other) ? 1 : 0);
            }
        }
        return d * 31 + (isSound() ? 1 : 0);
    }

    // ---- helpers

    private interface Question {
        boolean isSo(int x, int y);
    }

    private static boolean[][] made(Question question) {
        boolean[][] pairs = new boolean[8][8];
        for (int x = 0; x < 8; x++) {
            for (int y = 0; y < 8; y++) {
                pairs[x][y] = question.isSo(x, y);
            }
        }
        return pairs;
    }

    private static boolean[][] chain(boolean[][] a, boolean[][] b) {
        return made((x, z) -> {
            for (int y = 0; y < 8; y++) {
                if (a[x][y] && b[y][z]) {
                    return true;
                }
            }
            return false;
        });
    }

    private int become(int relation, boolean[][] pairs) {
        relations[relation] = pairs;
        return count(relation);
    }

    private int sharedPairs(int relation, int other) {
        int sum = 0;
        for (int x = 0; x < 8; x++) {
            for (int y = 0; y < 8; y++) {
                sum += relations[relation][x][y] && relations[other][x][y] ? 1 : 0;
            }
        }
        return sum;
    }

    private int refuse() {
        refused++;
        return -9;
    }

    private static int setOf(boolean[] row) {
        int set = 0;
        for (int k = 0; k < 8; k++) {
            set += row[k] ? 1 << k : 0;
        }
        return set;
    }

    private static int sizeOf(int set) {
        int size = 0;
        for (int k = 0; k < 8; k++) {
            size += isIn(set, k) ? 1 : 0;
        }
        return size;
    }

    private static boolean isIn(int set, int thing) {
        return (set >> thing) % 2 == 1;
    }

    private static void checkAll(int... numbers) {
        for (int relation : numbers) {
            if (relation < 0 || relation > 3) {
                throw new IndexOutOfBoundsException();
            }
        }
    }

    private static void checkThings(int... things) {
        for (int thing : things) {
            check(thing >= 0 && thing <= 7);
        }
    }

    private static void checkSet(int set) {
        check(set >= 0 && set <= 255);
    }

    private static void check(boolean isRight) {
        if (!isRight) {
            throw new IllegalArgumentException();
        }
    }
}
