/** Promises 24 to 43: what is asked of relations. */
public final class AskedTest {
    public static void main(String[] arguments) {
        pairs();
        sets();
        imagesOfAll();
        apply();
        ways();
        kinds();
        mixedKinds();
        classes();
        ofTwo();
        hash();
        text();
        Calls.end();
    }

    /** 0 has the pairs (0, 1), (0, 7), (3, 3), (7, 1). */
    private static final String FOUR = """
        put(0, 0, 1) => 1
        put(0, 0, 7) => 1
        put(0, 3, 3) => 1
        put(0, 7, 1) => 1
        """;

    private static void pairs() {
        Calls.run("24 has", FOUR + """
            has(0, 0, 1) => true
            has(0, 1, 0) => false
            has(0, 7, 1) => true
            has(0, 3, 3) => true
            has(0, 7, 7) => false
            has(1, 0, 1) => false
            has(-1, 0, 1) => throws.IndexOutOfBoundsException
            has(4, 8, 8) => throws.IndexOutOfBoundsException
            has(0, -1, 0) => throws.IllegalArgumentException
            has(0, 8, 0) => throws.IllegalArgumentException
            has(0, 0, -1) => throws.IllegalArgumentException
            has(0, 0, 8) => throws.IllegalArgumentException
            """);
        Calls.run("25 count", FOUR + """
            count(0) => 4
            count(1) => 0
            flip(0) => 60
            count(0) => 60
            fill(0) => 4
            count(0) => 64
            count(-1) => throws.IndexOutOfBoundsException
            count(4) => throws.IndexOutOfBoundsException
            """);
    }

    private static void sets() {
        Calls.run("26 image", FOUR + """
            image(0, 0) => 130
            image(0, 1) => 0
            image(0, 7) => 2
            image(-1, 0) => throws.IndexOutOfBoundsException
            image(4, 8) => throws.IndexOutOfBoundsException
            image(0, -1) => throws.IllegalArgumentException
            image(0, 8) => throws.IllegalArgumentException
            """);
        Calls.run("27 source", FOUR + """
            source(0, 0) => 0
            source(0, 1) => 129
            source(0, 3) => 8
            source(0, 7) => 1
            source(-1, 0) => throws.IndexOutOfBoundsException
            source(4, 8) => throws.IndexOutOfBoundsException
            source(0, -1) => throws.IllegalArgumentException
            source(0, 8) => throws.IllegalArgumentException
            """);
        Calls.run("28 ends", FOUR + """
            ends(0, false) => 137
            ends(0, true) => 138
            ends(1, false) => 0
            ends(1, true) => 0
            ends(-1, false) => throws.IndexOutOfBoundsException
            ends(4, true) => throws.IndexOutOfBoundsException
            """);
        Calls.run("35 fixed", FOUR + """
            fixed(0) => 8
            put(0, 7, 7) => 1
            put(0, 0, 0) => 1
            fixed(0) => 137
            fixed(1) => 0
            fixed(-1) => throws.IndexOutOfBoundsException
            fixed(4) => throws.IndexOutOfBoundsException
            """);
    }

    private static void imagesOfAll() {
        Calls.run("29 hasImage", FOUR + """
            hasImage(0, 130) => true
            hasImage(0, 2) => true
            hasImage(0, 128) => false
            hasImage(0, 0) => true
            hasImage(1, 0) => true
            hasImage(1, 1) => false
            fill(0) => 60
            hasImage(0, 0) => false
            hasImage(0, 255) => true
            hasImage(-1, 0) => throws.IndexOutOfBoundsException
            hasImage(4, 256) => throws.IndexOutOfBoundsException
            hasImage(0, -1) => throws.IllegalArgumentException
            hasImage(0, 256) => throws.IllegalArgumentException
            """);
        Calls.run("30 images", FOUR + """
            images(0) => 4
            images(1) => 1
            put(0, 1, 3) => 1
            images(0) => 4
            put(0, 6, 6) => 1
            images(0) => 5
            same(0) => 2
            images(0) => 8
            fill(0) => 56
            images(0) => 1
            images(-1) => throws.IndexOutOfBoundsException
            images(4) => throws.IndexOutOfBoundsException
            """);
    }

    private static void apply() {
        Calls.run("31 apply", FOUR + """
            apply(0, 7) => 1
            apply(0, 3) => 3
            apply(0, 1) => -1
            apply(1, 0) => -1
            house(1) => 0
            apply(0, 0) => -9
            house(1) => 1
            put(0, 4, 0) => 1
            put(0, 5, 7) => 1
            apply(0, 4) => 0
            apply(0, 5) => 7
            apply(-1, 0) => throws.IndexOutOfBoundsException
            apply(4, 8) => throws.IndexOutOfBoundsException
            apply(0, -1) => throws.IllegalArgumentException
            apply(0, 8) => throws.IllegalArgumentException
            house(1) => 1
            """);
    }

    private static void ways() {
        String path = """
            send(0, 7, 5) => 1
            send(0, 5, 3) => 1
            send(0, 3, 0) => 1
            send(0, 1, 7) => 1
            """;
        Calls.run("32 reach", path + """
            reach(0, 1) => 169
            reach(0, 7) => 41
            reach(0, 0) => 0
            reach(0, 2) => 0
            put(0, 0, 5) => 1
            reach(0, 5) => 41
            reach(0, 1) => 169
            put(0, 2, 2) => 1
            reach(0, 2) => 4
            reach(-1, 0) => throws.IndexOutOfBoundsException
            reach(4, 8) => throws.IndexOutOfBoundsException
            reach(0, -1) => throws.IllegalArgumentException
            reach(0, 8) => throws.IllegalArgumentException
            """);
        Calls.run("33 steps", path + """
            steps(0, 7, 5) => 1
            steps(0, 1, 0) => 4
            steps(0, 0, 1) => -1
            steps(0, 0, 0) => -1
            steps(0, 1, 1) => -1
            put(0, 0, 1) => 1
            steps(0, 1, 1) => 5
            steps(0, 5, 7) => 4
            put(0, 1, 3) => 1
            steps(0, 1, 0) => 2
            put(0, 1, 1) => 1
            steps(0, 1, 1) => 1
            steps(-1, 0, 0) => throws.IndexOutOfBoundsException
            steps(4, 8, 8) => throws.IndexOutOfBoundsException
            steps(0, -1, 0) => throws.IllegalArgumentException
            steps(0, 8, 0) => throws.IllegalArgumentException
            steps(0, 0, -1) => throws.IllegalArgumentException
            steps(0, 0, 8) => throws.IllegalArgumentException
            """);
        Calls.run("33 steps, 34 hasRing, by all eight", """
            send(0, 0, 1) => 1
            send(0, 1, 2) => 1
            send(0, 2, 3) => 1
            send(0, 3, 4) => 1
            send(0, 4, 5) => 1
            send(0, 5, 6) => 1
            send(0, 6, 7) => 1
            steps(0, 0, 7) => 7
            steps(0, 0, 0) => -1
            hasRing(0) => false
            send(0, 7, 0) => 1
            steps(0, 0, 0) => 8
            steps(0, 1, 0) => 7
            hasRing(0) => true
            reach(0, 3) => 255
            """);
        Calls.run("34 hasRing", path + """
            hasRing(0) => false
            hasRing(1) => false
            put(0, 0, 7) => 1
            hasRing(0) => true
            put(1, 7, 7) => 1
            hasRing(1) => true
            hasRing(-1) => throws.IndexOutOfBoundsException
            hasRing(4) => throws.IndexOutOfBoundsException
            """);
    }

    private static void kinds() {
        kindsOf("of none", "clear(0) => 0", "1 2 3 4 6 7");
        kindsOf("of all", "fill(0) => 64", "0 2 4 5 8 9");
        kindsOf("of identity", "same(0) => 0", "0 2 3 4 5 6 7 8 9");
        kindsOf("of its complement", "same(0) => 0\nflip(0) => 56", "1 2 5 8");
        kindsOf("of one pair", "put(0, 2, 6) => 1", "1 3 4 6 7");
        kindsOf("of one pair (7, 7)", "put(0, 7, 7) => 1", "2 3 4 6 7");
        kindsOf("of a chain", "put(0, 6, 7) => 1\nput(0, 7, 0) => 1", "1 3 6 7");
        kindsOf("of a pair both ways", "put(0, 6, 7) => 1\nput(0, 7, 6) => 1", "1 2 6 7");
        kindsOf("of one to two", "put(0, 7, 0) => 1\nput(0, 7, 7) => 1", "3 4 7");
        kindsOf("of two to one", "put(0, 0, 7) => 1\nput(0, 7, 7) => 1", "3 4 6");
        kindsOf("of all to 7", "firsts(0, 0) => 0\nfill(0) => 64\nseconds(0, 128) => 56", "3 4 5 6");
        kindsOf("of 7 to all", "fill(0) => 64\nfirsts(0, 128) => 56", "3 4 7 8");
        kindsOf("of identity without the last pair", "same(0) => 0\ntake(0, 7, 7) => 1", "2 3 4 6 7");
        Calls.run("36 is, wrong inputs", """
            is(0, -1) => throws.IllegalArgumentException
            is(0, 10) => throws.IllegalArgumentException
            is(-1, 0) => throws.IndexOutOfBoundsException
            is(4, 10) => throws.IndexOutOfBoundsException
            house(1) => 0
            """);
    }

    private static void mixedKinds() {
        kindsOf("of two classes", "put(0, 0, 7) => 1\nput(0, 1, 7) => 1\nclose(0, 3) => 12", "0 2 4 5 8 9");
        kindsOf("of what is alike, but by no chain",
            "put(0, 0, 1) => 1\nput(0, 1, 2) => 1\nclose(0, 0) => 8\nclose(0, 1) => 2", "0 2 5 8");
        kindsOf("of an order", "put(0, 0, 1) => 1\nput(0, 1, 2) => 1\nclose(0, 2) => 1\nclose(0, 0) => 8", "0 3 4 5 8");
    }

    /** Of just the kinds that are told is the relation that the lines make. */
    private static void kindsOf(String name, String lines, String kinds) {
        StringBuilder run = new StringBuilder(lines);
        for (int kind = 0; kind <= 9; kind++) {
            run.append("\nis(0, ").append(kind).append(") => ").append(kinds.contains("" + kind));
        }
        Calls.run("36 is " + name, run.toString());
    }

    private static void classes() {
        Calls.run("37 classOf", """
            classOf(0, 0) => -9
            same(0) => 0
            classOf(0, 7) => 128
            put(0, 0, 7) => 1
            classOf(0, 1) => -9
            put(0, 7, 0) => 1
            classOf(0, 7) => 129
            classOf(0, 1) => 2
            house(1) => 2
            classOf(-1, 0) => throws.IndexOutOfBoundsException
            classOf(4, 8) => throws.IndexOutOfBoundsException
            classOf(1, -1) => throws.IllegalArgumentException
            classOf(1, 8) => throws.IllegalArgumentException
            house(1) => 2
            text(0) => "0:0,7 1:1 2:2 3:3 4:4 5:5 6:6 7:0,7"
            """);
        Calls.run("38 classes", """
            classes(0) => -9
            same(0) => 0
            classes(0) => 8
            put(0, 0, 7) => 1
            classes(0) => -9
            put(0, 7, 0) => 1
            classes(0) => 7
            fill(0) => 54
            classes(0) => 1
            house(1) => 2
            classes(-1) => throws.IndexOutOfBoundsException
            classes(4) => throws.IndexOutOfBoundsException
            house(1) => 2
            """);
    }

    private static void ofTwo() {
        Calls.run("39 isWithin", FOUR + """
            isWithin(0, 0) => true
            isWithin(1, 0) => true
            isWithin(0, 1) => false
            put(1, 7, 1) => 1
            isWithin(1, 0) => true
            put(1, 7, 2) => 1
            isWithin(1, 0) => false
            isWithin(2, 3) => true
            isWithin(-1, 0) => throws.IndexOutOfBoundsException
            isWithin(0, 4) => throws.IndexOutOfBoundsException
            """);
        Calls.run("40 areAlike", FOUR + """
            areAlike(0, 0) => true
            areAlike(0, 1) => false
            areAlike(1, 0) => false
            areAlike(1, 2) => true
            copy(0, 1) => 4
            areAlike(0, 1) => true
            put(1, 7, 7) => 1
            areAlike(0, 1) => false
            take(1, 7, 7) => 1
            areAlike(1, 0) => true
            areAlike(-1, 0) => throws.IndexOutOfBoundsException
            areAlike(0, 4) => throws.IndexOutOfBoundsException
            """);
        Calls.run("41 areApart", FOUR + """
            areApart(0, 0) => false
            areApart(0, 1) => true
            areApart(1, 1) => true
            put(1, 7, 7) => 1
            areApart(0, 1) => true
            put(1, 7, 1) => 1
            areApart(0, 1) => false
            areApart(1, 0) => false
            areApart(-1, 0) => throws.IndexOutOfBoundsException
            areApart(0, 4) => throws.IndexOutOfBoundsException
            """);
    }

    private static void hash() {
        Calls.run("42 hash", """
            hash(0) => 0
            put(0, 0, 0) => 1
            hash(0) => 0
            clear(0) => 1
            put(0, 1, 2) => 1
            hash(0) => 48
            put(0, 1, 1) => 1
            hash(0) => 32
            put(0, 3, 5) => 1
            hash(0) => 65569
            put(0, 5, 0) => 1
            hash(0) => 131105
            clear(0) => 4
            put(0, 6, 3) => 1
            hash(0) => 2147483646
            put(0, 2, 1) => 1
            hash(0) => -2147483602
            hash(-1) => throws.IndexOutOfBoundsException
            hash(4) => throws.IndexOutOfBoundsException
            """);
        Calls.run("42 hash, wrapping around", """
            aim(0, 4, 72) => 0
            hash(0) => 2147483647
            clear(0) => 2
            put(0, 7, 6) => 1
            hash(0) => -1
            clear(0) => 1
            put(0, 0, 7) => 1
            put(0, 7, 0) => 1
            hash(0) => 0
            put(0, 6, 4) => 1
            hash(0) => -2147483648
            """);
    }

    private static void text() {
        Calls.run("43 text", """
            text(0) => ""
            put(0, 7, 7) => 1
            text(0) => "7:7"
            put(0, 0, 3) => 1
            put(0, 0, 0) => 1
            put(0, 4, 7) => 1
            text(0) => "0:0,3 4:7 7:7"
            fill(1) => 64
            firsts(1, 3) => 48
            text(1) => "0:0,1,2,3,4,5,6,7 1:0,1,2,3,4,5,6,7"
            text(-1) => throws.IndexOutOfBoundsException
            text(4) => throws.IndexOutOfBoundsException
            """);
    }
}
