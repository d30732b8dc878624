import java.math.BigInteger;

/**
 * Each promise at its edges: relations that are empty, full or IDENTITY, the first and the last thing,
 * the same relation given two or three times, and sums that wrap around.
 */
public final class EdgesTest {
    /** 0 is empty, 1 is full, 2 is IDENTITY, 3 has two pairs. */
    private static final String START = """
        fill(1) => 64
        same(2) => 0
        put(3, 0, 7) => 1
        put(3, 7, 6) => 1
        """;
    private static final String ALL = "0,1,2,3,4,5,6,7";
    private static final String TEXT_OF_ALL =
        "0:" + ALL + " 1:" + ALL + " 2:" + ALL + " 3:" + ALL + " 4:" + ALL + " 5:" + ALL + " 6:" + ALL + " 7:" + ALL;
    private static final String TEXT_OF_IDENTITY = "0:0 1:1 2:2 3:3 4:4 5:5 6:6 7:7";

    public static void main(String[] arguments) {
        newObjects();
        putAndTake();
        aimAndSend();
        clearFillSame();
        copy();
        firstsAndSeconds();
        uniteAndMeet();
        lessAndPart();
        flipAndTurn();
        through();
        power();
        residual();
        close();
        kernel();
        fold();
        pairsAsked();
        setsAsked();
        imagesAsked();
        waysAsked();
        longestWays();
        kinds();
        classes();
        ofTwo();
        hashOfOneThing();
        hashWrapsAround();
        text();
        knockAndHouse();
        isSound();
        digest();
        Calls.end();
    }

    // ---- pairs come and go

    private static void newObjects() {
        Relationkeys used = Calls.after("fill(0); same(1); put(2, 1, 1); put(3, 7, 7); knock(); apply(0, 0)");
        Calls.due("1 a new object beside a used one", Calls.pairsOf(new Relationkeys()), "[][][][]");
        Calls.due("1 knock() of a new one beside it", "" + new Relationkeys().knock(), "1");
        Calls.due("1 house(1) of a new one beside it", "" + new Relationkeys().house(1), "0");
        Calls.due("1 the used one", "" + used.house(0), "74");
    }

    private static void putAndTake() {
        Calls.run("2 put, the corners, come once", START + """
            put(0, 0, 0) => 1
            put(0, 0, 7) => 1
            put(0, 7, 0) => 1
            put(0, 7, 7) => 1
            put(0, 0, 0) => 0
            put(0, 0, 7) => 0
            put(0, 7, 0) => 0
            put(0, 7, 7) => 0
            text(0) => "0:0,7 7:0,7"
            put(1, 7, 7) => 0
            count(1) => 64
            put(2, 3, 3) => 0
            put(2, 3, 4) => 1
            put(2, 4, 3) => 1
            count(2) => 10
            """);
        Calls.run("3 take, the corners, go once", START + """
            take(0, 0, 0) => 0
            take(0, 7, 7) => 0
            take(1, 0, 0) => 1
            take(1, 0, 7) => 1
            take(1, 7, 0) => 1
            take(1, 7, 7) => 1
            take(1, 0, 0) => 0
            take(1, 0, 7) => 0
            take(1, 7, 0) => 0
            take(1, 7, 7) => 0
            count(1) => 60
            image(1, 0) => 126
            image(1, 7) => 126
            take(2, 3, 4) => 0
            take(2, 3, 3) => 1
            count(2) => 7
            take(3, 7, 0) => 0
            text(3) => "0:7 7:6"
            """);
    }

    private static void aimAndSend() {
        Calls.run("4 aim, the empty and the whole set, the same once more", START + """
            aim(0, 0, 0) => 0
            aim(0, 0, 255) => 0
            aim(0, 0, 255) => 255
            aim(0, 0, 128) => 255
            aim(0, 0, 1) => 128
            aim(0, 0, 0) => 1
            text(0) => ""
            aim(1, 7, 0) => 255
            count(1) => 56
            image(1, 6) => 255
            aim(1, 7, 255) => 0
            count(1) => 64
            aim(2, 7, 254) => 128
            aim(2, 7, 127) => 254
            image(2, 6) => 64
            """);
        Calls.run("5 send, from none, from that one, from another, from all", START + """
            send(0, 7, 7) => 1
            send(0, 7, 7) => 0
            send(0, 7, 0) => 2
            send(0, 0, 7) => 1
            text(0) => "0:7 7:0"
            send(1, 0, 0) => 7
            send(1, 7, 7) => 7
            image(1, 0) => 1
            image(1, 7) => 128
            count(1) => 50
            aim(0, 3, 254) => 0
            send(0, 3, 0) => 8
            send(2, 5, 5) => 0
            send(2, 5, 4) => 2
            count(2) => 8
            """);
    }

    private static void clearFillSame() {
        Calls.run("6 clear, of none, of all, of IDENTITY", START + """
            clear(0) => 0
            clear(1) => 64
            clear(1) => 0
            clear(2) => 8
            text(1) => ""
            text(2) => ""
            text(3) => "0:7 7:6"
            """);
        Calls.run("7 fill, of none, of all, of IDENTITY", START + """
            fill(0) => 64
            fill(1) => 0
            fill(2) => 56
            count(0) => 64
            count(2) => 64
            text(3) => "0:7 7:6"
            """);
        Calls.run("8 same, of none, of all, of IDENTITY, of none such", START + """
            same(0) => 0
            same(1) => 8
            same(2) => 8
            same(3) => 0
            areAlike(0, 1) => true
            areAlike(1, 2) => true
            areAlike(2, 3) => true
            flip(0) => 56
            same(0) => 0
            text(0) => "%s"
            """.formatted(TEXT_OF_IDENTITY));
    }

    private static void copy() {
        Calls.run("9 copy, of itself, of none, of all", START + """
            copy(3, 3) => 2
            copy(0, 0) => 0
            copy(1, 1) => 64
            text(3) => "0:7 7:6"
            copy(1, 3) => 64
            areAlike(1, 3) => true
            clear(1) => 64
            count(3) => 64
            copy(2, 3) => 8
            copy(0, 2) => 0
            text(2) => ""
            text(3) => "%s"
            """.formatted(TEXT_OF_IDENTITY));
    }

    private static void firstsAndSeconds() {
        Calls.run("10 firsts, the empty and the whole set", START + """
            firsts(0, 0) => 0
            firsts(0, 255) => 0
            firsts(1, 255) => 0
            firsts(3, 255) => 0
            firsts(1, 128) => 56
            image(1, 7) => 255
            firsts(1, 1) => 8
            text(1) => ""
            firsts(2, 129) => 6
            text(2) => "0:0 7:7"
            firsts(2, 0) => 2
            firsts(3, 1) => 1
            text(3) => "0:7"
            """);
        Calls.run("11 seconds, the empty and the whole set", START + """
            seconds(0, 0) => 0
            seconds(0, 255) => 0
            seconds(1, 255) => 0
            seconds(3, 255) => 0
            seconds(1, 128) => 56
            source(1, 7) => 255
            seconds(1, 1) => 8
            text(1) => ""
            seconds(2, 129) => 6
            text(2) => "0:0 7:7"
            seconds(2, 0) => 2
            seconds(3, 128) => 1
            text(3) => "0:7"
            """);
    }

    // ---- algebra

    private static void uniteAndMeet() {
        Calls.run("12 unite, with itself, with none, with all", START + """
            unite(0, 0) => 0
            unite(1, 1) => 64
            unite(2, 2) => 8
            unite(3, 3) => 2
            unite(3, 0) => 2
            text(3) => "0:7 7:6"
            unite(0, 3) => 2
            unite(3, 2) => 10
            unite(1, 3) => 64
            unite(3, 1) => 64
            text(0) => "0:7 7:6"
            """);
        Calls.run("13 meet, with itself, with none, with all", START + """
            meet(0, 0) => 0
            meet(1, 1) => 64
            meet(2, 2) => 8
            meet(3, 3) => 2
            meet(3, 1) => 2
            text(3) => "0:7 7:6"
            meet(1, 3) => 2
            meet(2, 3) => 0
            meet(3, 0) => 0
            text(1) => "0:7 7:6"
            """);
    }

    private static void lessAndPart() {
        Calls.run("14 less, itself, none, all", START + """
            less(0, 0) => 0
            less(0, 1) => 0
            less(1, 0) => 64
            less(3, 0) => 2
            less(1, 2) => 56
            less(3, 2) => 2
            text(3) => "0:7 7:6"
            less(3, 3) => 0
            text(3) => ""
            less(2, 2) => 0
            less(1, 1) => 0
            text(1) => ""
            """);
        Calls.run("15 part, itself, none, all", START + """
            part(0, 0) => 0
            part(3, 0) => 2
            text(3) => "0:7 7:6"
            part(0, 3) => 2
            part(0, 1) => 62
            part(0, 1) => 2
            text(0) => "0:7 7:6"
            part(1, 2) => 56
            part(1, 1) => 0
            part(2, 2) => 0
            part(3, 3) => 0
            text(3) => ""
            """);
    }

    private static void flipAndTurn() {
        Calls.run("16 flip, none, all, IDENTITY, twice", START + """
            flip(0) => 64
            flip(1) => 0
            flip(2) => 56
            areApart(0, 1) => true
            fixed(2) => 0
            flip(3) => 62
            has(3, 0, 7) => false
            flip(3) => 2
            text(3) => "0:7 7:6"
            """);
        Calls.run("17 turn, none, all, IDENTITY, twice", START + """
            turn(0) => 0
            turn(1) => 0
            turn(2) => 0
            count(1) => 64
            text(2) => "%s"
            turn(3) => 2
            text(3) => "6:7 7:0"
            turn(3) => 2
            text(3) => "0:7 7:6"
            put(3, 7, 0) => 1
            put(3, 7, 7) => 1
            turn(3) => 1
            text(3) => "0:7 6:7 7:0,7"
            """.formatted(TEXT_OF_IDENTITY));
    }

    private static void through() {
        Calls.run("18 through, none, all, IDENTITY", START + """
            through(0, 1, 0) => 0
            through(1, 0, 0) => 0
            through(1, 1, 1) => 64
            through(2, 2, 2) => 8
            through(2, 3, 0) => 2
            areAlike(0, 3) => true
            through(3, 2, 0) => 2
            areAlike(0, 3) => true
            through(3, 1, 0) => 16
            ends(0, false) => 129
            through(1, 3, 0) => 16
            ends(0, true) => 192
            """);
        Calls.run("18 through, three times the same", START + "through(3, 3, 3) => 1\ntext(3) => \"0:6\"");
        Calls.run("18 through, both the same", START + "through(3, 3, 0) => 1\ntext(0) => \"0:6\"\ncount(3) => 2");
        Calls.run("18 through, into the one", START + "through(3, 1, 3) => 16\nends(3, false) => 129\ncount(1) => 64");
        Calls.run("18 through, into the other one", START + "through(1, 3, 3) => 16\nends(3, true) => 192\ncount(1) => 64");
    }

    private static void power() {
        Calls.run("19 power 0 of none, of all, of IDENTITY", START + """
            power(0, 0) => 8
            power(1, 0) => 8
            power(2, 0) => 8
            power(3, 0) => 8
            text(0) => "%1$s"
            text(1) => "%1$s"
            text(2) => "%1$s"
            text(3) => "%1$s"
            """.formatted(TEXT_OF_IDENTITY));
        Calls.run("19 power 1 stays", START + """
            power(0, 1) => 0
            power(1, 1) => 64
            power(2, 1) => 8
            power(3, 1) => 2
            text(3) => "0:7 7:6"
            """);
        Calls.run("19 power 9 of none, of all, of IDENTITY", START + """
            power(0, 9) => 0
            power(1, 9) => 64
            power(2, 9) => 8
            power(3, 9) => 0
            """);
        for (int n = 0; n <= 9; n++) {
            Relationkeys ring = Calls.after(RING_OF_ALL);
            Calls.due("19 power " + n + " of a ring of all", "" + ring.power(0, n), "8");
            Calls.due("19 where it goes from 0", "" + ring.image(0, 0), "" + (1 << n % 8));
            Calls.due("19 where it goes from 5", "" + ring.image(0, 5), "" + (1 << (n + 5) % 8));
            Relationkeys path = Calls.after(RING_OF_ALL + "; take(0, 7, 0)");
            Calls.due("19 power " + n + " of a path of all", "" + path.power(0, n), "" + Math.max(0, 8 - n));
        }
    }

    private static final String RING_OF_ALL =
        "put(0, 0, 1); put(0, 1, 2); put(0, 2, 3); put(0, 3, 4); put(0, 4, 5); put(0, 5, 6); put(0, 6, 7); put(0, 7, 0)";

    private static void residual() {
        Calls.run("20 residual, by none: all of them", START + """
            residual(0, 3, 0) => 64
            clear(0) => 64
            residual(0, 0, 0) => 64
            """);
        Calls.run("20 residual, by all and of none", START + """
            residual(1, 0, 2) => 0
            residual(1, 1, 2) => 64
            residual(1, 3, 2) => 0
            """);
        Calls.run("20 residual, by IDENTITY: the other one", START + """
            residual(2, 3, 0) => 2
            text(0) => "0:7 7:6"
            residual(2, 1, 0) => 64
            residual(2, 2, 2) => 8
            """);
        Calls.run("20 residual, of IDENTITY by another one", START + """
            residual(3, 2, 0) => 50
            image(0, 7) => 1
            image(0, 6) => 128
            image(0, 0) => 255
            """);
        Calls.run("20 residual, three times the same", START + """
            residual(3, 3, 3) => 50
            image(3, 6) => 64
            image(3, 7) => 128
            image(3, 5) => 255
            """);
        Calls.run("20 residual, both the same", START + "residual(3, 3, 0) => 50\ntext(3) => \"0:7 7:6\"");
        Calls.run("20 residual, into the one", START + "residual(3, 2, 3) => 50\nimage(3, 7) => 1\ncount(2) => 8");
        Calls.run("20 residual, into the other one", START + "residual(2, 3, 3) => 2\ntext(3) => \"0:7 7:6\"");
    }

    private static void close() {
        closures("of none", "clear(0)", 8, 0, 0, 8);
        closures("of all", "fill(0)", 0, 0, 0, 0);
        closures("of IDENTITY", "same(0)", 0, 0, 0, 0);
        closures("of its COMPLEMENT", "same(0); flip(0)", 8, 0, 8, 8);
        closures("of one pair", "put(0, 7, 0)", 8, 1, 0, 9);
        closures("of (7, 7)", "put(0, 7, 7)", 7, 0, 0, 7);
        closures("of a ring of all", RING_OF_ALL, 8, 8, 56, 56);
        closures("of a path of all", RING_OF_ALL + "; take(0, 7, 0)", 8, 7, 21, 57);
        closures("of a path of all, turned", RING_OF_ALL + "; take(0, 7, 0); turn(0)", 8, 7, 21, 57);
        closures("of two to one", "put(0, 1, 7); put(0, 2, 7)", 8, 2, 0, 12);
        Calls.run("21 close, the equivalence of a mere fork", """
            put(0, 7, 1) => 1
            put(0, 7, 2) => 1
            close(0, 3) => 12
            text(0) => "0:0 1:1,2,7 2:1,2,7 3:3 4:4 5:5 6:6 7:1,2,7"
            """);
    }

    /** How many pairs come by each closure; of what is closed no more come. */
    private static void closures(String name, String calls, int... came) {
        int[] kinds = {0, 2, 4, 9};
        for (int which = 0; which <= 3; which++) {
            Relationkeys object = Calls.after(calls + "; copy(0, 1)");
            String what = "21 close " + which + " " + name;
            Calls.due(what, "" + object.close(0, which), "" + came[which]);
            Calls.due(what + ", once more", "" + object.close(0, which), "0");
            Calls.due(what + " is of its KIND", "" + object.is(0, kinds[which]), "true");
            Calls.due(what + " has all of it", "" + object.isWithin(1, 0), "true");
        }
    }

    private static void kernel() {
        Calls.run("22 kernel, of none, of all, of IDENTITY", START + """
            kernel(0, 3) => 64
            kernel(1, 3) => 64
            kernel(2, 3) => 8
            text(3) => "%s"
            kernel(0, 0) => 64
            kernel(1, 1) => 64
            kernel(2, 2) => 8
            """.formatted(TEXT_OF_IDENTITY));
        Calls.run("22 kernel, both images empty", START + """
            kernel(3, 0) => 38
            image(0, 1) => 126
            image(0, 6) => 126
            image(0, 0) => 1
            image(0, 7) => 128
            text(3) => "0:7 7:6"
            kernel(3, 3) => 38
            areAlike(0, 3) => true
            """);
        Calls.run("22 kernel, images that share a thing but are unlike", """
            aim(0, 0, 3) => 0
            aim(0, 1, 1) => 0
            aim(0, 7, 3) => 0
            kernel(0, 1) => 30
            image(1, 0) => 129
            image(1, 1) => 2
            """);
    }

    private static void fold() {
        Calls.run("23 fold, by IDENTITY and by all", START + """
            fold(3, 2, 0) => 2
            text(0) => "0:7 7:6"
            fold(3, 1, 0) => 1
            text(0) => "0:0"
            clear(0) => 1
            fold(0, 1, 0) => 0
            fold(1, 2, 0) => 64
            fold(1, 1, 0) => 1
            fold(2, 1, 0) => 1
            fold(2, 2, 2) => 8
            house(1) => 0
            """);
        Calls.run("23 fold, the same three times", START + "fold(1, 1, 1) => 1\ntext(1) => \"0:0\"");
        Calls.run("23 fold, into the equivalence", START + "fold(3, 2, 2) => 2\ntext(2) => \"0:7 7:6\"\ncount(3) => 2");
        Calls.run("23 fold, into the one", START + "fold(3, 1, 3) => 1\ntext(3) => \"0:0\"\ncount(1) => 64");
        Calls.run("23 fold, an equivalence by itself, into another", START + "fold(2, 2, 0) => 8\nareAlike(0, 2) => true");
        Calls.run("23 fold, to the smallest thing of a class", """
            put(1, 7, 3) => 1
            put(1, 7, 5) => 1
            close(1, 3) => 12
            aim(0, 7, 160) => 0
            aim(0, 4, 8) => 0
            put(0, 5, 6) => 1
            fold(0, 1, 2) => 3
            text(2) => "3:3,6 4:3"
            """);
    }

    // ---- what is asked

    private static void pairsAsked() {
        Calls.run("24 has, 25 count of none, of all, of IDENTITY", START + """
            has(0, 0, 0) => false
            has(0, 7, 7) => false
            has(1, 0, 0) => true
            has(1, 7, 0) => true
            has(1, 0, 7) => true
            has(1, 7, 7) => true
            has(2, 7, 7) => true
            has(2, 7, 6) => false
            has(3, 0, 7) => true
            has(3, 7, 0) => false
            count(0) => 0
            count(1) => 64
            count(2) => 8
            """);
    }

    private static void setsAsked() {
        Calls.run("26 image, 27 source of none, of all, of IDENTITY", START + """
            image(0, 0) => 0
            image(0, 7) => 0
            image(1, 0) => 255
            image(1, 7) => 255
            image(2, 0) => 1
            image(2, 7) => 128
            image(3, 0) => 128
            image(3, 6) => 0
            source(0, 0) => 0
            source(0, 7) => 0
            source(1, 0) => 255
            source(1, 7) => 255
            source(2, 0) => 1
            source(2, 7) => 128
            source(3, 7) => 1
            source(3, 6) => 128
            source(3, 0) => 0
            """);
        Calls.run("28 ends, 35 fixed of none, of all, of IDENTITY", START + """
            ends(0, false) => 0
            ends(0, true) => 0
            ends(1, false) => 255
            ends(1, true) => 255
            ends(2, false) => 255
            ends(2, true) => 255
            ends(3, false) => 129
            ends(3, true) => 192
            fixed(0) => 0
            fixed(1) => 255
            fixed(2) => 255
            fixed(3) => 0
            """);
    }

    private static void imagesAsked() {
        Calls.run("29 hasImage, the empty and the whole set", START + """
            hasImage(0, 0) => true
            hasImage(0, 255) => false
            hasImage(1, 0) => false
            hasImage(1, 255) => true
            hasImage(2, 0) => false
            hasImage(2, 1) => true
            hasImage(2, 128) => true
            hasImage(2, 129) => false
            hasImage(3, 0) => true
            hasImage(3, 128) => true
            hasImage(3, 64) => true
            hasImage(3, 192) => false
            """);
        Calls.run("30 images, an empty one counts, too", START + """
            images(0) => 1
            images(1) => 1
            images(2) => 8
            images(3) => 3
            aim(1, 7, 0) => 255
            images(1) => 2
            aim(2, 7, 0) => 128
            images(2) => 8
            aim(2, 0, 0) => 1
            images(2) => 7
            """);
    }

    private static void waysAsked() {
        Calls.run("32 reach, of none, of all, of IDENTITY", START + """
            reach(0, 0) => 0
            reach(0, 7) => 0
            reach(1, 0) => 255
            reach(1, 7) => 255
            reach(2, 0) => 1
            reach(2, 7) => 128
            reach(3, 0) => 192
            reach(3, 7) => 64
            reach(3, 6) => 0
            """);
        Calls.run("33 steps, 34 hasRing, of none, of all, of IDENTITY", START + """
            steps(0, 0, 0) => -1
            steps(0, 0, 7) => -1
            steps(1, 0, 0) => 1
            steps(1, 7, 0) => 1
            steps(2, 7, 7) => 1
            steps(2, 7, 6) => -1
            steps(3, 0, 7) => 1
            steps(3, 0, 6) => 2
            steps(3, 0, 0) => -1
            steps(3, 6, 0) => -1
            hasRing(0) => false
            hasRing(1) => true
            hasRing(2) => true
            hasRing(3) => false
            put(3, 6, 0) => 1
            hasRing(3) => true
            steps(3, 0, 0) => 3
            reach(3, 0) => 193
            """);
    }

    private static void longestWays() {
        Relationkeys ring = Calls.after(RING_OF_ALL);
        Relationkeys path = Calls.after(RING_OF_ALL + "; take(0, 7, 0)");
        Calls.due("34 hasRing of a ring of all", "" + ring.hasRing(0), "true");
        Calls.due("34 hasRing of a path of all", "" + path.hasRing(0), "false");
        for (int x = 0; x < 8; x++) {
            Calls.due("32 reach in a ring of all from " + x, "" + ring.reach(0, x), "255");
            Calls.due("32 reach in a path of all from " + x, "" + path.reach(0, x), "" + (255 & ~((2 << x) - 1)));
            for (int y = 0; y < 8; y++) {
                int steps = (y - x + 7) % 8 + 1;
                Calls.due("33 steps in a ring of all " + x + " " + y, "" + ring.steps(0, x, y), "" + steps);
                Calls.due("33 steps in a path of all " + x + " " + y, "" + path.steps(0, x, y), "" + (y > x ? y - x : -1));
            }
        }
    }

    private static void kinds() {
        for (int x = 0; x < 8; x++) {
            kindsOf("IDENTITY without (" + x + ", " + x + ")", "same(0); take(0, " + x + ", " + x + ")", "2 3 4 6 7");
            kindsOf("just (" + x + ", " + x + ")", "put(0, " + x + ", " + x + ")", "2 3 4 6 7");
            kindsOf("all but the image of " + x, "fill(0); aim(0, " + x + ", 0)", "4 8");
            kindsOf("all but the source of " + x, "fill(0); seconds(0, " + (255 - (1 << x)) + ")", "4 5");
            kindsOf("all to " + x, "fill(0); seconds(0, " + (1 << x) + ")", "3 4 5 6");
            kindsOf(x + " to all", "fill(0); firsts(0, " + (1 << x) + ")", "3 4 7 8");
            int next = (x + 1) % 8;
            String there = "put(0, " + x + ", " + next + "); ";
            String back = "put(0, " + next + ", " + x + "); ";
            kindsOf("from " + x + " to the next", there, "1 3 4 6 7");
            kindsOf("from " + x + " to the next and back", there + back, "1 2 6 7");
            kindsOf("IDENTITY, from " + x + " to the next", there + "close(0, 0)", "0 3 4 5 8");
            kindsOf("IDENTITY, from " + x + " to the next and back", there + back + "close(0, 0)", "0 2 4 5 8 9");
        }
        kindsOf("a ring of all", RING_OF_ALL, "1 3 5 6 7 8");
        kindsOf("a path of all", RING_OF_ALL + "; take(0, 7, 0)", "1 3 6 7");
    }

    private static void kindsOf(String name, String calls, String kinds) {
        Relationkeys object = Calls.after(calls);
        for (int kind = 0; kind <= 9; kind++) {
            Calls.due("36 is " + kind + ": " + name, "" + object.is(0, kind), "" + kinds.contains("" + kind));
        }
    }

    private static void classes() {
        Calls.run("37 classOf, 38 classes of none, of all, of IDENTITY", START + """
            classOf(0, 0) => -9
            classes(0) => -9
            classOf(1, 0) => 255
            classOf(1, 7) => 255
            classes(1) => 1
            classOf(2, 0) => 1
            classOf(2, 7) => 128
            classes(2) => 8
            house(1) => 2
            """);
    }

    private static void ofTwo() {
        Calls.run("39 isWithin, itself, none, all", START + """
            isWithin(0, 0) => true
            isWithin(1, 1) => true
            isWithin(3, 3) => true
            isWithin(0, 1) => true
            isWithin(1, 0) => false
            isWithin(0, 3) => true
            isWithin(3, 0) => false
            isWithin(3, 1) => true
            isWithin(1, 3) => false
            isWithin(2, 3) => false
            """);
        Calls.run("40 areAlike, itself, none, all", START + """
            areAlike(0, 0) => true
            areAlike(1, 1) => true
            areAlike(3, 3) => true
            areAlike(0, 1) => false
            areAlike(1, 0) => false
            areAlike(1, 2) => false
            clear(3) => 2
            areAlike(0, 3) => true
            take(1, 7, 7) => 1
            fill(3) => 64
            areAlike(1, 3) => false
            areAlike(3, 1) => false
            """);
        Calls.run("41 areApart, itself, none, all", START + """
            areApart(0, 0) => true
            areApart(1, 1) => false
            areApart(0, 1) => true
            areApart(1, 0) => true
            areApart(2, 3) => true
            areApart(3, 1) => false
            copy(3, 0) => 2
            flip(0) => 62
            areApart(0, 3) => true
            put(0, 7, 6) => 1
            areApart(0, 3) => false
            """);
    }

    private static final int[] NUMBERS = {0, 16, 32, 1, -1, 65536, 2147483647, -2147483648};

    /** A thing with an empty image counts nothing, not even its number. */
    private static void hashOfOneThing() {
        Calls.run("42 hash of none, of all, of IDENTITY", START + """
            hash(0) => 0
            hash(1) => 196777
            hash(2) => 0
            hash(3) => 2147483647
            """);
        for (int x = 0; x < 8; x++) {
            for (int y = 0; y < 8; y++) {
                Relationkeys object = Calls.after("put(0, " + x + ", " + y + ")");
                Calls.due("42 hash of the pair " + x + " " + y, "" + object.hash(0), "" + (NUMBERS[x] ^ NUMBERS[y]));
            }
            Relationkeys object = Calls.after("aim(0, " + x + ", 255)");
            Calls.due("42 hash of " + x + " to all", "" + object.hash(0), "" + (NUMBERS[x] ^ 65583));
        }
    }

    private static void hashWrapsAround() {
        Calls.run("42 hash, the sum of the NUMBERS of an image wraps around", """
            aim(0, 0, 72) => 0
            hash(0) => -2147483648
            aim(0, 0, 144) => 72
            hash(0) => 2147483647
            aim(0, 0, 192) => 144
            hash(0) => -1
            aim(0, 0, 96) => 192
            hash(0) => -2147418113
            aim(0, 0, 255) => 96
            hash(0) => 65583
            """);
        Calls.run("42 hash, the sum over the things wraps around", """
            put(0, 6, 0) => 1
            hash(0) => 2147483647
            put(0, 3, 0) => 1
            hash(0) => -2147483648
            put(0, 4, 0) => 1
            hash(0) => 2147483647
            put(0, 5, 0) => 1
            hash(0) => -2147418113
            put(0, 7, 0) => 1
            hash(0) => 65535
            put(0, 2, 0) => 1
            put(0, 1, 0) => 1
            put(0, 0, 0) => 1
            hash(0) => 65583
            """);
    }

    private static void text() {
        Calls.run("43 text, of none, of all, of IDENTITY", START + """
            text(0) => ""
            text(1) => "%s"
            text(2) => "%s"
            text(3) => "0:7 7:6"
            clear(1) => 64
            text(1) => ""
            put(1, 0, 0) => 1
            text(1) => "0:0"
            put(1, 7, 0) => 1
            text(1) => "0:0 7:0"
            aim(1, 7, 255) => 1
            take(1, 0, 0) => 1
            text(1) => "7:%s"
            """.formatted(TEXT_OF_ALL, TEXT_OF_IDENTITY, ALL));
    }

    // ---- the whole

    private static void knockAndHouse() {
        Calls.run("44 knock, 45 house of none, of all", START + """
            house(0) => 74
            house(1) => 0
            house(2) => 0
            house(3) => 1
            house(4) => 2
            knock() => 1
            house(2) => 1
            knock() => 2
            house(2) => 2
            house(0) => 74
            house(1) => 0
            fill(0) => 64
            fill(2) => 56
            fill(3) => 62
            house(0) => 256
            house(3) => 0
            house(4) => 4
            clear(0) => 64
            clear(1) => 64
            clear(2) => 64
            clear(3) => 64
            house(0) => 0
            house(3) => 4
            house(4) => 0
            """);
        Calls.run("44 knock changes no pair", START + """
            knock() => 1
            count(0) => 0
            count(1) => 64
            count(2) => 8
            text(3) => "0:7 7:6"
            """);
    }

    /** The next one of 3 is 0, so each relation stands at each place of the laws. */
    private static void isSound() {
        String[] shapes = {"clear(%d)", "fill(%d)", "same(%d)", "aim(%d, 7, 3)", "aim(%d, 0, 160)", "send(%d, 5, 0)"};
        for (int which = 0; which < 6 * 6 * 6 * 6; which++) {
            StringBuilder calls = new StringBuilder();
            int rest = which;
            for (int relation = 0; relation < 4; relation++) {
                calls.append(shapes[rest % 6].formatted(relation)).append("; ");
                rest /= 6;
            }
            Relationkeys object = Calls.after(calls.toString());
            String before = Calls.pairsOf(object);
            Calls.due("46 isSound() after " + calls, "" + object.isSound(), "true");
            Calls.due("46 the pairs behind it, after " + calls, Calls.pairsOf(object), before);
        }
    }

    private static void digest() {
        digestIn64Bits("");
        digestIn64Bits("fill(0); fill(1); fill(2); fill(3)");
        digestIn64Bits("same(0); same(1); same(2); same(3)");
        digestIn64Bits("put(0, 7, 0); put(1, 4, 0); aim(2, 0, 96); put(3, 6, 0)");
        digestIn64Bits("put(3, 7, 0); knock(); knock(); knock(); classes(0); classes(0); aim(1, 2, 255); same(2)");
        Calls.run("47 digest tells what is refused and knocked", """
            digest() => %s
            knock() => 1
            digest() => %s
            """.formatted(wholeDigest(new Relationkeys()), wholeDigest(Calls.after("knock()"))));
    }

    private static void digestIn64Bits(String calls) {
        Relationkeys object = Calls.after(calls);
        Calls.due("47 digest() after " + calls, "" + object.digest(), wholeDigest(object));
        Calls.due("47 digest(), once more, after " + calls, "" + object.digest(), wholeDigest(object));
    }

    /** The number without any wrap-around, of which the lowest 64 bits are due. */
    private static String wholeDigest(Relationkeys object) {
        BigInteger d = BigInteger.valueOf(7845);
        for (int what = 0; what <= 4; what++) {
            d = added(d, object.house(what));
        }
        for (int relation = 0; relation < 4; relation++) {
            d = added(d, object.count(relation), object.hash(relation), object.text(relation).length());
            d = added(d, object.images(relation), object.fixed(relation));
            for (int thing = 0; thing < 8; thing++) {
                d = added(d, object.image(relation, thing), object.source(relation, thing), object.reach(relation, thing));
            }
            for (int kind = 0; kind <= 9; kind++) {
                d = added(d, object.is(relation, kind) ? 1 : 0);
            }
            for (int other = 0; other < 4; other++) {
                d = added(d, object.isWithin(relation, other) ? 1 : 0, object.areAlike(relation, other) ? 1 : 0);
                d = added(d, object.areApart(relation, other) ? 1 : 0);
            }
        }
        return "" + added(d, object.isSound() ? 1 : 0).longValue();
    }

    private static BigInteger added(BigInteger before, int... values) {
        BigInteger d = before;
        for (int value : values) {
            d = d.multiply(BigInteger.valueOf(31)).add(BigInteger.valueOf(value));
        }
        return d;
    }
}
