/** Promises 44 to 47: the whole. */
public final class WholeTest {
    public static void main(String[] arguments) {
        knock();
        house();
        isSound();
        digest();
        digestOfRichStates();
        whatIsAskedChangesNothing();
        Calls.end();
    }

    private static void knock() {
        Calls.run("44 knock", """
            knock() => 1
            knock() => 2
            clear(0) => 0
            knock() => 3
            house(2) => 3
            """);
        Calls.run("44 knock, of a new object", "knock() => 1");
    }

    private static void house() {
        Calls.run("45 house", """
            house(3) => 4
            put(0, 1, 1) => 1
            put(3, 1, 1) => 1
            house(0) => 2
            house(3) => 2
            house(4) => 0
            same(3) => 1
            fill(1) => 64
            house(4) => 2
            house(0) => 73
            house(3) => 1
            fill(0) => 63
            fill(2) => 64
            fill(3) => 56
            house(0) => 256
            house(4) => 4
            house(3) => 0
            apply(0, 0) => -9
            clear(1) => 64
            classes(1) => -9
            classOf(1, 0) => -9
            fold(0, 1, 2) => -9
            house(1) => 4
            knock() => 1
            house(2) => 1
            house(1) => 4
            house(-1) => throws.IllegalArgumentException
            house(5) => throws.IllegalArgumentException
            house(-2147483648) => throws.IllegalArgumentException
            """);
    }

    private static void isSound() {
        Calls.run("46 isSound", """
            isSound() => true
            put(0, 0, 1) => 1
            put(1, 1, 2) => 1
            put(2, 0, 2) => 1
            isSound() => true
            clear(2) => 1
            isSound() => true
            fill(3) => 64
            isSound() => true
            aim(0, 7, 200) => 0
            aim(1, 3, 77) => 0
            turn(1) => 4
            aim(2, 5, 130) => 0
            isSound() => true
            flip(0) => 60
            same(3) => 8
            isSound() => true
            house(1) => 0
            """);
    }

    private static void digest() {
        Calls.due("47 digest of a new object", Calls.answer(new Relationkeys(), "digest()"), "" + emptyDigest());
        Calls.run("47 digest, as the document's runs tell it", """
            fold(0, 1, 2) => -9
            digest() => -172523343081493717
            digest() => -172523343081493717
            """);
    }

    private static final String[] RICH_STATE = {
        "aim(0, 0, 6)", "aim(0, 2, 130)", "aim(0, 7, 1)", "aim(0, 6, 65)", "send(0, 3, 3)",
        "put(1, 1, 7)", "put(1, 2, 7)", "close(1, 3)", "copy(0, 2)", "firsts(2, 5)", "knock()", "classes(0)"
    };

    private static void digestOfRichStates() {
        Relationkeys object = new Relationkeys();
        for (String call : RICH_STATE) {
            Calls.answer(object, call);
            long due = askedDigest(object);
            Calls.due("47 digest after " + call, Calls.answer(object, "digest()"), "" + due);
        }
    }

    /** Put together by the order of promise 47 out of what the object's other calls answer. */
    private static long askedDigest(Relationkeys object) {
        long d = 7845;
        for (int what = 0; what <= 4; what++) {
            d = added(d, object.house(what));
        }
        for (int relation = 0; relation < 4; relation++) {
            d = added(d, object.count(relation), object.hash(relation), object.text(relation).length());
            d = added(d, object.images(relation), object.fixed(relation));
            for (int thing = 0; thing < 8; thing++) {
                d = added(d, object.image(relation, thing), object.source(relation, thing));
                d = added(d, object.reach(relation, thing));
            }
            for (int kind = 0; kind <= 9; kind++) {
                d = added(d, object.is(relation, kind) ? 1 : 0);
            }
            for (int other = 0; other < 4; other++) {
                d = added(d, object.isWithin(relation, other) ? 1 : 0);
                d = added(d, object.areAlike(relation, other) ? 1 : 0, object.areApart(relation, other) ? 1 : 0);
            }
        }
        return added(d, object.isSound() ? 1 : 0);
    }

    /** Worked out by the order of promise 47 and what is so of relations without pairs. */
    private static long emptyDigest() {
        long d = 7845;
        d = added(d, 0, 0, 0, 4, 0);
        for (int relation = 0; relation < 4; relation++) {
            d = added(d, 0, 0, 0, 1, 0);
            for (int thing = 0; thing < 8; thing++) {
                d = added(d, 0, 0, 0);
            }
            d = added(d, 0, 1, 1, 1, 1, 0, 1, 1, 0, 0);
            for (int other = 0; other < 4; other++) {
                d = added(d, 1, 1, 1);
            }
        }
        return added(d, 1);
    }

    private static long added(long before, int... values) {
        long d = before;
        for (int value : values) {
            d = d * 31 + value;
        }
        return d;
    }

    private static void whatIsAskedChangesNothing() {
        Relationkeys object = new Relationkeys();
        object.aim(0, 3, 17);
        object.same(1);
        String before = String.valueOf(object.digest());
        String[] calls = {
            "has(0, 3, 4)", "count(0)", "image(0, 3)", "source(0, 4)", "ends(0, true)", "hasImage(0, 17)",
            "images(0)", "apply(0, 1)", "reach(0, 3)", "steps(0, 3, 4)", "hasRing(0)", "fixed(0)", "is(1, 9)",
            "classOf(1, 3)", "classes(1)", "isWithin(0, 1)", "areAlike(0, 1)", "areApart(0, 1)", "hash(0)",
            "text(0)", "house(4)", "isSound()", "digest()"
        };
        for (String call : calls) {
            Calls.answer(object, call);
            Calls.due("digest() after " + call, Calls.answer(object, "digest()"), before);
        }
    }
}
