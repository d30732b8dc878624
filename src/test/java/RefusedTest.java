/** REFUSED and NONE: what is refused, that it changes nothing but is counted, and what goes ahead of it. */
public final class RefusedTest {
    private static final String[] NO_EQUIVALENCES = {
        "",
        "same(1); take(1, 0, 0)",
        "same(1); take(1, 7, 7)",
        "same(1); put(1, 0, 1)",
        "same(1); put(1, 7, 6)",
        "same(1); put(1, 0, 1); put(1, 1, 0); put(1, 1, 2); put(1, 2, 1)",
        "same(1); put(1, 7, 5); put(1, 5, 7); put(1, 5, 6); put(1, 6, 5)",
        "same(1); put(1, 2, 4); put(1, 4, 6); put(1, 2, 6)",
        "same(1); flip(1)",
        "fill(1); take(1, 3, 3)",
        "fill(1); take(1, 3, 4)",
        "fill(1); take(1, 3, 4); take(1, 4, 3)",
        "put(1, 3, 3)",
        "put(1, 0, 1); close(1, 1); close(1, 2)"
    };

    public static void main(String[] arguments) {
        changesNothingButIsCounted();
        isCountedEachTime();
        whatIsNoEquivalence();
        whatIsAnEquivalence();
        exceptionsGoAhead();
        applyByHowMany();
        noneIsNotCounted();
        theWholeIsNotCounted();
        Calls.end();
    }

    private static void changesNothingButIsCounted() {
        String rich = "aim(0, 0, 6); aim(0, 7, 1); put(1, 3, 3); put(1, 2, 7); aim(2, 5, 255); same(3); knock(); ";
        String[] calls = {
            "fold(0, 1, 2)", "fold(1, 0, 3)", "fold(3, 1, 0)", "fold(0, 1, 1)", "fold(1, 1, 0)", "fold(0, 0, 0)",
            "apply(0, 0)", "apply(2, 5)", "classOf(0, 0)", "classOf(1, 3)", "classOf(2, 5)", "classes(0)", "classes(1)"
        };
        for (String call : calls) {
            Relationkeys object = Calls.after(rich);
            String before = Calls.pairsOf(object);
            Calls.due(call + " is refused", Calls.answer(object, call), "-9");
            Calls.due("the pairs after " + call, Calls.pairsOf(object), before);
            Calls.due("house(1) after " + call, Calls.answer(object, "house(1)"), "1");
            Calls.due("house(2) after " + call, Calls.answer(object, "house(2)"), "1");
        }
    }

    private static void isCountedEachTime() {
        Calls.run("23, 31, 37, 38 each refusal is counted once", """
            aim(0, 7, 3) => 0
            apply(0, 7) => -9
            apply(0, 7) => -9
            house(1) => 2
            classOf(0, 0) => -9
            classOf(0, 0) => -9
            house(1) => 4
            classes(0) => -9
            classes(0) => -9
            house(1) => 6
            fold(0, 0, 0) => -9
            fold(0, 0, 0) => -9
            house(1) => 8
            house(1) => 8
            clear(0) => 2
            house(1) => 8
            """);
    }

    private static void whatIsNoEquivalence() {
        for (String calls : NO_EQUIVALENCES) {
            Relationkeys object = Calls.after("put(0, 4, 2); " + calls);
            Calls.due("36 after " + calls, Calls.answer(object, "is(1, 9)"), "false");
            Calls.due("23 after " + calls, Calls.answer(object, "fold(0, 1, 2)"), "-9");
            Calls.due("37 after " + calls, Calls.answer(object, "classOf(1, 4)"), "-9");
            Calls.due("38 after " + calls, Calls.answer(object, "classes(1)"), "-9");
            Calls.due("45 after " + calls, Calls.answer(object, "house(4)"), "0");
            Calls.due("45 after " + calls, Calls.answer(object, "house(1)"), "3");
            Calls.due("23 into, after " + calls, Calls.answer(object, "text(2)"), "\"\"");
        }
    }

    private static void whatIsAnEquivalence() {
        anEquivalence("same(1)", "4:2", 8, 16);
        anEquivalence("fill(1)", "0:0", 1, 255);
        anEquivalence("put(1, 4, 7); put(1, 4, 0); close(1, 3)", "0:2", 6, 1 + 16 + 128);
        anEquivalence("kernel(1, 1)", "0:0", 1, 255);
        anEquivalence("send(1, 4, 0); kernel(1, 1)", "4:0", 2, 16);
    }

    /** Told by what becomes of the pair (4, 2), by how many classes there are and by that of 4. */
    private static void anEquivalence(String calls, String folded, int classes, int classOf4) {
        Relationkeys object = Calls.after("put(0, 4, 2); " + calls);
        Calls.due("36 after " + calls, Calls.answer(object, "is(1, 9)"), "true");
        Calls.due("37 after " + calls, Calls.answer(object, "classOf(1, 4)"), "" + classOf4);
        Calls.due("38 after " + calls, Calls.answer(object, "classes(1)"), "" + classes);
        Calls.due("45 after " + calls, Calls.answer(object, "house(4)"), "1");
        Calls.due("23 after " + calls, Calls.answer(object, "fold(0, 1, 2)"), "1");
        Calls.due("23 folded after " + calls, Calls.answer(object, "text(2)"), "\"" + folded + "\"");
        Calls.due("45 after " + calls, Calls.answer(object, "house(1)"), "0");
    }

    private static void exceptionsGoAhead() {
        Calls.run("23 fold, exceptions ahead of REFUSED", """
            fold(4, 0, 0) => throws.IndexOutOfBoundsException
            fold(-1, 0, 0) => throws.IndexOutOfBoundsException
            fold(0, 4, 0) => throws.IndexOutOfBoundsException
            fold(0, -1, 0) => throws.IndexOutOfBoundsException
            fold(0, 0, 4) => throws.IndexOutOfBoundsException
            fold(0, 0, -1) => throws.IndexOutOfBoundsException
            house(1) => 0
            """);
        Calls.run("31 apply, exceptions ahead of REFUSED", """
            fill(0) => 64
            apply(4, 0) => throws.IndexOutOfBoundsException
            apply(-1, 0) => throws.IndexOutOfBoundsException
            apply(0, 8) => throws.IllegalArgumentException
            apply(0, -1) => throws.IllegalArgumentException
            house(1) => 0
            """);
        Calls.run("37 classOf, exceptions ahead of REFUSED", """
            classOf(4, 0) => throws.IndexOutOfBoundsException
            classOf(-1, 8) => throws.IndexOutOfBoundsException
            classOf(0, 8) => throws.IllegalArgumentException
            classOf(0, -1) => throws.IllegalArgumentException
            house(1) => 0
            """);
        Calls.run("38 classes, exceptions ahead of REFUSED", """
            classes(4) => throws.IndexOutOfBoundsException
            classes(-1) => throws.IndexOutOfBoundsException
            house(1) => 0
            """);
    }

    private static void applyByHowMany() {
        Calls.run("31 apply, of an image of none, of one, of two, of all", """
            aim(0, 1, 1) => 0
            aim(0, 2, 128) => 0
            aim(0, 3, 129) => 0
            aim(0, 4, 3) => 0
            aim(0, 5, 192) => 0
            aim(0, 6, 255) => 0
            apply(0, 0) => -1
            apply(0, 1) => 0
            apply(0, 2) => 7
            house(1) => 0
            apply(0, 3) => -9
            apply(0, 4) => -9
            apply(0, 5) => -9
            apply(0, 6) => -9
            apply(0, 7) => -1
            house(1) => 4
            """);
    }

    private static void noneIsNotCounted() {
        Calls.run("31, 33 NONE is not counted", """
            apply(0, 0) => -1
            steps(0, 0, 0) => -1
            steps(0, 0, 7) => -1
            house(1) => 0
            text(0) => ""
            """);
    }

    private static void theWholeIsNotCounted() {
        Calls.run("45 to 47, the whole refuses nothing", """
            aim(0, 3, 129) => 0
            fill(1) => 64
            take(1, 0, 0) => 1
            house(0) => 65
            house(4) => 0
            isSound() => true
            is(0, 9) => false
            house(1) => 0
            """);
        Relationkeys object = Calls.after("aim(0, 3, 129)");
        object.digest();
        Calls.due("house(1) after digest()", "" + object.house(1), "0");
    }
}
