/**
 * An object is used for 512 calls: each call, made so often, answers as the model does to its end, and what
 * is counted (refusals, knocks) is counted as often.
 */
public final class LongRunsTest {
    private static final int CALLS_OF_AN_OBJECT = 512;

    /** Each method of the face, some with calls that undo one another; a line's calls are made in turn. */
    private static final String[] TURNS = {
        "put(0, 7, 7); take(0, 7, 7)",
        "aim(1, 3, 255); aim(1, 3, 0)",
        "send(2, 5, 1); send(2, 5, 2); send(2, 5, 2)",
        "clear(3); fill(3)",
        "same(0); flip(0)",
        "copy(0, 1); copy(2, 1)",
        "fill(1); firsts(1, 170); seconds(1, 85)",
        "unite(2, 0); less(2, 1); part(2, 0); meet(2, 2)",
        "turn(0)",
        "through(0, 0, 0); put(0, 0, 1)",
        "power(0, 3); put(0, 6, 7)",
        "residual(0, 1, 2); residual(2, 0, 1)",
        "close(1, 3); take(1, 4, 5); close(1, 2)",
        "kernel(0, 3); kernel(3, 0)",
        "same(3); fold(0, 3, 1)",
        "fold(0, 0, 1)",
        "apply(0, 0)",
        "apply(0, 1)",
        "classOf(0, 0)",
        "classes(0)",
        "classOf(1, 0); apply(0, 0); knock(); classes(2); fold(1, 0, 3)",
        "knock()",
        "knock(); house(2); house(1)",
        "has(0, 0, 1); count(0); image(0, 0); source(0, 1); ends(0, true); ends(0, false)",
        "hasImage(0, 6); images(0); reach(0, 0); steps(0, 0, 7); hasRing(0); fixed(0); is(0, 9)",
        "isWithin(0, 1); areAlike(0, 1); areApart(0, 1); hash(0); text(0); house(0); house(3); house(4)",
        "isSound(); digest()",
        "put(4, 0, 0); put(0, 8, 0); house(5); classOf(4, 0)"
    };

    public static void main(String[] arguments) {
        for (String turn : TURNS) {
            compare(turn);
        }
        countedToTheEnd("knock()", "house(2)");
        for (String refused : new String[] {"fold(0, 0, 1)", "apply(0, 0)", "classOf(0, 0)", "classes(0)"}) {
            countedToTheEnd(refused, "house(1)");
        }
        Calls.end();
    }

    /** The last call is digest(), which tells of the whole state. */
    private static void compare(String turn) {
        Relationkeys object = new Relationkeys();
        Model model = new Model();
        String[] start = {"aim(0, 0, 6)", "put(0, 2, 7)", "put(1, 4, 4)"};
        String[] calls = turn.split("; ");
        for (int call = 0; call < CALLS_OF_AN_OBJECT - 1; call++) {
            String next = call < start.length ? start[call] : calls[(call - start.length) % calls.length];
            String what = "call " + call + " of \"" + turn + "\", " + next;
            Calls.due(what, Calls.answer(object, next), Calls.answer(model, next));
        }
        Calls.due("digest() after " + turn, "" + object.digest(), "" + model.digest());
    }

    private static void countedToTheEnd(String call, String asked) {
        Relationkeys object = Calls.after("aim(0, 0, 6)");
        int times = CALLS_OF_AN_OBJECT - 2;
        for (int k = 0; k < times; k++) {
            Calls.answer(object, call);
        }
        Calls.due(asked + " after " + call + ", " + times + " times", Calls.answer(object, asked), "" + times);
    }
}
