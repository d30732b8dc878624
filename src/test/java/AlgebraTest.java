/** Promises 12 to 23: relations that are made of relations. */
public final class AlgebraTest {
    public static void main(String[] arguments) {
        ofTwo();
        flipAndTurn();
        through();
        power();
        residual();
        close();
        kernel();
        fold();
        Calls.end();
    }

    /** 0 has the pairs (0, 1), (7, 7), and 1 has (0, 2), (7, 7). */
    private static final String TWO = """
        put(0, 0, 1) => 1
        put(0, 7, 7) => 1
        put(1, 0, 2) => 1
        put(1, 7, 7) => 1
        """;

    private static void ofTwo() {
        Calls.run("12 unite", TWO + """
            unite(0, 1) => 3
            text(0) => "0:1,2 7:7"
            text(1) => "0:2 7:7"
            unite(0, 0) => 3
            unite(2, 3) => 0
            unite(0, 2) => 3
            unite(-1, 0) => throws.IndexOutOfBoundsException
            unite(0, 4) => throws.IndexOutOfBoundsException
            text(0) => "0:1,2 7:7"
            """);
        Calls.run("13 meet", TWO + """
            meet(0, 0) => 2
            meet(0, 1) => 1
            text(0) => "7:7"
            text(1) => "0:2 7:7"
            meet(-1, 1) => throws.IndexOutOfBoundsException
            meet(1, 4) => throws.IndexOutOfBoundsException
            text(1) => "0:2 7:7"
            meet(1, 2) => 0
            text(1) => ""
            """);
        Calls.run("14 less", TWO + """
            less(0, 1) => 1
            text(0) => "0:1"
            text(1) => "0:2 7:7"
            less(0, 2) => 1
            less(2, 1) => 0
            less(-1, 1) => throws.IndexOutOfBoundsException
            less(1, 4) => throws.IndexOutOfBoundsException
            text(1) => "0:2 7:7"
            less(1, 1) => 0
            text(1) => ""
            """);
        Calls.run("15 part", TWO + """
            part(0, 1) => 2
            text(0) => "0:1,2"
            text(1) => "0:2 7:7"
            part(2, 1) => 2
            text(2) => "0:2 7:7"
            part(-1, 1) => throws.IndexOutOfBoundsException
            part(1, 4) => throws.IndexOutOfBoundsException
            text(1) => "0:2 7:7"
            part(1, 1) => 0
            text(1) => ""
            """);
    }

    private static void flipAndTurn() {
        Calls.run("16 flip", """
            flip(0) => 64
            take(0, 3, 3) => 1
            take(0, 7, 0) => 1
            flip(0) => 2
            text(0) => "3:3 7:0"
            same(1) => 0
            flip(1) => 56
            fixed(1) => 0
            flip(-1) => throws.IndexOutOfBoundsException
            flip(4) => throws.IndexOutOfBoundsException
            house(0) => 58
            """);
        Calls.run("17 turn", """
            turn(0) => 0
            put(0, 0, 1) => 1
            put(0, 1, 0) => 1
            put(0, 7, 2) => 1
            put(0, 4, 4) => 1
            turn(0) => 1
            text(0) => "0:1 1:0 2:7 4:4"
            put(0, 0, 3) => 1
            turn(0) => 2
            text(0) => "0:1 1:0 3:0 4:4 7:2"
            turn(-1) => throws.IndexOutOfBoundsException
            turn(4) => throws.IndexOutOfBoundsException
            count(0) => 5
            """);
    }

    private static void through() {
        Calls.run("18 through", """
            aim(0, 0, 6) => 0
            aim(0, 5, 8) => 0
            aim(1, 1, 128) => 0
            aim(1, 2, 129) => 0
            aim(1, 6, 1) => 0
            through(0, 1, 2) => 2
            text(2) => "0:0,7"
            through(1, 0, 3) => 4
            text(3) => "2:1,2 6:1,2"
            through(-1, 0, 0) => throws.IndexOutOfBoundsException
            through(0, 4, 0) => throws.IndexOutOfBoundsException
            through(0, 0, 4) => throws.IndexOutOfBoundsException
            text(0) => "0:1,2 5:3"
            through(0, 1, 0) => 2
            text(0) => "0:0,7"
            """);
        Calls.run("18 through, into one of both", """
            put(0, 0, 1) => 1
            put(0, 1, 2) => 1
            put(0, 2, 7) => 1
            through(0, 0, 1) => 2
            text(1) => "0:2 1:7"
            through(0, 1, 1) => 1
            text(1) => "0:7"
            through(0, 0, 0) => 2
            text(0) => "0:2 1:7"
            same(2) => 0
            through(0, 2, 3) => 2
            areAlike(0, 3) => true
            """);
    }

    private static void power() {
        String ring = """
            send(0, 0, 1) => 1
            send(0, 1, 2) => 1
            send(0, 2, 3) => 1
            send(0, 3, 0) => 1
            send(0, 4, 5) => 1
            """;
        Calls.run("19 power 2", ring + "power(0, 2) => 4\ntext(0) => \"0:2 1:3 2:0 3:1\"");
        Calls.run("19 power 3", ring + "power(0, 3) => 4\ntext(0) => \"0:3 1:0 2:1 3:2\"");
        Calls.run("19 power 9", ring + "power(0, 9) => 4\ntext(0) => \"0:1 1:2 2:3 3:0\"");
        Calls.run("19 power 1", ring + "power(0, 1) => 5\ntext(0) => \"0:1 1:2 2:3 3:0 4:5\"");
        Calls.run("19 power 0", ring + """
            power(0, -1) => throws.IllegalArgumentException
            power(0, 10) => throws.IllegalArgumentException
            power(-1, 2) => throws.IndexOutOfBoundsException
            power(4, 10) => throws.IndexOutOfBoundsException
            count(0) => 5
            power(0, 0) => 8
            fixed(0) => 255
            power(1, 0) => 8
            power(2, 9) => 0
            """);
    }

    private static void residual() {
        Calls.run("20 residual", """
            aim(0, 0, 3) => 0
            aim(0, 1, 2) => 0
            aim(1, 0, 7) => 0
            aim(1, 1, 12) => 0
            residual(0, 1, 2) => 52
            image(2, 0) => 7
            image(2, 1) => 4
            image(2, 2) => 255
            image(2, 7) => 255
            residual(1, 0, 3) => 38
            image(3, 0) => 3
            image(3, 1) => 3
            image(3, 2) => 2
            image(3, 3) => 2
            image(3, 4) => 255
            residual(-1, 0, 0) => throws.IndexOutOfBoundsException
            residual(0, 4, 0) => throws.IndexOutOfBoundsException
            residual(0, 0, 4) => throws.IndexOutOfBoundsException
            text(0) => "0:0,1 1:1"
            residual(0, 1, 0) => 52
            areAlike(0, 2) => true
            """);
        Calls.run("20 residual, into the other one, of empty ones", """
            put(0, 3, 4) => 1
            residual(0, 1, 1) => 56
            image(1, 4) => 0
            image(1, 3) => 255
            residual(2, 3, 3) => 64
            fill(2) => 64
            clear(3) => 64
            residual(2, 3, 3) => 0
            residual(2, 2, 2) => 64
            """);
    }

    private static void close() {
        String start = """
            put(0, 0, 1) => 1
            put(0, 1, 2) => 1
            put(0, 6, 7) => 1
            """;
        Calls.run("21 close by KIND 0", start + """
            close(0, 0) => 8
            close(0, 0) => 0
            text(0) => "0:0,1 1:1,2 2:2 3:3 4:4 5:5 6:6,7 7:7"
            """);
        Calls.run("21 close by KIND 2", start + """
            close(0, 1) => 3
            close(0, 1) => 0
            text(0) => "0:1 1:0,2 2:1 6:7 7:6"
            """);
        Calls.run("21 close by KIND 4", start + """
            put(0, 7, 6) => 1
            close(0, 2) => 3
            close(0, 2) => 0
            text(0) => "0:1,2 1:2 6:6,7 7:6,7"
            """);
        Calls.run("21 close by KIND 9", start + """
            close(0, 3) => 13
            close(0, 3) => 0
            text(0) => "0:0,1,2 1:0,1,2 2:0,1,2 3:3 4:4 5:5 6:6,7 7:6,7"
            """);
        Calls.run("21 close, a long chain that goes down", """
            send(1, 7, 6) => 1
            send(1, 6, 5) => 1
            send(1, 5, 4) => 1
            send(1, 4, 3) => 1
            send(1, 3, 2) => 1
            send(1, 2, 1) => 1
            send(1, 1, 0) => 1
            close(1, 2) => 21
            image(1, 7) => 127
            close(1, 3) => 36
            """);
        Calls.run("21 close, wrong inputs", start + """
            close(0, -1) => throws.IllegalArgumentException
            close(0, 4) => throws.IllegalArgumentException
            close(-1, 0) => throws.IndexOutOfBoundsException
            close(4, 4) => throws.IndexOutOfBoundsException
            text(0) => "0:1 1:2 6:7"
            """);
    }

    private static void kernel() {
        Calls.run("22 kernel", """
            kernel(0, 1) => 64
            aim(0, 0, 5) => 0
            aim(0, 3, 5) => 0
            aim(0, 7, 1) => 0
            kernel(0, 1) => 30
            text(1) => "0:0,3 1:1,2,4,5,6 2:1,2,4,5,6 3:0,3 4:1,2,4,5,6 5:1,2,4,5,6 6:1,2,4,5,6 7:7"
            text(0) => "0:0,2 3:0,2 7:0"
            kernel(-1, 1) => throws.IndexOutOfBoundsException
            kernel(0, 4) => throws.IndexOutOfBoundsException
            kernel(4, 0) => throws.IndexOutOfBoundsException
            text(0) => "0:0,2 3:0,2 7:0"
            kernel(0, 0) => 30
            areAlike(0, 1) => true
            """);
    }

    private static void fold() {
        Calls.run("23 fold", """
            put(1, 6, 7) => 1
            put(1, 2, 5) => 1
            close(1, 3) => 10
            put(0, 6, 7) => 1
            put(0, 7, 6) => 1
            put(0, 5, 0) => 1
            put(0, 2, 0) => 1
            put(0, 0, 5) => 1
            fold(0, 1, 2) => 3
            text(2) => "0:2 2:0 6:6"
            count(0) => 5
            fold(0, 0, 3) => -9
            house(1) => 1
            text(3) => ""
            fold(-1, 1, 0) => throws.IndexOutOfBoundsException
            fold(0, 4, 0) => throws.IndexOutOfBoundsException
            fold(0, 0, 4) => throws.IndexOutOfBoundsException
            house(1) => 1
            fold(0, 1, 0) => 3
            text(0) => "0:2 2:0 6:6"
            fold(0, 1, 1) => 3
            text(1) => "0:2 2:0 6:6"
            """);
        Calls.run("23 fold, an equivalence by itself", """
            fill(0) => 64
            fold(0, 0, 0) => 1
            text(0) => "0:0"
            fold(0, 0, 0) => -9
            text(0) => "0:0"
            fold(1, 2, 3) => -9
            house(1) => 2
            """);
        Calls.run("23 fold, what is not quite an equivalence", """
            close(0, 0) => 8
            put(0, 1, 2) => 1
            fold(1, 0, 1) => -9
            put(0, 2, 1) => 1
            fold(1, 0, 1) => 0
            put(0, 2, 3) => 1
            put(0, 3, 2) => 1
            fold(1, 0, 1) => -9
            close(0, 3) => 2
            fold(1, 0, 1) => 0
            take(0, 7, 7) => 1
            fold(1, 0, 1) => -9
            house(1) => 3
            """);
    }
}
