/** Promises 1 to 11: a new object, and pairs that come and go. */
public final class PairsTest {
    public static void main(String[] arguments) {
        newObject();
        putAndTake();
        aimAndSend();
        clearFillSame();
        copy();
        firstsAndSeconds();
        Calls.end();
    }

    private static void newObject() {
        Calls.run("1 a new object", """
            text(0) => ""
            text(1) => ""
            text(2) => ""
            text(3) => ""
            house(0) => 0
            house(1) => 0
            house(2) => 0
            house(3) => 4
            house(4) => 0
            """);
    }

    private static void putAndTake() {
        Calls.run("2 put", """
            put(0, 0, 0) => 1
            put(0, 0, 0) => 0
            put(0, 7, 7) => 1
            put(0, 2, 5) => 1
            put(3, 5, 2) => 1
            text(0) => "0:0 2:5 7:7"
            text(1) => ""
            text(3) => "5:2"
            put(-1, 0, 0) => throws.IndexOutOfBoundsException
            put(4, 0, 0) => throws.IndexOutOfBoundsException
            put(0, -1, 0) => throws.IllegalArgumentException
            put(0, 8, 0) => throws.IllegalArgumentException
            put(0, 0, -1) => throws.IllegalArgumentException
            put(0, 0, 8) => throws.IllegalArgumentException
            put(4, 8, 8) => throws.IndexOutOfBoundsException
            put(2147483647, 0, 0) => throws.IndexOutOfBoundsException
            put(0, -2147483648, 0) => throws.IllegalArgumentException
            house(0) => 4
            """);
        Calls.run("3 take", """
            take(1, 3, 4) => 0
            put(1, 3, 4) => 1
            put(1, 4, 3) => 1
            put(1, 7, 7) => 1
            put(0, 3, 4) => 1
            take(1, 3, 4) => 1
            take(1, 3, 4) => 0
            take(1, 7, 7) => 1
            text(1) => "4:3"
            text(0) => "3:4"
            take(-1, 3, 4) => throws.IndexOutOfBoundsException
            take(4, 3, 4) => throws.IndexOutOfBoundsException
            take(1, -1, 3) => throws.IllegalArgumentException
            take(1, 8, 3) => throws.IllegalArgumentException
            take(1, 4, -1) => throws.IllegalArgumentException
            take(1, 4, 8) => throws.IllegalArgumentException
            take(4, -1, 8) => throws.IndexOutOfBoundsException
            house(0) => 2
            """);
    }

    private static void aimAndSend() {
        Calls.run("4 aim", """
            aim(2, 7, 255) => 0
            aim(2, 7, 129) => 255
            aim(2, 0, 6) => 0
            text(2) => "0:1,2 7:0,7"
            aim(2, 7, 0) => 129
            text(2) => "0:1,2"
            aim(-1, 0, 0) => throws.IndexOutOfBoundsException
            aim(4, 0, 0) => throws.IndexOutOfBoundsException
            aim(2, -1, 0) => throws.IllegalArgumentException
            aim(2, 8, 0) => throws.IllegalArgumentException
            aim(2, 0, -1) => throws.IllegalArgumentException
            aim(2, 0, 256) => throws.IllegalArgumentException
            aim(4, 8, 256) => throws.IndexOutOfBoundsException
            text(2) => "0:1,2"
            """);
        Calls.run("5 send", """
            send(0, 3, 4) => 1
            send(0, 3, 4) => 0
            send(0, 3, 7) => 2
            aim(0, 7, 255) => 0
            send(0, 7, 0) => 7
            aim(0, 1, 6) => 0
            send(0, 1, 0) => 3
            text(0) => "1:0 3:7 7:0"
            send(-1, 0, 0) => throws.IndexOutOfBoundsException
            send(4, 0, 0) => throws.IndexOutOfBoundsException
            send(0, -1, 0) => throws.IllegalArgumentException
            send(0, 8, 0) => throws.IllegalArgumentException
            send(0, 0, -1) => throws.IllegalArgumentException
            send(0, 0, 8) => throws.IllegalArgumentException
            send(4, 8, 0) => throws.IndexOutOfBoundsException
            text(0) => "1:0 3:7 7:0"
            """);
    }

    private static void clearFillSame() {
        Calls.run("6 clear", """
            clear(0) => 0
            put(0, 1, 1) => 1
            put(0, 7, 0) => 1
            put(1, 7, 0) => 1
            clear(0) => 2
            text(0) => ""
            count(1) => 1
            fill(0) => 64
            clear(0) => 64
            clear(-1) => throws.IndexOutOfBoundsException
            clear(4) => throws.IndexOutOfBoundsException
            count(1) => 1
            """);
        Calls.run("7 fill", """
            put(3, 7, 7) => 1
            put(3, 0, 1) => 1
            fill(3) => 62
            fill(3) => 0
            count(3) => 64
            has(3, 7, 7) => true
            image(3, 4) => 255
            count(2) => 0
            fill(-1) => throws.IndexOutOfBoundsException
            fill(4) => throws.IndexOutOfBoundsException
            house(0) => 64
            """);
        Calls.run("8 same", """
            put(1, 2, 2) => 1
            put(1, 2, 3) => 1
            put(1, 7, 7) => 1
            same(1) => 2
            text(1) => "0:0 1:1 2:2 3:3 4:4 5:5 6:6 7:7"
            same(1) => 8
            fill(1) => 56
            same(1) => 8
            same(2) => 0
            count(2) => 8
            same(-1) => throws.IndexOutOfBoundsException
            same(4) => throws.IndexOutOfBoundsException
            house(0) => 16
            """);
    }

    private static void copy() {
        Calls.run("9 copy", """
            put(0, 1, 2) => 1
            put(0, 7, 6) => 1
            put(3, 5, 5) => 1
            copy(0, 3) => 2
            text(3) => "1:2 7:6"
            put(3, 0, 0) => 1
            text(0) => "1:2 7:6"
            copy(0, 0) => 2
            text(0) => "1:2 7:6"
            copy(1, 0) => 0
            text(0) => ""
            copy(-1, 3) => throws.IndexOutOfBoundsException
            copy(4, 3) => throws.IndexOutOfBoundsException
            copy(1, -1) => throws.IndexOutOfBoundsException
            copy(1, 4) => throws.IndexOutOfBoundsException
            text(3) => "0:0 1:2 7:6"
            """);
    }

    private static void firstsAndSeconds() {
        Calls.run("10 firsts", """
            aim(0, 0, 3) => 0
            aim(0, 1, 12) => 0
            aim(0, 7, 129) => 0
            firsts(0, 255) => 0
            firsts(0, 129) => 2
            text(0) => "0:0,1 7:0,7"
            firsts(0, 126) => 4
            text(0) => ""
            fill(0) => 64
            firsts(0, 0) => 64
            put(0, 1, 0) => 1
            firsts(-1, 0) => throws.IndexOutOfBoundsException
            firsts(4, 256) => throws.IndexOutOfBoundsException
            firsts(0, -1) => throws.IllegalArgumentException
            firsts(0, 256) => throws.IllegalArgumentException
            text(0) => "1:0"
            """);
        Calls.run("11 seconds", """
            aim(0, 0, 3) => 0
            aim(0, 1, 12) => 0
            aim(0, 7, 129) => 0
            seconds(0, 255) => 0
            seconds(0, 129) => 3
            text(0) => "0:0 7:0,7"
            seconds(0, 254) => 2
            text(0) => "7:7"
            seconds(0, 0) => 1
            put(0, 1, 0) => 1
            seconds(-1, 0) => throws.IndexOutOfBoundsException
            seconds(4, 256) => throws.IndexOutOfBoundsException
            seconds(0, -1) => throws.IllegalArgumentException
            seconds(0, 256) => throws.IllegalArgumentException
            text(0) => "1:0"
            """);
    }
}
