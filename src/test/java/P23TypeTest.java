/** Promise 23: type. */
public final class P23TypeTest {
    private P23TypeTest() {
    }

    public static void main(String[] args) {
        tellsTheLength();
        charactersFromSpaceToTilde();
        charactersOutside();
        upToSixtyCharacters();
        aSixtyFirstIsRefused();
        invalidRatherThanTheLimit();
        appendsAtTheEnd();
        isNoChange();
        Due.end();
    }

    private static SandWorkers typed(int length) {
        SandWorkers x = Due.players(1);
        for (int i = 0; i < length; i++) {
            x.type("s5;".charAt(i % 3));
        }
        return x;
    }

    /** "Returns the length of the text". */
    private static void tellsTheLength() {
        SandWorkers x = new SandWorkers();
        for (int i = 1; i <= 5; i++) {
            Due.is("P23 length", x.type('s'), i);
            Due.is("P23 length told", x.count(9), i);
        }
    }

    /** "character: 32 to 126". */
    private static void charactersFromSpaceToTilde() {
        for (int first = 32; first <= 126; first += 50) {
            SandWorkers x = new SandWorkers();
            for (int i = 0; i < 50 && first + i <= 126; i++) {
                Due.is("P23 character " + (first + i), x.type(first + i), i + 1);
            }
        }
    }

    /** "INVALID_ARGUMENT if character is out of range". */
    private static void charactersOutside() {
        int[] outside = {Integer.MIN_VALUE, -1, 0, 9, 10, 31, 127, 128, 255, 256 + 's', Integer.MAX_VALUE};
        for (int character : outside) {
            Due.refused("P23 character " + character, () -> typed(4), x -> x.type(character), Due.INVALID);
        }
    }

    /** "a text of at most 60 characters". */
    private static void upToSixtyCharacters() {
        SandWorkers x = typed(59);
        Due.is("P23 the sixtieth", x.type(';'), 60);
        Due.is("P23 all of it can be done", x.play(), 20);
        Due.is("P23 each order is", x.count(3), 100);
    }

    /** "LIMIT_REACHED if it has 60 characters". */
    private static void aSixtyFirstIsRefused() {
        Due.refused("P23 a 61st", () -> typed(60), x -> x.type('x'), Due.LIMIT);
        SandWorkers x = typed(60);
        for (int i = 0; i < 3; i++) {
            Due.is("P23 a 61st, again", x.type('x'), Due.LIMIT);
        }
        Due.is("P23 the text is as it was", x.play(), 20);
    }

    /** "INVALID_ARGUMENT is returned rather than .. LIMIT_REACHED". */
    private static void invalidRatherThanTheLimit() {
        for (int character : Due.outside(32, 126)) {
            Due.refused("P23 a 61st, " + character, () -> typed(60), x -> x.type(character), Due.INVALID);
        }
    }

    /** "Appends a character to the text." */
    private static void appendsAtTheEnd() {
        SandWorkers x = Due.players(1);
        Due.type(x, "s12");
        x.type('3');
        x.type(';');
        x.play();
        Due.is("P23 123 seconds", x.count(3), 123);
    }

    private static void isNoChange() {
        SandWorkers x = new SandWorkers();
        Due.type(x, "s1;");
        Due.is("P23 no state is kept", x.count(8), 0);
        Due.is("P23 nothing is done by it", x.count(3), 0);
    }
}
