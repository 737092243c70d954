/** Promise 24: clearText. */
public final class P24ClearTextTest {
    private P24ClearTextTest() {
    }

    public static void main(String[] args) {
        tellsTheLengthItHad();
        anEmptyTextHadNone();
        aFullTextHadSixty();
        nothingOfItIsLeft();
        isNoChange();
        Due.end();
    }

    /** "Returns the length it had." */
    private static void tellsTheLengthItHad() {
        for (int length = 0; length <= 10; length++) {
            SandWorkers x = new SandWorkers();
            for (int i = 0; i < length; i++) {
                x.type('s');
            }
            Due.is("P24 it had " + length, x.clearText(), length);
            Due.is("P24 it has none", x.count(9), 0);
        }
    }

    private static void anEmptyTextHadNone() {
        SandWorkers x = new SandWorkers();
        Due.is("P24 never typed", x.clearText(), 0);
        x.type('s');
        x.clearText();
        Due.is("P24 cleared already", x.clearText(), 0);
        Due.refused("P24 as if not called", () -> Due.players(1), y -> y.clearText(), 0);
    }

    private static void aFullTextHadSixty() {
        SandWorkers x = new SandWorkers();
        for (int i = 0; i < 61; i++) {
            x.type('s');
        }
        Due.is("P24 it was full", x.clearText(), 60);
        Due.is("P24 there is room again", x.type('s'), 1);
        for (int i = 2; i <= 60; i++) {
            Due.is("P24 for as many", x.type('s'), i);
        }
        Due.is("P24 and no more", x.type('s'), Due.LIMIT);
    }

    /** "Empties the text." */
    private static void nothingOfItIsLeft() {
        SandWorkers x = new SandWorkers();
        Due.type(x, "s1;s2;x");
        x.clearText();
        Due.is("P24 no fault is left", x.fault(0), Due.MISSING);
        Due.type(x, "s5");
        Due.is("P24 what was behind it is no part", x.fault(2), 2);
        x.type(';');
        Due.is("P24 one order", x.play(), 1);
        Due.is("P24 five seconds", x.count(3), 5);
    }

    private static void isNoChange() {
        SandWorkers x = Due.players(2);
        Due.type(x, "s1;");
        x.clearText();
        Due.is("P24 no state is kept", x.count(8), 2);
        x.undo();
        Due.is("P24 undo does not bring it back", x.count(9), 0);
    }
}
