/** Promises 1 to 9: each sentence that names a boundary case. */
public final class RowBoundaryTests {
    private static final int BAD = Case.BAD;
    private static final int NOTHING = Case.NOTHING, BEYOND = Case.BEYOND, NOUGHT = Case.NOUGHT, SIZE = Case.SIZE;
    private static final int LEAST = Case.LEAST, GREATEST = Case.GREATEST;

    public static void main(String[] args) {
        newObject();
        row();
        lay();
        at();
        tear();
        copyPlaces();
        copyRefused();
        mean();
        text();
        put();
        putRefused();
        Case.end(1, 9);
    }

    private static void newObject() {
        Case.test(1, "No ROWS, TEXTS, PEOPLE, THINGS.");
        Case.fresh().is("count(6)", 0).is("count(7)", 0).is("count(0)", 0).is("count(1)", 0);
        Case.fresh().refuses(BAD, "one(0, 0)", "thing(0, 0)", "say(0, 0)", "can(0)", "best(0)", "price(0)");

        Case.test(1, "or missing (at first)");
        Case.fresh().finds(NOTHING, "tear(0)", "tear(1)", "tear(2)", "tear(3)", "tear(4)", "tear(5)");
        Case.fresh().finds(NOTHING, "fault(0)", "fault(1)", "fault(2)", "fault(3)");
        Case.fresh().does("row(3, 0)").is("count(6)", 1).is("tear(3)", 1);
        Case.fresh().does("text(3, 0)").is("count(7)", 1).is("fault(3)", 0);

        Case.test(1, "A TOWN (without PEOPLE, THINGS at first)");
        Case.fresh().is("count(2)", 0).is("count(3)", 0).is("count(4)", 0).is("count(5)", 0).is("count(8)", 0);
        Case.fresh().tells("dusk()", 0, 0).tells("rounds()", 0, 0).is("undo(0)", 0);
        Case.fresh().finds(NOTHING, "on(0)", "on(1)", "on(2)");
    }

    // ---- 2

    private static void row() {
        Case.test(2, "ROWS 0 .. 5 are rows of 0 to 40 ints");
        Case.fresh().is("row(0, 0)", 0).rowIs(0).is("row(5, 40)", 40).rowIs(5, new int[40]);
        Case.fresh().is("row(0, 40)", 40).is("row(5, 0)", 0).refuses(BAD, "row(-1, 0)", "row(6, 0)", "row(-1, 40)", "row(6, 40)");
        Case.fresh().refuses(BAD, "row(LEAST, 1)", "row(GREATEST, 1)");

        Case.test(2, "A ROW is there with n ints 0: n.");
        Case.fresh().row(1, 7, 8, 9).is("row(1, 2)", 2).rowIs(1, 0, 0).is("row(1, 3)", 3).rowIs(1, 0, 0, 0);
        Case.fresh().row(1, Case.filled(40, -1)).is("row(1, 40)", 40).rowIs(1, new int[40]);
        Case.fresh().row(1, 7).does("tear(1)").is("row(1, 1)", 1).rowIs(1, 0);

        Case.test(2, "BAD: also n above 40");
        Case.fresh().row(0, 5).refuses(BAD, "row(0, 41)", "row(0, 42)", "row(0, GREATEST)").is("row(0, 40)", 40);
        Case.fresh().refuses(BAD, "row(1, 41)").rowIsMissing(1);

        Case.test(2, "SIZE: below 0.");
        Case.fresh().row(0, 5).finds(SIZE, "row(0, -1)", "row(0, -2)", "row(0, LEAST)").is("row(0, 0)", 0);
        Case.fresh().finds(SIZE, "row(1, -1)").rowIsMissing(1);
        Case.fresh().refuses(BAD, "row(6, -1)", "row(-1, -1)", "row(-1, 41)");
    }

    // ---- 3, 4

    private static void lay() {
        Case.test(3, "Place i of a ROW is v: what it was, told by asked(): 1.");
        Case.fresh().does("row(2, 2)").tells("lay(2, 0, GREATEST)", 1, 0).tells("lay(2, 0, LEAST)", 1, GREATEST)
            .tells("lay(2, 0, -1)", 1, LEAST).tells("lay(2, 1, 4)", 1, 0).rowIs(2, -1, 4);

        Case.test(3, "BAD; NOTHING; BEYOND.");
        Case.fresh().does("row(0, 1)", "row(5, 1)").tells("lay(0, 0, 1)", 1, 0).tells("lay(5, 0, 1)", 1, 0)
            .refuses(BAD, "lay(-1, 0, 1)", "lay(6, 0, 1)", "lay(-1, 9, 1)", "lay(LEAST, 0, 1)", "lay(GREATEST, 0, 1)");
        Case.fresh().finds(NOTHING, "lay(0, 0, 1)", "lay(0, -1, 1)", "lay(5, 40, 1)");
        Case.fresh().does("row(0, 1)", "tear(0)").finds(NOTHING, "lay(0, 0, 1)");

        Case.test(3, "BEYOND (a place that there is not)");
        Case.fresh().row(1, 4, 5, 6).tells("lay(1, 0, 7)", 1, 4).tells("lay(1, 2, 8)", 1, 6)
            .finds(BEYOND, "lay(1, -1, 9)", "lay(1, 3, 9)", "lay(1, LEAST, 9)", "lay(1, GREATEST, 9)").rowIs(1, 7, 5, 8);
        Case.fresh().does("row(1, 0)").finds(BEYOND, "lay(1, 0, 1)", "lay(1, -1, 1)");
        Case.fresh().does("row(1, 40)").tells("lay(1, 39, 1)", 1, 0).finds(BEYOND, "lay(1, 40, 1)");
        Case.fresh().row(1, 1, 2, 3).does("row(1, 2)").finds(BEYOND, "lay(1, 2, 1)");
    }

    private static void at() {
        Case.test(4, "Place i of a ROW, told by asked(): 1.");
        Case.fresh().row(2, LEAST, 0, GREATEST).tells("at(2, 0)", 1, LEAST).tells("at(2, 1)", 1, 0).tells("at(2, 2)", 1, GREATEST);

        Case.test(4, "BAD; NOTHING; BEYOND.");
        Case.fresh().row(0, 1).row(5, 2).tells("at(0, 0)", 1, 1).tells("at(5, 0)", 1, 2)
            .refuses(BAD, "at(-1, 0)", "at(6, 0)", "at(6, 9)", "at(LEAST, 0)", "at(GREATEST, 0)");
        Case.fresh().finds(NOTHING, "at(0, 0)", "at(0, -1)", "at(5, 40)");
        Case.fresh().does("row(0, 1)", "tear(0)").finds(NOTHING, "at(0, 0)");

        Case.test(4, "BEYOND (a place that there is not)");
        Case.fresh().row(1, 4, 5, 6).tells("at(1, 0)", 1, 4).tells("at(1, 2)", 1, 6)
            .finds(BEYOND, "at(1, -1)", "at(1, 3)", "at(1, LEAST)", "at(1, GREATEST)");
        Case.fresh().does("row(1, 0)").finds(BEYOND, "at(1, 0)", "at(1, -1)");
        Case.fresh().row(1, Case.filled(40, 3)).tells("at(1, 39)", 1, 3).finds(BEYOND, "at(1, 40)");
    }

    // ---- 5

    private static void tear() {
        Case.test(5, "A ROW is missing: 1.");
        Case.fresh().does("row(0, 0)").is("tear(0)", 1).rowIsMissing(0).is("count(6)", 0);
        Case.fresh().row(5, Case.filled(40, 3)).row(4, 9).is("tear(5)", 1).rowIsMissing(5).rowIs(4, 9).is("count(6)", 1);

        Case.test(5, "BAD; NOTHING.");
        Case.fresh().does("row(0, 1)", "row(5, 1)").refuses(BAD, "tear(-1)", "tear(6)", "tear(LEAST)", "tear(GREATEST)")
            .is("tear(0)", 1).is("tear(5)", 1).finds(NOTHING, "tear(0)", "tear(5)");
        Case.fresh().does("row(0, 1)").finds(NOTHING, "tear(1)").rowIs(0, 0);
    }

    // ---- 6

    private static void copyPlaces() {
        Case.test(6, "n places of a ROW, from one on, come to those of another one (perhaps itself) from one on");
        Case.fresh().row(0, 1, 2, 3).row(5, 7, 8, 9).is("copy(0, 1, 5, 0, 2)", 1).rowIs(5, 2, 3, 9).rowIs(0, 1, 2, 3);
        Case.fresh().row(0, 1, 2, 3).is("copy(0, 0, 0, 2, 1)", 1).rowIs(0, 1, 2, 1);
        Case.fresh().row(0, 1, 2, 3).is("copy(0, 0, 0, 0, 3)", 1).rowIs(0, 1, 2, 3);
        Case.fresh().row(0, Case.filled(40, 6)).does("row(1, 40)").is("copy(0, 0, 1, 0, 40)", 1).rowIs(1, Case.filled(40, 6));

        Case.test(6, "as if taken ahead: 1.");
        Case.fresh().row(0, 1, 2, 3, 4, 5).is("copy(0, 0, 0, 1, 4)", 1).rowIs(0, 1, 1, 2, 3, 4);
        Case.fresh().row(0, 1, 2, 3, 4, 5).is("copy(0, 1, 0, 0, 4)", 1).rowIs(0, 2, 3, 4, 5, 5);
    }

    private static void copyRefused() {
        Case.test(6, "BAD; SIZE: n below 0");
        Case.fresh().row(0, 1).row(5, 2)
            .refuses(BAD, "copy(-1, 0, 5, 0, 1)", "copy(6, 0, 5, 0, 1)", "copy(0, 0, -1, 0, 1)", "copy(0, 0, 6, 0, 1)")
            .refuses(BAD, "copy(6, 0, 0, 0, -1)", "copy(0, 0, 6, 0, -1)", "copy(1, 0, 6, 0, 1)", "copy(LEAST, 0, GREATEST, 0, 0)")
            .is("copy(0, 0, 5, 0, 1)", 1);
        Case.fresh().row(0, 1).row(1, 2).finds(SIZE, "copy(0, 0, 1, 0, -1)", "copy(0, 0, 1, 0, LEAST)", "copy(0, -5, 1, 9, -1)")
            .is("copy(0, 0, 1, 0, 0)", 1).rowIs(1, 2);
        Case.fresh().row(0, 1).finds(SIZE, "copy(0, 0, 1, 0, -1)", "copy(1, 0, 0, 0, -1)", "copy(2, 0, 3, 0, -1)");

        Case.test(6, "NOTHING: either");
        Case.fresh().row(0, 1).finds(NOTHING, "copy(0, 0, 1, 0, 1)", "copy(1, 0, 0, 0, 1)", "copy(1, 0, 1, 0, 0)", "copy(1, 9, 0, -9, 3)")
            .row(1, 2).is("copy(1, 0, 0, 0, 1)", 1).rowIs(0, 2);

        Case.test(6, "BEYOND: not so many there.");
        Case.fresh().row(0, 1, 2, 3).row(1, 7, 8)
            .finds(BEYOND, "copy(0, 0, 1, 0, 3)", "copy(0, 0, 1, 1, 2)", "copy(0, 2, 1, 0, 2)", "copy(1, 0, 0, 2, 2)", "copy(1, 0, 0, 0, 3)")
            .is("copy(0, 1, 1, 0, 2)", 1).rowIs(1, 2, 3);
        Case.fresh().row(0, 1, 2, 3).row(1, 7, 8).finds(BEYOND, "copy(0, -1, 1, 0, 1)", "copy(0, 0, 1, -1, 1)", "copy(0, LEAST, 1, 0, 1)")
            .finds(BEYOND, "copy(0, 0, 1, LEAST, 1)", "copy(0, -1, 1, 0, 0)", "copy(0, 0, 1, -1, 0)");
        Case.fresh().row(0, 1, 2, 3).row(1, 7, 8).finds(BEYOND, "copy(0, 4, 1, 0, 0)", "copy(0, 0, 1, 3, 0)")
            .is("copy(0, 3, 1, 2, 0)", 1).rowIs(0, 1, 2, 3).rowIs(1, 7, 8);
        Case.fresh().row(0, 1, 2, 3).row(1, 7, 8).finds(BEYOND, "copy(0, GREATEST, 1, 0, 1)", "copy(0, 0, 1, GREATEST, 1)")
            .finds(BEYOND, "copy(0, 0, 1, 0, GREATEST)", "copy(0, 1, 1, 1, GREATEST)", "copy(0, GREATEST, 1, GREATEST, GREATEST)");
        Case.fresh().does("row(0, 0)", "row(1, 0)").finds(BEYOND, "copy(0, 0, 1, 0, 1)").is("copy(0, 0, 1, 0, 0)", 1);
    }

    // ---- 7

    private static void mean() {
        Case.test(7, "The mean of a ROW's ints, cut, told by asked(): 1.");
        Case.fresh().row(0, 1, 2).tells("mean(0)", 1, 1).row(0, 2, 2).tells("mean(0)", 1, 2);
        Case.fresh().row(0, -1, -2).tells("mean(0)", 1, -1).row(0, -1, 0).tells("mean(0)", 1, 0);
        Case.fresh().row(0, LEAST).tells("mean(0)", 1, LEAST).row(0, GREATEST, LEAST).tells("mean(0)", 1, 0);
        Case.fresh().row(0, Case.filled(40, GREATEST)).tells("mean(0)", 1, GREATEST).row(0, Case.filled(40, LEAST)).tells("mean(0)", 1, LEAST);

        Case.test(7, "BAD; NOTHING; NOUGHT.");
        Case.fresh().row(0, 5).row(5, 6).refuses(BAD, "mean(-1)", "mean(6)", "mean(LEAST)", "mean(GREATEST)")
            .tells("mean(0)", 1, 5).tells("mean(5)", 1, 6);
        Case.fresh().row(0, 5).finds(NOTHING, "mean(1)").does("tear(0)").finds(NOTHING, "mean(0)");

        Case.test(7, "NOUGHT (shared among none)");
        Case.fresh().does("row(0, 0)").finds(NOUGHT, "mean(0)").row(0, 8).tells("mean(0)", 1, 8);
        Case.fresh().row(0, 8).does("row(0, 0)").finds(NOUGHT, "mean(0)");
    }

    // ---- 8, 9

    private static void text() {
        Case.test(8, "TEXTS 0 .. 3 rows of 0 to 80 bytes");
        Case.fresh().is("text(0, 0)", 0).is("text(3, 80)", 80).is("put(3, 79, 1)", 1032).is("count(7)", 2);
        Case.fresh().is("text(0, 80)", 80).is("text(3, 0)", 0).refuses(BAD, "text(-1, 0)", "text(4, 0)", "text(-1, 80)", "text(4, 80)");
        Case.fresh().refuses(BAD, "text(LEAST, 1)", "text(GREATEST, 1)", "text(5, 1)");

        Case.test(8, "A TEXT is there with n blanks: n.");
        Case.fresh().is("text(1, 2)", 2).is("put(1, 0, 65)", 1032).is("put(1, 1, 66)", 1032).is("text(1, 2)", 2)
            .is("put(1, 0, 0)", 1032).is("put(1, 1, 0)", 1032);
        Case.fresh().does("text(1, 3)", "put(1, 2, 9)").is("text(1, 2)", 2).is("text(1, 3)", 3).is("put(1, 2, 9)", 1032);

        Case.test(8, "BAD: also n above 80");
        Case.fresh().text(0, "ab").refuses(BAD, "text(0, 81)", "text(0, 82)", "text(0, GREATEST)").is("text(0, 80)", 80);
        Case.fresh().refuses(BAD, "text(1, 81)").finds(NOTHING, "fault(1)");

        Case.test(8, "SIZE: below 0.");
        Case.fresh().text(0, "ab").finds(SIZE, "text(0, -1)", "text(0, LEAST)").is("text(0, 0)", 0);
        Case.fresh().finds(SIZE, "text(1, -1)").finds(NOTHING, "fault(1)");
        Case.fresh().refuses(BAD, "text(4, -1)", "text(-1, -1)", "text(-1, 81)");
    }

    private static void put() {
        Case.test(9, "Byte i of a TEXT is v, cut to a byte: what it was, and 1000 more.");
        Case.fresh().does("text(0, 1)").is("put(0, 0, 127)", 1032).is("put(0, 0, 128)", 1127).is("put(0, 0, 255)", 872)
            .is("put(0, 0, 256)", 999).is("put(0, 0, 257)", 1000).is("put(0, 0, 0)", 1001);
        Case.fresh().does("text(0, 1)").is("put(0, 0, -1)", 1032).is("put(0, 0, -128)", 999).is("put(0, 0, -129)", 872)
            .is("put(0, 0, -256)", 1127).is("put(0, 0, 0)", 1000);
        Case.fresh().does("text(0, 1)").is("put(0, 0, GREATEST)", 1032).is("put(0, 0, LEAST)", 999).is("put(0, 0, 0)", 1000);
    }

    private static void putRefused() {
        Case.test(9, "BAD; NOTHING; BEYOND.");
        Case.fresh().does("text(0, 1)", "text(3, 1)").refuses(BAD, "put(-1, 0, 1)", "put(4, 0, 1)", "put(4, 9, 1)")
            .refuses(BAD, "put(LEAST, 0, 1)", "put(GREATEST, 0, 1)").is("put(0, 0, 1)", 1032).is("put(3, 0, 1)", 1032);
        Case.fresh().finds(NOTHING, "put(0, 0, 1)", "put(0, -1, 1)", "put(3, 80, 1)");

        Case.test(9, "BEYOND (a place that there is not)");
        Case.fresh().text(1, "abc").finds(BEYOND, "put(1, -1, 1)", "put(1, 3, 1)", "put(1, LEAST, 1)", "put(1, GREATEST, 1)")
            .is("put(1, 0, 1)", 1097).is("put(1, 2, 1)", 1099);
        Case.fresh().does("text(1, 0)").finds(BEYOND, "put(1, 0, 1)");
        Case.fresh().does("text(1, 80)").finds(BEYOND, "put(1, 80, 1)").is("put(1, 79, 1)", 1032);
        Case.fresh().text(1, "abc").does("text(1, 2)").finds(BEYOND, "put(1, 2, 1)");
    }
}
