/** Promises 10 and 11, with the language of a TOWN: each sentence that names a boundary case. */
public final class TextBoundaryTests {
    private static final int BAD = Case.BAD, STATE = Case.STATE, NONE = Case.NONE, NOTHING = Case.NOTHING;

    public static void main(String[] args) {
        blanks();
        things();
        people();
        figures();
        wants();
        undoings();
        tooMany();
        turns();
        ends();
        nobody();
        kinds();
        hearing();
        fault();
        town();
        townAnew();
        Case.end(10, 11);
    }

    /** A TEXT without a FAULT, by which a TOWN with so many PEOPLE comes. */
    private static void right(String text, int people) {
        Case.fresh().text(2, text).is("fault(2)", NONE).is("town(2)", people);
    }

    /** A TEXT with a FAULT at that place, by which no TOWN comes. */
    private static void wrong(String text, int place) {
        Case.fresh().text(2, text).is("fault(2)", place).refuses(STATE, "town(2)");
    }

    private static String many(int n, String part) {
        return part.repeat(n);
    }

    // ---- 10: the language

    private static void blanks() {
        Case.test(10, "blanks (32) ahead, between, behind as many as wanted");
        right("t2ok5w001w119u01u10", 2);
        right(" t2 o k5 w001 w119 u01 u10 ", 2);
        right(many(77, " ") + "t1o", 1);
        right("t1" + many(77, " ") + "o", 1);
        right("t1o" + many(77, " "), 1);
        wrong("\tt1o", 0);
        wrong("t1\to", 2);
        wrong("t1o\n", 3);
        wrong("t1o" + (char) 160, 3);
        wrong("t1o" + (char) 0, 3);

        Case.test(10, "none within items");
        wrong("t 1o", 1);
        wrong("t1o 0", 4);
        wrong("t1o0 1", 5);
        wrong("t1ow 001", 4);
        wrong("t1ow0 01", 5);
        wrong("t1ow00 1", 6);
        wrong("t2ou 01", 4);
        wrong("t2ou0 1", 5);
        right("t1o01w001", 1);
        right("t2ou01", 1);
    }

    private static void things() {
        Case.test(10, "The first item is t (116)");
        right("t1o", 1);
        wrong("s1o", 0);
        wrong("u1o", 0);
        wrong("T1o", 0);
        wrong("1o", 0);
        wrong("  x", 2);

        Case.test(10, "how many THINGS (1 to 6, one figure)");
        Case.fresh().text(0, "t1o").does("town(0)").is("count(1)", 1);
        Case.fresh().text(0, "t6o").does("town(0)").is("count(1)", 6);
        wrong("t0o", 1);
        wrong("t7o", 1);
        wrong("t9o", 1);
        wrong("t/o", 1);
        wrong("t:o", 1);
        wrong("to", 1);
        wrong("t11o", 2);
    }

    private static void people() {
        Case.test(10, "Then PEOPLE (1 to 6;");
        right("t1o", 1);
        right("t1oooooo", 6);
        right("t1 o o o o o o ", 6);
        wrong("t1ooooooo", 8);
        wrong("t1 o o o o o o  o", 16);

        Case.test(10, "0, 1, .. as they come)");
        Case.town("t1 o m c b l k").tells("one(0, 0)", 1, 0).tells("one(5, 0)", 1, 5);
        Case.town("t1 k l b c m o").tells("one(0, 0)", 1, 5).tells("one(5, 0)", 1, 0);
    }

    private static void figures() {
        Case.test(10, "that one's figure (0 .. 5), rising (none: the letter alone)");
        right("t1o012345", 1);
        right("t1o0", 1);
        right("t1o5", 1);
        right("t1o05o5o4", 3);
        wrong("t1o6", 3);
        wrong("t1o9", 3);
        wrong("t1o/", 3);
        wrong("t1o:", 3);
        wrong("t1o0123456", 9);

        Case.test(10, "not rising");
        wrong("t1o00", 4);
        wrong("t1o10", 4);
        wrong("t1o55", 4);
        wrong("t1o0123455", 9);
        wrong("t1o0123450", 9);
        right("t1o01", 1);
        right("t1o45o01", 2);
    }

    private static void wants() {
        Case.test(10, "w (119), one, a THING, the WORTH (1 .. 9), one figure each");
        right("t1ow001", 1);
        right("t1ow009", 1);
        wrong("t1ow000", 6);
        wrong("t1ow00:", 6);
        wrong("t1ow00/", 6);
        wrong("t1ow0011", 7);
        wrong("t1ow00110", 7);
        wrong("t1ov001", 3);
        wrong("t1ox001", 3);

        Case.test(10, "in WANTS, UNDOINGS one, a THING that there is not");
        right("t1ow001", 1);
        wrong("t1ow101", 4);
        wrong("t2ow101", 4);
        wrong("t2ow111", 4);
        right("t1oow101", 2);
        wrong("t1oow201", 5);
        right("t6oooooow559", 6);
        wrong("t6oooooow659", 9);
        wrong("t6oooooow569", 10);
        wrong("t1ow011", 5);
        right("t2ow011", 1);
        wrong("t2ow021", 5);
        wrong("t1ow/01", 4);
        wrong("t1ow0/1", 5);
        right("t6ou50u45", 1);
        wrong("t6ou60", 4);
        wrong("t6ou06", 5);
        wrong("t2ou20", 4);
        wrong("t2ou02", 5);
        wrong("t2ou/0", 4);
        wrong("t2ou0/", 5);

        Case.test(10, "(of the same one and THING the last told counts)");
        Case.town("t1ow001w009").is("want(0, 0, 0)", 9);
        Case.town("t1ow009w001").is("want(0, 0, 0)", 1);
        Case.town("t2oow001w012w103").is("want(0, 0, 0)", 1).is("want(0, 1, 0)", 2).is("want(1, 0, 0)", 3).is("want(1, 1, 0)", 0);
    }

    private static void undoings() {
        Case.test(10, "u (117), a THING, another one that it undoes");
        Case.town("t2ou01").tells("thing(0, 2)", 1, 2).tells("thing(1, 2)", 1, 0);
        Case.town("t6ou50u54").tells("thing(5, 2)", 1, 17).tells("thing(0, 2)", 1, 0);
        Case.town("t2ou01u01").tells("thing(0, 2)", 1, 2).tells("thing(1, 2)", 1, 0);
        wrong("t2ou010", 6);

        Case.test(10, "the same THING twice");
        wrong("t1ou00", 5);
        wrong("t2ou00", 5);
        wrong("t2ou11", 5);
        wrong("t6ou55", 5);
        right("t2ou10", 1);
    }

    private static void tooMany() {
        Case.test(10, "a seventh one, UNDOING, a seventeenth WANT");
        right("t1oooooo", 6);
        wrong("t1oooooom", 8);
        right("t2o" + many(6, "u01"), 1);
        wrong("t2o" + many(7, "u01"), 21);
        wrong("t2o" + many(6, "u01") + "  u", 23);

        Case.test(10, "Then WANTS (16 at most)");
        right("t1o" + many(16, "w001"), 1);
        wrong("t1o" + many(17, "w001"), 67);
        wrong("t1o" + many(16, "w001") + " w", 68);
        Case.town("t1o" + many(15, "w001") + "w002").is("want(0, 0, 0)", 2);

        Case.test(10, "Then UNDOINGS (6 at most)");
        right("t2o" + many(14, "w001") + many(6, "u10"), 1);
        wrong("t2o" + many(14, "w001") + many(7, "u10"), 77);
        Case.town("t6o" + "u01u02u03u04u05u10").tells("thing(0, 2)", 1, 62).tells("thing(1, 2)", 1, 1);
    }

    private static void turns() {
        Case.test(10, "a sort ahead of its turn");
        wrong("ot1o", 0);
        wrong("w001", 0);
        wrong("t1w001", 2);
        wrong("t1 w001o", 3);
        wrong("t2u01", 2);
        wrong("t2 u01o", 3);
        right("t2ou01", 1);
        right("t2ow001u01", 1);

        Case.test(10, "or behind it: its place");
        wrong("t1ow001o", 7);
        wrong("t1ow001 o", 8);
        wrong("t2ou01o", 6);
        wrong("t2ou01 w001", 7);
        wrong("t2ow001u01w001", 10);
        wrong("t1t1o", 2);
        wrong("t1ot1", 3);
        wrong("t1ow001t1", 7);
        wrong("t2ou01t1", 6);
    }

    private static void ends() {
        Case.test(10, "the TEXT's size, if its end comes too early");
        wrong("t", 1);
        wrong("  t", 3);
        wrong("t1ow", 4);
        wrong("t1ow0", 5);
        wrong("t1ow00", 6);
        right("t1ow001", 1);
        wrong("t2ou", 4);
        wrong("t2ou0", 5);
        right("t2ou01", 1);
        wrong(many(79, " ") + "t", 80);

        Case.test(10, "or there are blanks alone");
        wrong("", 0);
        wrong(" ", 1);
        wrong(many(80, " "), 80);

        Case.test(10, "without any one, too");
        wrong("t1", 2);
        wrong("t1   ", 5);
        wrong("t6" + many(78, " "), 80);
        right("t6" + many(77, " ") + "o", 1);

        Case.test(10, "a letter, a figure that is none such");
        wrong("t1x", 2);
        wrong("t1ox", 3);
        wrong("t1o0x", 4);
        wrong("t1ow001x", 7);
        wrong("t2ou01x", 6);
        wrong("t13", 2);
        Case.fresh().text(2, "t1o").does("put(2, 2, 367)").is("fault(2)", NONE).does("put(2, 2, -9)").is("fault(2)", 2);
    }

    private static void nobody() {
        Case.test(10, "(A figure of one that there is not, or of oneself, is that of nobody.)");
        Case.town("t1o012345").tells("one(0, 1)", 1, 0);
        Case.town("t1o012345o").tells("one(0, 1)", 1, 2).tells("one(1, 1)", 1, 0).is("tell(0, 1, 1)", 1).is("tell(1, 0, 1)", 0);
        Case.town("t1ooooo4o45").tells("one(4, 1)", 1, 0).tells("one(5, 1)", 1, 16);
        Case.town("t1o5ooooo").tells("one(0, 1)", 1, 32).is("tell(0, 5, 0)", 1);
    }

    // ---- 10: kinds, and who hears

    private static void kinds() {
        Case.test(10, "0 ONE (o, 111), 1 MISER (m, 109; a ONE), 2 CHILD (c, 99; a ONE), 3 BAKER (b, 98; a ONE), "
            + "4 LOVER (l, 108; a CHILD), 5 BROKER (k, 107; a MISER)");
        String letters = "omcblk";
        for (int sign = 0; sign < 256; sign++) {
            int kind = letters.indexOf(sign);
            String text = "t1" + (char) sign;
            if (kind >= 0) {
                Case.town(text).tells("one(0, 0)", 1, kind);
            } else {
                Case.fresh().text(0, text).is("fault(0)", sign == ' ' ? 3 : 2);
            }
        }
    }

    private static void hearing() {
        Case.test(12, "Who HEARS one: who is told to");
        Case.town("t1 o o2 o").tells("one(0, 1)", 1, 0).tells("one(1, 1)", 1, 4).tells("one(2, 1)", 1, 0);

        Case.test(12, "of a CHILD (LOVER, too) all others");
        Case.town("t1 c o m b l k").tells("one(0, 1)", 1, 62).tells("one(4, 1)", 1, 47);
        Case.town("t1 c").tells("one(0, 1)", 1, 0);
        Case.town("t1 l").tells("one(0, 1)", 1, 0);

        Case.test(12, "of a MISER (BROKER, too) nobody");
        Case.town("t1 m1 b k01 c").tells("one(0, 1)", 1, 0).tells("one(2, 1)", 1, 0).is("tell(0, 1, 1)", 1);

        Case.test(12, "else each BAKER, too");
        Case.town("t1 o b b").tells("one(0, 1)", 1, 6).tells("one(1, 1)", 1, 4).tells("one(2, 1)", 1, 2);
        Case.town("t1 b2 o o").tells("one(0, 1)", 1, 4).tells("one(1, 1)", 1, 1);

        Case.test(12, "Nobody hears oneself.");
        Case.town("t1 b0").tells("one(0, 1)", 1, 0).is("mark(0, 3)", 0);
        Case.town("t1 o0 c1").tells("one(0, 1)", 1, 0).tells("one(1, 1)", 1, 1);
    }

    // ---- 10, 11: the calls

    private static void fault() {
        Case.test(10, "A FAULT of a TEXT; NONE: there is none.");
        Case.fresh().text(0, "t1o").text(3, "t1x").is("fault(0)", NONE).is("fault(3)", 2).is("count(0)", 0);
        Case.fresh().text(0, "t1ox").is("fault(0)", 3).text(0, "t1o").is("fault(0)", NONE).text(0, "t1").is("fault(0)", 2);
        Case.town("t1oo").says(0).text(1, "t2o").is("fault(1)", NONE).is("count(0)", 2).is("count(1)", 1).is("count(2)", 1);

        Case.test(10, "BAD; NOTHING.");
        Case.fresh().text(0, "t1o").text(3, "t1o").refuses(BAD, "fault(-1)", "fault(4)", "fault(LEAST)", "fault(GREATEST)")
            .is("fault(0)", NONE).is("fault(3)", NONE).finds(NOTHING, "fault(1)", "fault(2)");
    }

    private static void town() {
        Case.test(11, "how many PEOPLE");
        Case.fresh().text(0, "t6o").is("town(0)", 1).is("count(0)", 1);
        Case.fresh().text(3, "t1omcblk").is("town(3)", 6).is("count(0)", 6);

        Case.test(11, "BAD; NOTHING; STATE: a FAULT.");
        Case.fresh().text(0, "t1o").text(3, "t1o").refuses(BAD, "town(-1)", "town(4)", "town(LEAST)", "town(GREATEST)")
            .is("town(0)", 1).is("town(3)", 1);
        Case.town("t2 o1 l w005 u01").says(0, 10, 1).does("keep(1)").text(1, "t1o ow").refuses(STATE, "town(1)");
        Case.town("t2 o1 l w005 u01").says(0, 10, 1).does("keep(1)", "text(1, 0)").refuses(STATE, "town(1)");

        Case.test(11, "(STATE behind NOTHING.)");
        Case.fresh().finds(NOTHING, "town(0)", "town(3)");
        Case.town("t2oo").says(0, 10).does("keep(0)").finds(NOTHING, "town(1)");
    }

    private static void townAnew() {
        Case.test(11, "(anew: nothing SAID; kept TOWNS go)");
        Case.town("t6 b12 k o4 w119w229 u01u12").says(0, 10, 1, 21, 2, 23).does("keep(0)", "keep(1)", "keep(2)")
            .does("want(2, 0, 7)", "tell(0, 2, 1)").is("town(0)", 3)
            .is("count(2)", 0).is("count(3)", 0).is("count(4)", 0).is("count(8)", 0).is("want(2, 0, 0)", 0).is("tell(0, 2, 0)", 1)
            .tells("thing(0, 0)", 1, NONE).tells("thing(0, 1)", 1, NONE).tells("one(1, 2)", 1, 0).tells("one(2, 3)", 1, 0)
            .finds(NOTHING, "on(0)", "on(1)", "on(2)").is("undo(0)", 0);
        Case.town("t6 b12 k o4 w119 u01u12").text(1, "t2 oo").is("town(1)", 2).is("want(1, 1, 0)", 0).is("tell(0, 1, 0)", 0)
            .tells("thing(0, 2)", 1, 0).tells("one(0, 0)", 1, 0).tells("one(1, 0)", 1, 0);
        Case.town("t2 oo w005w016w107w118").text(1, "t2 oo").is("town(1)", 2).is("want(0, 0, 1)", 0).is("want(0, 1, 1)", 0)
            .is("want(1, 0, 1)", 0).is("want(1, 1, 1)", 0);
        Case.town("t1oo").does("tell(0, 1, 1)", "want(0, 0, 4)").is("town(0)", 2).is("tell(0, 1, 0)", 0).is("want(0, 0, 0)", 0);
    }
}
