import java.util.Arrays;

/** Promises 37 to 43, and what the document says of all calls: each sentence that names a boundary case. */
public final class ToldBoundaryTests {
    private static final int BAD = Case.BAD, FULL = Case.FULL, FINDING = Case.FINDING, STATE = Case.STATE, NONE = Case.NONE;
    private static final int NOTHING = Case.NOTHING, BEYOND = Case.BEYOND, UNLIKE = Case.UNLIKE, NOUGHT = Case.NOUGHT, SIZE = Case.SIZE;
    private static final String SIX = "t6 o o o o o o";

    public static void main(String[] args) {
        constants();
        order();
        sets();
        calls();
        asked();
        askedStays();
        upperAndLower();
        count();
        countMost();
        finding();
        findings();
        digest();
        digestOfTown();
        digestOfLines();
        Case.end(37, 43);
    }

    // ---- what is said of all calls

    private static void constants() {
        Case.test(0, "BAD = -1, FULL = -2, FINDING = -3, STATE = -4, SPENT = -6, NONE = -9");
        Case.number("BAD", SecondWish.BAD, -1);
        Case.number("FULL", SecondWish.FULL, -2);
        Case.number("FINDING", SecondWish.FINDING, -3);
        Case.number("STATE", SecondWish.STATE, -4);
        Case.number("SPENT", SecondWish.SPENT, -6);
        Case.number("NONE", SecondWish.NONE, -9);
    }

    private static void order() {
        Case.test(0, "Refused is, the first of these that fits, in this order: BAD -1 (a number that is none, or not as told), FULL -2, "
            + "STATE -4 (not now), SPENT -6 (more than told), FINDING -3 (finding() tells which), unless a call says so otherwise.");
        Case.town("t1 o").says(Case.filled(40, 0)).refuses(BAD, "say(1, 0)", "say(0, 1)", "lots(0, 1)").refuses(FULL, "say(0, 0)", "lots(1, 1)");
        Case.fresh().refuses(BAD, "keep(3)", "match(6)", "judge(6)", "said(6, 0)", "firsts(0, 6)", "lots(1, 0)")
            .refuses(STATE, "keep(0)", "match(0)", "judge(0)", "said(0, 1)", "firsts(0, 0)", "lots(1, 1)");
        Case.fresh().refuses(BAD, "row(6, -1)", "text(4, -1)", "copy(6, 0, 0, 0, -1)", "on(3)").finds(SIZE, "row(5, -1)", "text(3, -1)", "copy(5, 0, 0, 0, -1)");
        Case.town("t1 o").refuses(BAD, "mark(0, 0)", "mark(1, 5)").finds(UNLIKE, "mark(0, 5)");
        Case.fresh().finds(NOTHING, "town(0)").does("text(0, 0)").refuses(STATE, "town(0)");

        Case.test(0, "1 NOTHING (a ROW, a TEXT, a kept TOWN that is missing), 2 BEYOND (a place that there is not), 3 UNLIKE (one of another KIND; "
            + "a number that is none), 4 NOUGHT (shared among none), 5 SIZE (fewer than none; too many)");
        Case.fresh().finds(1, "tear(0)", "fault(0)", "on(0)").does("row(0, 0)", "text(0, 0)").finds(2, "at(0, 0)", "put(0, 0, 1)").finds(4, "mean(0)")
            .finds(5, "row(0, -1)");
        Case.town("t1 o").row(0, 1).row(1, new int[7]).row(2, new int[21]).finds(3, "mark(0, 1)", "said(0, 3)", "firsts(0, 0)", "judge(0)")
            .finds(5, "said(1, 3)", "firsts(0, 1)", "judge(2)");
    }

    private static void sets() {
        Case.test(0, "Sets (of PEOPLE, of THINGS) are told by bits.");
        Case.town("t6 c o o o o o u01u02u03u04u05").tells("one(0, 1)", 1, 62).tells("one(5, 1)", 1, 0).tells("thing(0, 2)", 1, 62)
            .tells("thing(5, 2)", 1, 0).tells("rounds()", 0, 63);
        Case.town("t1 o").tells("one(0, 1)", 1, 0).tells("thing(0, 2)", 1, 0).tells("rounds()", 0, 1);
    }

    private static void calls() {
        Case.test(0, "An object is used for at most 512 calls after it has been made");
        Case town = Case.town("t1 o o").does("keep(0)", "row(0, 1)");
        int made = 6 + 2;
        for (; made < 509; made++) {
            town.is("lay(0, 0, " + made + ")", 1);
        }
        town.is("say(0, 0)", 0).is("digest()", Case.town("t1 o o").does("keep(0)").row(0, 508).says(0).answers("digest()")).is("asked()", NONE);
    }

    // ---- 37

    private static void asked() {
        Case.test(37, "told; 0 before.");
        Case.fresh().is("asked()", 0).does("row(0, 3)", "count(0)", "digest()").is("asked()", 0);

        Case.test(37, "What the latest lay(), at(), mean(), one(), thing(), say(), dusk(), best(), price(), rounds(), judge()");
        Case town = Case.town("t2 c k w015w116 u01").row(0, 0, 7).row(1, 10, 0, 9);
        town.tells("at(0, 1)", 1, 7).tells("lay(0, 1, 9)", 1, 7).tells("mean(0)", 1, 4).tells("one(1, 0)", 1, 5).tells("thing(0, 2)", 1, 2)
            .tells("say(0, 0)", 0, NONE).tells("dusk()", 0, 0).tells("at(0, 1)", 1, 9).tells("best(1)", 9, 0).tells("say(0, 1)", 0, NONE)
            .tells("best(1)", 1, 6).tells("price(1)", 6, 1).tells("rounds()", 0, 3).tells("judge(1)", 1, 1).is("asked()", 1).is("asked()", 1);
    }

    private static void askedStays() {
        Case.test(37, "that was not refused (nor NONE, but as told) told");
        Case.town("t2 c k w009").row(0, 44).row(2, 0).does("at(0, 0)")
            .refuses(BAD, "lay(6, 0, 1)", "at(6, 0)", "mean(6)", "one(9, 0)", "thing(9, 0)", "say(9, 0)", "best(9)", "price(9)", "judge(6)")
            .finds(BEYOND, "lay(0, 1, 1)", "at(0, 1)").finds(NOTHING, "mean(5)", "judge(5)").is("price(0)", NONE).is("asked()", 44);
        Case.town("t2 c k w009").row(0, 44).row(2, 0).does("at(0, 0)", "row(1, 1)", "tear(1)", "copy(0, 0, 2, 0, 1)", "text(1, 2)", "put(1, 0, 7)",
            "fault(1)", "mark(0, 2)", "want(0, 0, 3)", "tell(0, 1, 1)", "undo(0)", "can(0)", "knows(0)", "keep(0)", "on(0)", "plays(0, 3, 1)",
            "sure(0, 3)", "fewest(1, 0, 1)", "match(1)", "safe(0, 1)", "row(2, 1)", "said(2, 3)", "firsts(0, 2)", "odds(0, 0, 2)", "lots(3, 7)",
            "upper()", "lower()", "count(0)", "finding()", "findings(1)", "digest()", "town(0)").is("asked()", 44);
    }

    // ---- 38, 39

    private static void upperAndLower() {
        Case.test(38, "The upper number of the chances that were told last; 0 before.");
        Case.fresh().is("upper()", 0).refuses(BAD, "odds(0, 0, 0)").is("upper()", 0);
        Case.town("t2 o o").is("upper()", 0).says(0).does("odds(1, 0, 2)").is("upper()", 7).refuses(BAD, "odds(1, 0, 4)").is("upper()", 7)
            .says(10).is("upper()", 7).does("odds(0, 0, 2)").is("upper()", 0).does("odds(1, 0, 2)").is("upper()", 1).does("town(0)").is("upper()", 1);

        Case.test(39, "Its lower number; 1 before.");
        Case.fresh().is("lower()", 1).refuses(BAD, "odds(0, 0, 0)").is("lower()", 1);
        Case.town("t2 o o").is("lower()", 1).says(0).does("odds(1, 0, 2)").is("lower()", 16).refuses(BAD, "odds(1, 0, 4)").is("lower()", 16)
            .says(10).is("lower()", 16).does("odds(0, 0, 2)").is("lower()", 1).does("town(0)").is("lower()", 1);
    }

    // ---- 40

    private static void count() {
        Case.test(40, "7 TEXTS that are there, 8 kept TOWNS. BAD.");
        Case.fresh().is("count(0)", 0).is("count(8)", 0).refuses(BAD, "count(-1)", "count(9)", "count(LEAST)", "count(GREATEST)");
        Case.town("t1 o").is("count(0)", 1).is("count(8)", 0).refuses(BAD, "count(-1)", "count(9)");

        Case.test(40, "3 THINGS GRANTED, 4 THINGS with a FIRST, not GRANTED");
        Case.town("t2 o o u10").is("count(3)", 0).is("count(4)", 0).says(0).is("count(3)", 0).is("count(4)", 1).says(10).is("count(3)", 1).is("count(4)", 0)
            .says(1, 11).is("count(3)", 2).is("count(4)", 0).is("dusk()", 2);

        Case.test(40, "5 MISERS (BROKERS, too)");
        Case.town("t1 o c b l").is("count(5)", 0);
        Case.town("t1 m").is("count(5)", 1);
        Case.town("t1 k").is("count(5)", 1);
        Case.town("t1 m k m k m k").is("count(5)", 6);
    }

    private static void countMost() {
        Case.test(40, "0 PEOPLE, 1 THINGS, 2 SAYINGS");
        Case.town(SIX).is("count(0)", 6).is("count(1)", 6).is("count(2)", 0).says(Case.filled(40, 0)).is("count(2)", 40);

        Case.test(40, "3 THINGS GRANTED, 4 THINGS with a FIRST, not GRANTED");
        Case.town(SIX).says(0, 1, 2, 3, 4, 5).is("count(4)", 6).is("count(3)", 0).says(10, 11, 12, 13, 14, 15).is("count(4)", 0).is("count(3)", 6);

        Case.test(40, "6 ROWS, 7 TEXTS that are there, 8 kept TOWNS");
        Case.fresh().does("row(0, 0)", "row(1, 1)", "row(2, 2)", "row(3, 3)", "row(4, 4)").is("count(6)", 5).does("row(5, 40)").is("count(6)", 6)
            .does("row(5, 1)").is("count(6)", 6).does("tear(0)").is("count(6)", 5);
        Case.fresh().does("text(0, 0)", "text(1, 1)", "text(2, 2)").is("count(7)", 3).does("text(3, 80)").is("count(7)", 4).does("text(3, 0)").is("count(7)", 4);
        Case.town("t1 o").does("keep(2)").is("count(8)", 1).does("keep(2)").is("count(8)", 1).does("keep(0)", "keep(1)").is("count(8)", 3)
            .does("on(1)").is("count(8)", 3).does("town(0)").is("count(8)", 0);
    }

    // ---- 41, 42

    private static void finding() {
        Case.test(41, "The latest FINDING (0 before any).");
        Case.fresh().is("finding()", 0).refuses(BAD, "row(6, 0)").refuses(STATE, "keep(0)").does("row(0, 0)").is("finding()", 0)
            .is("at(0, 0)", FINDING).is("finding()", BEYOND).is("mean(0)", FINDING).is("finding()", NOUGHT).is("tear(1)", FINDING).is("finding()", NOTHING)
            .is("row(0, -1)", FINDING).is("finding()", SIZE).does("row(0, 2)", "digest()").refuses(BAD, "row(6, 0)").refuses(STATE, "keep(0)")
            .is("finding()", SIZE).text(0, "t1o").does("town(0)").is("finding()", SIZE).is("mark(0, 1)", FINDING).is("finding()", UNLIKE);
    }

    private static void findings() {
        Case.test(42, "How often a FINDING (1 .. 5) was answered. BAD.");
        Case.fresh().is("findings(1)", 0).is("findings(5)", 0).refuses(BAD, "findings(0)", "findings(6)", "findings(-1)", "findings(LEAST)", "findings(GREATEST)");
        Case.town("t1 o").row(0).is("tear(1)", FINDING).is("findings(1)", 1).is("at(0, 0)", FINDING).is("at(0, 0)", FINDING).is("findings(2)", 2)
            .is("mark(0, 1)", FINDING).is("findings(3)", 1).is("mean(0)", FINDING).is("findings(4)", 1).is("row(0, -1)", FINDING).is("row(0, -1)", FINDING)
            .is("text(0, -1)", FINDING).is("findings(5)", 3).is("findings(1)", 1).is("findings(2)", 2).refuses(BAD, "row(6, -1)").is("findings(5)", 3)
            .does("town(0)").is("findings(1)", 1).is("findings(5)", 3);
    }

    // ---- 43

    /** h = 17, then h = 31 h + v for each, with the wrap-around of a long. */
    private static long mixed(int... values) {
        long h = 17;
        for (int v : values) {
            h = 31 * h + v;
        }
        return h;
    }

    private static int[] joined(int[]... parts) {
        return Arrays.stream(parts).flatMapToInt(Arrays::stream).toArray();
    }

    private static void digest() {
        Case.test(43, "of each kept TOWN how many SAYINGS (-1: missing); of each ROW its size (-1: missing) and places, of each TEXT likewise");
        int[] counts = new int[9];
        Case.fresh().is("digest()", mixed(joined(counts, Case.filled(13, -1)))).is("digest()", mixed(joined(counts, Case.filled(13, -1))));
        counts[6] = 1;
        Case.fresh().does("row(0, 0)").is("digest()", mixed(joined(counts, Case.filled(3, -1), new int[] {0}, Case.filled(9, -1))));
        Case.fresh().does("row(5, 40)").is("digest()", mixed(joined(counts, Case.filled(8, -1), new int[] {40}, new int[40], Case.filled(4, -1))));
    }

    private static void digestOfTown() {
        Case.test(43, "of each one one() 0 to 4, the WORTH of each THING; of each THING thing() 0 to 3; of each SAYING 10 times who and the THING");
        int[] text = "t2o1kw015u10".chars().toArray();
        int[] rest = joined(Case.filled(6, -1), new int[] {text.length}, text, Case.filled(3, -1));
        Case.town("t2o1kw015u10").is("digest()", mixed(joined(new int[] {2, 2, 0, 0, 0, 1, 0, 1, 0},
            new int[] {0, 2, 0, 0, 0, 0, 5, 5, 0, 0, 0, 0, 0, 0}, new int[] {NONE, NONE, 0, 0, NONE, NONE, 1, 0}, Case.filled(3, -1), rest)));
        Case.town("t2o1kw015u10").says(0, 10, 11, 1).does("keep(1)").is("digest()", mixed(joined(new int[] {2, 2, 4, 2, 0, 1, 0, 1, 1},
            new int[] {0, 2, 0, 2, 5, 0, 5, 5, 0, 1, 1, 0, 0, 0}, new int[] {0, 1, 0, 0, 1, 0, 1, 1}, new int[] {0, 10, 11, 1, -1, 4, -1}, rest)));
    }

    private static void digestOfLines() {
        Case.test(43, "of each ROW its size (-1: missing) and places, of each TEXT likewise");
        Case.fresh().row(1, Case.LEAST, Case.GREATEST, -1).text(0, "" + (char) 127 + (char) 128 + (char) 255).does("text(3, 0)")
            .is("digest()", mixed(joined(new int[] {0, 0, 0, 0, 0, 0, 1, 2, 0}, Case.filled(4, -1), new int[] {3, Case.LEAST, Case.GREATEST, -1}, Case.filled(4, -1),
                new int[] {3, 127, -128, -1}, Case.filled(2, -1), new int[] {0})));

        Case.test(43, "h = 17; then h = 31 h + v for each v: count() 0 to 8");
        Case.fresh().does("row(0, 1)", "lay(0, 0, 5)", "at(0, 0)", "digest()").is("asked()", 5).does("digest()").is("finding()", 0).is("count(6)", 1);
    }
}
