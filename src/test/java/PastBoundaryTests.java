import java.util.Arrays;

/** Promises 32 to 36: each sentence that names a boundary case. */
public final class PastBoundaryTests {
    private static final int BAD = Case.BAD, FULL = Case.FULL, STATE = Case.STATE, NONE = Case.NONE;
    private static final int NOTHING = Case.NOTHING, UNLIKE = Case.UNLIKE, SIZE = Case.SIZE;
    private static final int LEAST = Case.LEAST, GREATEST = Case.GREATEST;
    private static final String SIX = "t6 o o o o o o";

    public static void main(String[] args) {
        said();
        saidRow();
        saidRefused();
        firsts();
        firstsRefused();
        judge();
        judgeRefused();
        judgeSayings();
        silence();
        odds();
        oddsRefused();
        lots();
        lotsRefused();
        Case.end(32, 36);
    }

    // ---- 32

    private static void said() {
        Case.test(32, "PEOPLE who spoke one behind the other, from nothing SAID on (a ROW; 6 at most; of THINGS each SAID one)");
        Case.town("t1 o o").does("row(0, 0)").is("said(0, 1)", 1).rowIs(1).says(0).is("said(0, 1)", 0).rowIs(1)
            .row(0, 0).is("said(0, 1)", 1).rowIs(1, 0).is("count(2)", 1);
        Case.town("t6 o").says(0, 1, 2, 3, 4).row(0, Case.filled(6, 0)).is("said(0, 1)", 1800).rowIs(1, 0, 0, 1, 2, 3, 4)
            .says(5).is("said(0, 1)", 720).rowIs(1, 0, 1, 2, 3, 4, 5);
        Case.town(SIX).says(0, 11, 22, 33, 44, 55).row(0, 0, 1, 2, 3, 4, 5).is("said(0, 1)", 1).rowIs(1, 0, 1, 2, 3, 4, 5);

        Case.test(32, "by how many rows of THINGS it can be that FIRSTS and what is GRANTED are as now");
        Case.town("t1 o o l").says(0, 20).row(0, 0, 2).is("said(0, 1)", 1).row(0, 0, 1).is("said(0, 1)", 0).row(0, 2, 0).is("said(0, 1)", 0);
        Case.town("t1 o o").says(0).row(0, 0, 9).does("row(0, 1)").is("said(0, 1)", 1).is("firsts(0, 0)", 1);
        Case.town("t2 o o").says(0).row(0, 0).is("said(0, 1)", 1).row(0, 1).is("said(0, 1)", 0).row(0, 0, 1).is("said(0, 1)", 0);
        Case.town("t1 o o").says(0, 10).row(0, 0).is("said(0, 1)", 0).row(0, 0, 0, 1, 1, 0, 0).is("said(0, 1)", 1).rowIs(1, Case.filled(6, 0));
    }

    private static void saidRow() {
        Case.test(32, "the first comes to another ROW (anew; if there is none, that ROW stays as it is)");
        Case.town("t2 o o").says(1).row(0, 0).row(5, 7, 8, 9).is("said(0, 5)", 1).rowIs(5, 1).rowIs(0, 0);
        Case.town("t2 o o").says(1).row(0, 1).row(5, 7, 8, 9).is("said(0, 5)", 0).rowIs(5, 7, 8, 9).is("said(0, 4)", 0).rowIsMissing(4);
        Case.town("t2 o o").says(0, 1).row(0, 0, 0).is("said(0, 0)", 2).rowIs(0, 0, 1);
    }

    private static void saidRefused() {
        Case.test(32, "BAD; STATE: no PEOPLE; NOTHING; SIZE: more than 6; UNLIKE: none of PEOPLE. (In this order.)");
        Case.fresh().refuses(BAD, "said(-1, 0)", "said(6, 0)", "said(0, -1)", "said(0, 6)", "said(LEAST, 0)", "said(0, GREATEST)")
            .refuses(STATE, "said(0, 1)", "said(5, 5)").row(0, Case.filled(7, 9)).refuses(STATE, "said(0, 1)").row(0).refuses(STATE, "said(0, 1)");
        Case.town("t1 o").refuses(BAD, "said(-1, 0)", "said(6, 0)", "said(0, -1)", "said(0, 6)").finds(NOTHING, "said(0, 1)", "said(5, 0)");
        Case.town("t1 o").row(0, Case.filled(7, 9)).row(1, 4).refuses(BAD, "said(0, 6)").finds(SIZE, "said(0, 1)").finds(NOTHING, "said(2, 1)");

        Case.test(32, "SIZE: more than 6");
        Case.town("t1 o").says(0).row(0, Case.filled(7, 0)).finds(SIZE, "said(0, 1)").row(0, Case.filled(40, 0)).finds(SIZE, "said(0, 1)")
            .row(0, Case.filled(6, 0)).is("said(0, 1)", 1);

        Case.test(32, "UNLIKE: none of PEOPLE");
        for (int one : new int[] {2, -1, 6, 10, LEAST, GREATEST}) {
            Case.town("t1 o o").row(0, 0, 1, one).row(1, 7).finds(UNLIKE, "said(0, 1)").row(0, one).finds(UNLIKE, "said(0, 1)");
        }
        Case.town("t1 o o").says(0, 10).row(0, 0, 1).is("said(0, 1)", 1);
        Case.town(SIX).says(50).row(0, 5).is("said(0, 1)", 1).row(0, 6).finds(UNLIKE, "said(0, 1)");
    }

    // ---- 33

    private static void firsts() {
        Case.test(33, "Who can have been the FIRST of a THING (bits), if PEOPLE spoke so");
        Case.town(SIX).row(0, 0, 1, 2, 3, 4, 5).is("firsts(0, 0)", 63).is("firsts(5, 0)", 63).row(0, 5).is("firsts(0, 0)", 32);
        Case.town("t1 o o").does("row(0, 0)").is("firsts(0, 0)", 0).row(0, 0, 1).is("firsts(0, 0)", 0).row(0, 0, 0, 0, 0, 0, 0).is("firsts(0, 0)", 1);
        Case.town("t2 o o l").says(0, 10).row(0, 2, 0, 1).is("firsts(0, 0)", 5).is("firsts(1, 0)", 5).row(0, 1, 2).is("firsts(0, 0)", 2);

        Case.test(33, "and what is GRANTED is as now, whoever were FIRSTS");
        Case.town("t2 o o").says(0, 10).row(0, 0, 1).is("firsts(0, 0)", 1).is("firsts(1, 0)", 0);
        Case.town("t1 o o").says(0).row(0, 1).is("said(0, 1)", 0).is("firsts(0, 0)", 2).is("said(0, 1)", 0).says(10).is("firsts(0, 0)", 0).row(0, 0, 1).is("firsts(0, 0)", 1);
        Case.town("t1 o o k").says(0, 20).row(0, 1, 2).is("firsts(0, 0)", 2).row(0, 2, 2).is("firsts(0, 0)", 4).row(0, 0, 1).is("firsts(0, 0)", 0);
    }

    private static void firstsRefused() {
        Case.test(33, "(In this order; a ROW that is none is BAD ahead of all.)");
        Case.fresh().refuses(BAD, "firsts(0, -1)", "firsts(0, 6)", "firsts(9, 6)", "firsts(0, LEAST)", "firsts(0, GREATEST)");
        Case.town("t1 o").refuses(BAD, "firsts(0, -1)", "firsts(0, 6)", "firsts(1, 0)").finds(NOTHING, "firsts(0, 0)", "firsts(0, 5)");

        Case.test(33, "BAD; STATE (without PEOPLE, whatever the THING); NOTHING; SIZE; UNLIKE.");
        Case.fresh().refuses(STATE, "firsts(0, 0)", "firsts(-1, 0)", "firsts(6, 5)", "firsts(LEAST, 0)", "firsts(GREATEST, 0)")
            .row(0, Case.filled(7, 9)).refuses(STATE, "firsts(0, 0)", "firsts(9, 0)");
        Case.town("t1 o").row(0, Case.filled(7, 9)).refuses(BAD, "firsts(1, 0)", "firsts(-1, 0)", "firsts(LEAST, 0)", "firsts(GREATEST, 0)")
            .finds(SIZE, "firsts(0, 0)").row(0, Case.filled(7, 0)).finds(SIZE, "firsts(0, 0)").row(0, Case.filled(6, 0)).is("firsts(0, 0)", 1);
        Case.town("t6 o o").row(0, 1).is("firsts(5, 0)", 2).refuses(BAD, "firsts(6, 0)", "firsts(6, 1)");
        for (int one : new int[] {2, -1, 6, LEAST, GREATEST}) {
            Case.town("t1 o o").row(0, 0, one).finds(UNLIKE, "firsts(0, 0)").row(0, 0, 0).is("firsts(0, 0)", 1);
        }
    }

    // ---- 34

    private static void judge() {
        Case.test(34, "SAYINGS in a ROW judged, from as it is: how many of them have a WISH GRANTED");
        Case.town("t2 o l k").does("row(0, 0)").tells("judge(0)", 0, NONE).row(0, 1, 11, 20, 20).tells("judge(0)", 2, NONE).is("count(2)", 0)
            .says(1).row(0, 11).tells("judge(0)", 1, NONE).is("count(2)", 1).is("count(3)", 0);
        Case.town(SIX).row(0, 0, 10, 1, 11, 2, 12, 3, 13, 4, 14, 5, 55).tells("judge(0)", 6, NONE);
        Case.town("t1 o o").says(Case.filled(40, 0)).row(0, 10).tells("judge(0)", 1, NONE);

        Case.test(34, "the first by which nothing comes (SILENCE, too; NONE: none is so) by asked()");
        Case.town("t1 o o").row(0, 0, 10, 0).tells("judge(0)", 1, 2).row(0, 0, 0, 10).tells("judge(0)", 1, 1).row(0, 0, 10).tells("judge(0)", 1, NONE)
            .row(0, 9, 0, 10, 0).tells("judge(0)", 1, 0).row(0, 0, 19, 10, 9).tells("judge(0)", 1, 1);
        Case.town("t1 k").row(0, 0, 0).tells("judge(0)", 1, NONE).row(0, 0, 0, 0).tells("judge(0)", 1, 2);
    }

    private static void judgeRefused() {
        Case.test(34, "BAD; STATE: no PEOPLE; NOTHING; SIZE: more than 20; UNLIKE: no SAYING, nor SILENCE. (In this order.)");
        Case.fresh().refuses(BAD, "judge(-1)", "judge(6)", "judge(LEAST)", "judge(GREATEST)").refuses(STATE, "judge(0)", "judge(5)")
            .row(0, Case.filled(21, -1)).refuses(STATE, "judge(0)");
        Case.town("t1 o").refuses(BAD, "judge(-1)", "judge(6)").finds(NOTHING, "judge(0)", "judge(5)").row(0, Case.filled(21, -1)).finds(SIZE, "judge(0)");

        Case.test(34, "SIZE: more than 20");
        Case.town("t1 o").row(0, Case.filled(21, 0)).finds(SIZE, "judge(0)").row(0, Case.filled(40, 9)).finds(SIZE, "judge(0)")
            .row(0, Case.filled(20, 0)).tells("judge(0)", 0, 1).row(0, Case.filled(20, 9)).tells("judge(0)", 0, 0);
    }

    private static void judgeSayings() {
        Case.test(34, "UNLIKE: no SAYING, nor SILENCE");
        for (int word : new int[] {2, 8, 12, 18, 20, 29, 60, -1, -9, -10, LEAST, GREATEST}) {
            Case.town("t2 o o").row(0, 0, word).finds(UNLIKE, "judge(0)").row(0, word, 0).finds(UNLIKE, "judge(0)");
        }
        Case.town("t2 o o").row(0, 1, 9, 11, 19).tells("judge(0)", 1, 1).row(0, 1, -5).does("row(0, 1)").tells("judge(0)", 0, NONE);
        Case.town(SIX).row(0, 55, 59).tells("judge(0)", 0, 1).row(0, 56).finds(UNLIKE, "judge(0)").row(0, 60).finds(UNLIKE, "judge(0)")
            .row(0, 69).finds(UNLIKE, "judge(0)");
    }

    private static void silence() {
        Case.test(34, "SILENCE by 10 times who and 9 (nothing comes of it; it is none of the SAYINGS done)");
        Case.town("t1 o o w009w109").is("plays(0, 3, 0)", 9).rowIs(0, 9, 10, 0).tells("judge(0)", 1, 0).is("count(2)", 0)
            .row(0, 19, 9, 19).tells("judge(0)", 0, 0).refuses(BAD, "say(0, 9)");
    }

    // ---- 35

    private static void oddsAre(Case town, String call, long upper, long lower) {
        town.is(call, 1).is("upper()", upper).is("lower()", lower);
    }

    private static void odds() {
        Case.test(35, "n (0 .. 3) times anybody SAYS any THING, all alike likely");
        Case town = Case.town(SIX);
        oddsAre(town, "odds(0, 0, 0)", 0, 1);
        oddsAre(town, "odds(0, 0, 1)", 0, 1);
        oddsAre(town, "odds(0, 0, 2)", 5, 1296);
        oddsAre(town, "odds(5, 5, 3)", 485, 46656);
        town.is("count(2)", 0).refuses(BAD, "odds(0, 0, 4)", "odds(0, 0, -1)", "odds(0, 0, LEAST)", "odds(0, 0, GREATEST)");

        Case.test(35, "Chances are told by upper(), lower(), in lowest terms, the lower number above 0 (0 by 1).");
        Case one = Case.town("t1 o o k");
        oddsAre(one, "odds(0, 0, 2)", 2, 9);
        oddsAre(one, "odds(2, 0, 2)", 1, 3);
        one.says(10);
        oddsAre(one, "odds(0, 0, 1)", 1, 3);
        oddsAre(one, "odds(1, 0, 3)", 0, 1);
        one.says(0);
        oddsAre(one, "odds(0, 0, 0)", 1, 1);
        oddsAre(one, "odds(0, 0, 3)", 1, 1);
        oddsAre(one, "odds(1, 0, 0)", 0, 1);
        Case lover = Case.town("t1 o l");
        oddsAre(lover, "odds(1, 0, 3)", 0, 1);
        oddsAre(lover, "odds(0, 0, 3)", 3, 4);
        oddsAre(Case.town("t1 k"), "odds(0, 0, 1)", 0, 1);
        oddsAre(Case.town("t1 k"), "odds(0, 0, 2)", 1, 1);

        Case.test(35, "chances that a THING is GRANTED to one at last");
        Case undone = Case.town("t2 o o u10").says(0, 10, 1, 11);
        oddsAre(undone, "odds(1, 0, 0)", 1, 1);
        oddsAre(Case.town("t1 o o").says(Case.filled(40, 0)), "odds(1, 0, 1)", 1, 2);
    }

    private static void oddsRefused() {
        Case.test(35, "told by upper(), lower(): 1. BAD.");
        Case.town("t1 o o").says(0).is("odds(1, 0, 1)", 1).refuses(BAD, "odds(2, 0, 1)", "odds(-1, 0, 1)", "odds(0, 1, 1)", "odds(0, -1, 1)")
            .refuses(BAD, "odds(LEAST, 0, 1)", "odds(GREATEST, 0, 1)", "odds(0, LEAST, 1)", "odds(0, GREATEST, 1)", "odds(0, 0, 4)")
            .is("upper()", 1).is("lower()", 2);
        Case.town(SIX).is("odds(5, 5, 0)", 1).refuses(BAD, "odds(6, 5, 0)", "odds(5, 6, 0)");
        Case.fresh().refuses(BAD, "odds(0, 0, 0)");
    }

    // ---- 36

    private static void lots() {
        Case.test(36, "n (1 .. 20) SAYINGS truly by LOTS of a seed");
        Case.town("t1 k").is("lots(1, 1)", 0).is("count(2)", 1).is("lots(1, 1)", 1).is("count(2)", 2).is("lots(20, 1)", 0).is("count(2)", 22)
            .refuses(BAD, "lots(0, 1)", "lots(21, 1)", "lots(-1, 1)", "lots(LEAST, 1)", "lots(GREATEST, 1)").is("undo(1)", 21);

        Case.test(36, "the first from the seed (1 .. 2147483646)");
        Case.town(SIX).is("lots(1, 1)", 0).tells("thing(4, 0)", 1, 1).is("count(4)", 1);
        Case.town(SIX).is("lots(1, 2147483646)", 0).tells("thing(3, 0)", 1, 0).is("count(4)", 1);
        Case.town(SIX).refuses(BAD, "lots(1, 0)", "lots(1, -1)", "lots(1, GREATEST)", "lots(1, LEAST)");

        Case.test(36, "it modulo how many PEOPLE there are is who; it by 64, cut, modulo how many THINGS the THING: how many WISHES were GRANTED.");
        Case.town("t1 o").is("lots(20, 5)", 0).tells("thing(0, 0)", 1, 0);
        // 48271 modulo 5 is 1; 48271 by 64, cut, is 754, modulo 4 it is 2.
        Case.town("t4 o o o o o").is("lots(1, 1)", 0).tells("thing(2, 0)", 1, 1).says(2).is("count(3)", 1);

        Case.test(36, "a number comes from the one ahead by 48271 times it modulo 2147483647");
        lotsAre(1);
        lotsAre(77);
        lotsAre(2147483646);
    }

    /** Twenty by LOTS, and as many fewer as are undone, are as if SAID one by one. */
    private static void lotsAre(int seed) {
        String text = "t5 o o k o l";
        int[] sayings = new int[20];
        long number = seed;
        for (int i = 0; i < 20; i++) {
            number = number * 48271 % 2147483647L;
            sayings[i] = (int) (number % 5 * 10 + number / 64 % 5);
        }
        Case town = Case.town(text).is("lots(20, " + seed + ")", Case.town(text).says(sayings).answers("count(3)"));
        for (int n = 20; n >= 0; n--) {
            town.does("undo(" + n + ")").is("digest()", Case.town(text).says(Arrays.copyOf(sayings, n)).answers("digest()"));
        }
    }

    private static void lotsRefused() {
        Case.test(36, "FULL: with n more there would be more than 40.");
        Case.town("t1 o").says(Case.filled(21, 0)).refuses(FULL, "lots(20, 1)").is("lots(19, 1)", 0).is("count(2)", 40).refuses(FULL, "lots(1, 1)");
        Case.town("t1 o").is("lots(20, 1)", 0).is("lots(20, 1)", 0).refuses(FULL, "lots(1, 1)", "lots(20, 5)").refuses(BAD, "lots(0, 1)", "lots(21, 1)", "lots(1, 0)")
            .does("undo(39)").is("lots(1, 1)", 0);

        Case.test(36, "(FULL last.)");
        Case.town("t1 o").says(Case.filled(40, 0)).refuses(BAD, "lots(21, 1)", "lots(1, 0)").refuses(FULL, "lots(1, 2147483646)");

        Case.test(36, "BAD; STATE: no PEOPLE;");
        Case.fresh().refuses(STATE, "lots(1, 1)", "lots(20, 2147483646)").refuses(BAD, "lots(0, 1)", "lots(21, 1)", "lots(1, 0)", "lots(1, GREATEST)");
    }
}
