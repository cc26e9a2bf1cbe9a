/** Promises 24 to 31: each sentence that names a boundary case. */
public final class AdviceBoundaryTests {
    private static final int BAD = Case.BAD, STATE = Case.STATE, NONE = Case.NONE;

    public static void main(String[] args) {
        best();
        plays();
        playsTurns();
        playsRefused();
        sure();
        fewest();
        fewestRow();
        match();
        matchAlike();
        safe();
        safeRefused();
        price();
        priceNone();
        rounds();
        Case.end(24, 31);
    }

    // ---- 24

    private static void best() {
        Case.test(24, "Which THING to say now so that one's GAIN is most at once (the first;");
        Case.town("t6 o o w054w004w014").says(15, 10, 11).tells("best(0)", 0, 4).does("want(0, 5, 5)").tells("best(0)", 5, 5)
            .does("want(0, 1, 5)").tells("best(0)", 1, 5).is("count(2)", 3).is("count(3)", 0);
        Case.town("t1 k w005").tells("best(0)", 9, 0).says(0).tells("best(0)", 0, 5);
        Case.town("t1 o l w009w109").says(0).tells("best(1)", 9, 0).tells("best(0)", 9, 0);

        Case.test(24, "9: SILENCE, if none makes it more than it is)");
        Case.town("t1 o").tells("best(0)", 9, 0);
        Case.town("t1 o o").says(10).tells("best(0)", 9, 0).does("want(0, 0, 1)").tells("best(0)", 0, 1);
        Case.town("t2 o o w005w015 u10").says(10, 0, 11).tells("best(0)", 9, 5).does("want(0, 1, 6)").tells("best(0)", 1, 6)
            .does("want(0, 1, 4)").tells("best(0)", 9, 5);

        Case.test(24, "the GAIN then by asked(). BAD.");
        Case.town("t1 o").tells("best(0)", 9, 0).refuses(BAD, "best(1)", "best(-1)", "best(LEAST)", "best(GREATEST)");
        Case.town("t1 o o o o o o").tells("best(5)", 9, 0).refuses(BAD, "best(6)");
        Case.fresh().refuses(BAD, "best(0)");
    }

    // ---- 25

    private static void plays() {
        Case.test(25, "n (0 .. 5) times in all");
        Case.town("t1 k w005").row(1, 7, 8, 9).is("plays(0, 0, 1)", 0).rowIs(1).is("plays(0, 1, 1)", 0).rowIs(1, 0)
            .is("plays(0, 2, 1)", 5).rowIs(1, 0, 0).is("plays(0, 5, 1)", 5).rowIs(1, 0, 0, 0, 0, 0)
            .refuses(BAD, "plays(0, 6, 1)", "plays(0, -1, 1)", "plays(0, LEAST, 1)", "plays(0, GREATEST, 1)");
        Case.town("t1 k w005").says(0).is("plays(0, 0, 1)", 0).rowIs(1).is("sure(0, 0)", 0).says(0).is("plays(0, 0, 1)", 5).rowIs(1);

        Case.test(25, "what is SAID comes to a ROW (anew)");
        Case.town("t1 k w005").is("plays(0, 2, 0)", 5).rowIs(0, 0, 0).is("plays(0, 1, 0)", 0).rowIs(0, 0).row(5, new int[40])
            .is("plays(0, 2, 5)", 5).rowIs(5, 0, 0).is("count(2)", 0);

        Case.test(25, "---- 3 what to say (aside)");
        Case.town("t1 k o w005").says(Case.filled(40, 10)).is("count(2)", 40).is("plays(0, 1, 0)", 5).rowIs(0, 0).is("sure(0, 1)", 5)
            .is("fewest(0, 0, 0)", 1).tells("best(0)", 0, 5).is("count(2)", 40).is("count(3)", 0);
    }

    private static void playsTurns() {
        Case.test(25, "PEOPLE speak by turns, by numbers from one on (0 behind the last)");
        Case.town("t1 o o o").is("plays(2, 5, 0)", 0).rowIs(0, 20, 0, 10, 20, 0).is("plays(1, 2, 0)", 0).rowIs(0, 10, 20);
        Case.town("t1 o").is("plays(0, 3, 0)", 0).rowIs(0, 0, 0, 0);
        Case.town("t6 o o o o o o").is("plays(5, 5, 0)", 0).rowIs(0, 50, 0, 10, 20, 30);

        Case.test(25, "of alike ones the least THING, SILENCE last");
        Case.town("t2 o o").is("plays(0, 1, 0)", 0).rowIs(0, 0);
        Case.town("t2 o o w018").says(10, 11).is("plays(0, 1, 0)", 8).rowIs(0, 1);
        Case.town("t6 o o w058").says(15).is("plays(0, 1, 0)", 8).rowIs(0, 5);
        Case.town("t2 o o w008w018").says(10, 11).is("plays(0, 1, 0)", 8).rowIs(0, 0);

        Case.test(25, "each SAYS a THING or nothing so that the own GAIN is most at last, all thinking ahead so");
        Case.town("t1 o o w009w109").is("plays(0, 3, 0)", 9).rowIs(0, 9, 10, 0).is("plays(0, 2, 0)", 0).rowIs(0, 0, 10);
        Case.town("t2 o o w005w119 u10").says(10, 0, 11).is("plays(0, 1, 0)", 5).rowIs(0, 0).does("undo(2)")
            .is("plays(0, 2, 0)", 5).rowIs(0, 0, 10).says(1).is("plays(0, 2, 0)", 0).rowIs(0, 0, 11);
    }

    private static void playsRefused() {
        Case.test(25, "the GAIN of who begins, at last.");
        Case.town("t6 o o w109w119w129w139w149w159").says(0, 10, 1, 11, 2, 12, 3, 13, 4, 14, 5, 15).is("plays(1, 0, 0)", 54)
            .is("plays(1, 5, 0)", 54).rowIs(0, 10, 0, 10, 0, 10);
        Case.town("t6 o o o o o o w109w219w329w439w549").says(0, 1, 2, 3, 4).is("plays(1, 5, 0)", 9).rowIs(0, 10, 21, 32, 43, 54);
        Case.town("t6 o o o o o o w109w219w329w439w549").says(0, 1, 2, 3, 4, 10, 21).is("plays(3, 4, 0)", 9).rowIs(0, 32, 43, 54, 0);

        Case.test(25, "the GAIN of who begins, at last. BAD.");
        Case.town("t1 o o w109").row(0, 7).says(0).is("plays(1, 1, 0)", 9).rowIs(0, 10).is("plays(0, 2, 5)", 0)
            .refuses(BAD, "plays(2, 1, 0)", "plays(-1, 1, 0)", "plays(LEAST, 1, 0)", "plays(GREATEST, 1, 0)")
            .refuses(BAD, "plays(0, 1, -1)", "plays(0, 1, 6)", "plays(0, 1, LEAST)", "plays(0, 1, GREATEST)", "plays(0, 6, 0)");
        Case.fresh().refuses(BAD, "plays(0, 0, 0)", "plays(0, 1, 0)");
    }

    // ---- 26

    private static void sure() {
        Case.test(26, "The most GAIN at last that one who begins can be sure of (PEOPLE speaking so)");
        Case.town("t1 k w005").is("sure(0, 0)", 0).is("sure(0, 1)", 0).is("sure(0, 2)", 5).is("sure(0, 5)", 5);
        Case.town("t1 k w005").says(0, 0).is("sure(0, 0)", 5).is("sure(0, 5)", 5).is("count(2)", 2);
        Case.town("t1 k o w005").is("sure(0, 2)", 0).is("sure(0, 3)", 0).says(10).is("sure(0, 1)", 5).is("sure(1, 2)", 0);

        Case.town("t2 o o w005 u10").says(10, 1).is("sure(0, 1)", 5).is("sure(0, 2)", 0);
        Case.town("t6 o o o o o k w059").is("sure(0, 5)", 0).says(15).is("sure(0, 1)", 9).is("sure(0, 5)", 9);
        Case.town("t6 o o w109w119w129w139w149w159").says(0, 10, 1, 11, 2, 12, 3, 13, 4, 14, 5, 15).is("sure(1, 5)", 54).is("sure(0, 5)", 0);

        Case.test(26, "if all others do what makes it least");
        Case.town("t2 o o w005 u10").says(10, 0, 1).is("sure(0, 0)", 5).is("sure(0, 1)", 5).is("sure(0, 2)", 0);
        Case.town("t1 o o w009").is("sure(0, 3)", 0).is("plays(0, 3, 0)", 9);

        Case.test(26, "if all others do what makes it least. BAD.");
        Case.town("t1 o o").is("sure(1, 5)", 0).refuses(BAD, "sure(0, 6)", "sure(0, -1)", "sure(0, LEAST)", "sure(0, GREATEST)")
            .refuses(BAD, "sure(2, 0)", "sure(-1, 0)", "sure(LEAST, 0)", "sure(GREATEST, 0)");
        Case.town("t1 o o o o o o").is("sure(5, 0)", 0).refuses(BAD, "sure(6, 0)");
        Case.fresh().refuses(BAD, "sure(0, 0)");
    }

    // ---- 27

    private static void fewest() {
        Case.test(27, "The fewest SAYINGS (by anybody; 3 at most) behind which a THING is GRANTED to one and HOLDS");
        Case.town("t1 o o").is("fewest(1, 0, 0)", 2).rowIs(0, 0, 10).says(0).is("fewest(1, 0, 0)", 1).rowIs(0, 10)
            .says(10).is("fewest(1, 0, 0)", 0).rowIs(0).is("fewest(0, 0, 1)", NONE).rowIsMissing(1).is("count(2)", 2);
        Case.town("t5 o o u10u20u31u42").says(0, 10, 1, 11, 2, 12).is("fewest(1, 0, 0)", NONE).rowIsMissing(0)
            .says(3).is("fewest(1, 0, 0)", 3).rowIs(0, 4, 13, 14).says(4).is("fewest(1, 0, 0)", 2).rowIs(0, 13, 14)
            .says(13).is("fewest(1, 0, 0)", 1).rowIs(0, 14).says(14).is("fewest(1, 0, 0)", 0).rowIs(0);

        Case.test(27, "NONE: none.");
        Case.town("t1 o").row(0, 7, 8).is("fewest(0, 0, 0)", NONE).rowIs(0, 7, 8);
        Case.town("t1 l o").is("fewest(0, 0, 0)", NONE).is("fewest(1, 0, 0)", 2).rowIs(0, 0, 10);
        Case.town("t1 o l").is("fewest(0, 0, 0)", 2).rowIs(0, 0, 10).is("fewest(1, 0, 1)", NONE);
        Case.town("t1 k").is("fewest(0, 0, 0)", 2).rowIs(0, 0, 0);
        Case.town("t1 l l").is("fewest(0, 0, 0)", 2).rowIs(0, 0, 10).is("fewest(1, 0, 0)", 2).rowIs(0, 10, 0);
    }

    private static void fewestRow() {
        Case.test(27, "the first such row (by numbers) comes to a ROW (anew): how many.");
        Case.town("t6 o o o o o o").is("fewest(5, 5, 5)", 2).rowIs(5, 5, 55).is("fewest(0, 0, 5)", 2).rowIs(5, 10, 0);
        Case.town("t2 o o l u01u10").row(0, new int[40]).is("fewest(0, 1, 0)", 2).rowIs(0, 1, 21);

        Case.test(27, "NONE: none. BAD.");
        Case.town("t1 o k").row(0, 7).refuses(BAD, "fewest(2, 0, 0)", "fewest(-1, 0, 0)", "fewest(0, 1, 0)", "fewest(0, -1, 0)")
            .refuses(BAD, "fewest(0, 0, -1)", "fewest(0, 0, 6)", "fewest(LEAST, 0, 0)", "fewest(0, GREATEST, 0)", "fewest(0, 0, GREATEST)")
            .is("fewest(1, 0, 0)", 2).rowIs(0, 0, 10);
        Case.fresh().refuses(BAD, "fewest(0, 0, 0)");
    }

    // ---- 28

    private static void match() {
        Case.test(28, "THINGS that are not GRANTED given to PEOPLE, one to each at most, so that most WORTH comes together");
        Case.town("t1 o o w004w105").is("match(0)", 5).rowIs(0, NONE, 0).says(0).is("match(0)", 5).says(10).is("match(0)", 0).rowIs(0, NONE, NONE);
        Case.town("t6 o w009w058").is("match(0)", 9).rowIs(0, 0);
        Case.town("t2 o o w009w018w109").is("match(0)", 17).rowIs(0, 1, 0);
        Case.town("t2 o o w019w119").is("match(0)", 9).rowIs(0, 0, 1);
        Case.town("t2 o o o w009w119w219").is("match(0)", 18).text(0, "t2 o   w011").does("town(0)").is("match(0)", 1).rowIs(0, 1);
        Case all = Case.town("t6 o o o o o o");
        for (int place = 0; place < 36; place++) {
            all.does("want(" + place / 6 + ", " + place % 6 + ", 9)");
        }
        all.is("match(5)", 54).rowIs(5, 0, 1, 2, 3, 4, 5);

        Case.test(28, "(each one's that of that THING; UNDOINGS aside)");
        Case.town("t2 o o w005w116 u01u10").is("match(0)", 11).rowIs(0, 0, 1);
    }

    private static void matchAlike() {
        Case.test(28, "of alike ways the first by PEOPLE, NONE behind all THINGS");
        Case.town("t1 o").is("match(0)", 0).rowIs(0, 0);
        Case.town("t1 o o").is("match(0)", 0).rowIs(0, 0, NONE);
        Case.town("t2 o o o w104w204").is("match(0)", 4).rowIs(0, 1, 0, NONE);
        Case.town("t3 o w015w025").is("match(0)", 5).rowIs(0, 1);

        Case.test(28, "comes to a ROW (anew;");
        Case.town("t1 o").row(0, new int[40]).is("match(0)", 0).rowIs(0, 0).is("match(5)", 0).rowIs(5, 0);

        Case.test(28, "all WORTH. BAD; STATE: no PEOPLE.");
        Case.fresh().row(0, 7).refuses(STATE, "match(0)", "match(5)").refuses(BAD, "match(-1)", "match(6)", "match(LEAST)", "match(GREATEST)")
            .rowIs(0, 7);
        Case.town("t1 o").refuses(BAD, "match(-1)", "match(6)").is("match(0)", 0);
    }

    // ---- 29

    private static void safe() {
        Case.test(29, "THINGS that nobody SAID yet which one can say before another one, who HEARS that one and wants it");
        Case.town("t6 o1 o w101w111w121w131w141w159").is("safe(0, 1)", 63).is("safe(1, 0)", 0).says(5).is("safe(0, 1)", 31)
            .says(10, 0).is("safe(0, 1)", 30).does("want(1, 1, 0)").is("safe(0, 1)", 28).does("tell(0, 1, 0)").is("safe(0, 1)", 0);
        Case.town("t1 o1 o").is("safe(0, 1)", 0).does("want(1, 0, 1)").is("safe(0, 1)", 1);
        Case.town("t1 m1 o w101").is("safe(0, 1)", 0);

        Case.test(29, "so that nobody else who HEARS that one wants it (bits)");
        Case.town("t1 o12 o o w101w201").is("safe(0, 1)", 0).does("want(2, 0, 0)").is("safe(0, 1)", 1)
            .does("want(2, 0, 1)", "tell(0, 2, 0)").is("safe(0, 1)", 1).does("want(0, 0, 9)").is("safe(0, 1)", 1);
        Case.town("t1 o o o01 o w001w101w301").is("safe(2, 1)", 0).is("safe(2, 0)", 0).does("want(0, 0, 0)").is("safe(2, 1)", 1).is("safe(2, 0)", 0);
    }

    private static void safeRefused() {
        Case.test(29, "BAD: also oneself.");
        Case.town("t1 o1 o0 w001w101").is("safe(0, 1)", 1).is("safe(1, 0)", 1).refuses(BAD, "safe(0, 0)", "safe(1, 1)")
            .refuses(BAD, "safe(2, 0)", "safe(0, 2)", "safe(-1, 0)", "safe(0, -1)", "safe(LEAST, 0)", "safe(0, GREATEST)");
        Case.town("t1 o o o o o o").is("safe(5, 0)", 0).is("safe(0, 5)", 0).refuses(BAD, "safe(6, 0)", "safe(0, 6)", "safe(5, 5)");
        Case.town("t1 o").refuses(BAD, "safe(0, 0)", "safe(0, 1)");
        Case.fresh().refuses(BAD, "safe(0, 1)", "safe(0, 0)");
    }

    // ---- 30

    private static void price() {
        Case.test(30, "the greatest WORTH that it has for another one than its FIRST (who HEARD OF it or not); who by asked() (the first).");
        Case.town("t6 o o o o o o w059w151w251").says(5).tells("price(5)", 1, 1).does("want(2, 5, 2)").tells("price(5)", 2, 2)
            .does("want(5, 5, 9)", "want(4, 5, 9)").tells("price(5)", 9, 4);
        Case.town("t1 c o o w107w207").says(0).tells("price(0)", 7, 1);
        Case.town("t1 o o w001").says(10).tells("price(0)", 1, 0);

        Case.test(30, "or nobody else wants it. BAD.");
        Case.town("t1 o o w109").says(0).tells("price(0)", 9, 1).refuses(BAD, "price(1)", "price(-1)", "price(LEAST)", "price(GREATEST)");
        Case.town("t6 o").is("price(5)", NONE).refuses(BAD, "price(6)");
        Case.fresh().refuses(BAD, "price(0)");
    }

    private static void priceNone() {
        Case.test(30, "NONE: it has no FIRST, is GRANTED, or nobody else wants it.");
        Case.town("t1 o o w009w109").is("price(0)", NONE).says(0).is("price(0)", 9).says(10).is("price(0)", NONE);
        Case.town("t1 o o w009").says(0).is("price(0)", NONE).does("want(1, 0, 1)").is("price(0)", 1).does("want(1, 0, 0)").is("price(0)", NONE);
        Case.town("t1 k w009").says(0).is("price(0)", NONE);

        Case.test(37, "that was not refused (nor NONE, but as told) told");
        Case.town("t1 o o w009").row(0, 44).does("at(0, 0)").tells("price(0)", NONE, 44).says(0).does("at(0, 0)").tells("price(0)", NONE, 44)
            .says(10).does("at(0, 0)").tells("price(0)", NONE, 44);
    }

    // ---- 31

    private static void rounds() {
        Case.test(31, "THINGS that are in none by asked() (bits)");
        Case.fresh().tells("rounds()", 0, 0);
        Case.town("t1 o").tells("rounds()", 0, 1);
        Case.town("t6 o").tells("rounds()", 0, 63);
        Case.town("t6 o u45u54").tells("rounds()", 1, 15).text(0, "t6 o").does("town(0)").tells("rounds()", 0, 63);
        Case.town("t6 o u01u12u32u45u53u34").tells("rounds()", 1, 7);

        Case.test(31, "rows of unlike THINGS each of which undoes the next one, the last one the first one (told from the least one on)");
        Case.town("t2 o u01").tells("rounds()", 0, 3);
        Case.town("t2 o u01u10").tells("rounds()", 1, 0);
        Case.town("t2 o u01u10u01u10").tells("rounds()", 1, 0);
        Case.town("t3 o u01u10u12u21").tells("rounds()", 2, 0);
        Case.town("t3 o u01u12u02u20").tells("rounds()", 2, 0);
        Case.town("t3 o u01u10u12u21u02u20").tells("rounds()", 5, 0);
        Case.town("t6 o u01u10u23u32u45u54").tells("rounds()", 3, 0);
        Case.town("t6 o u01u12u23u34u45u50").tells("rounds()", 1, 0);
        Case.town("t6 o u05u54u43u32u21u10").tells("rounds()", 1, 0);
    }
}
