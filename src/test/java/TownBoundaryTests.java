/** Promises 12 to 23: each sentence that names a boundary case. */
public final class TownBoundaryTests {
    private static final int BAD = Case.BAD, FULL = Case.FULL, STATE = Case.STATE, NONE = Case.NONE;
    private static final int NOTHING = Case.NOTHING, UNLIKE = Case.UNLIKE;

    public static void main(String[] args) {
        one();
        oneRefused();
        thing();
        thingRefused();
        markKinds();
        markNumbers();
        want();
        tell();
        saying();
        say();
        undo();
        undoRefused();
        can();
        knows();
        dusk();
        keep();
        on();
        onWhole();
        Case.end(12, 23);
    }

    /** All six THINGS SAID by one, then by another one each. */
    private static int[] allSaidBy(int x, int y) {
        int[] sayings = new int[12];
        for (int w = 0; w < 6; w++) {
            sayings[2 * w] = 10 * x + w;
            sayings[2 * w + 1] = 10 * y + w;
        }
        return sayings;
    }

    private static int[] allFirstBy(int x) {
        return new int[] {10 * x, 10 * x + 1, 10 * x + 2, 10 * x + 3, 10 * x + 4, 10 * x + 5};
    }

    // ---- 12

    private static void one() {
        Case.test(12, "0 the KIND, 1 who HEARS that one (bits), 2 THINGS that one HEARD OF (bits), 3 what one HAS (bits), 4 the GAIN, "
            + "told by asked(): 1.");
        Case.town("t1o").tells("one(0, 0)", 1, 0).tells("one(0, 1)", 1, 0).tells("one(0, 2)", 1, 0).tells("one(0, 3)", 1, 0)
            .tells("one(0, 4)", 1, 0);
        Case.town("t6 c o o o o k w519w529w539w549w559").does("want(5, 0, 9)").says(allSaidBy(0, 5))
            .tells("one(0, 1)", 1, 62).tells("one(5, 0)", 1, 5).tells("one(5, 2)", 1, 63).tells("one(5, 3)", 1, 63)
            .tells("one(5, 4)", 1, 54).tells("one(0, 2)", 1, 0).tells("one(0, 3)", 1, 0);
        Case.town("t6 c o o o o o").says(5).tells("one(5, 2)", 1, 32).tells("one(1, 2)", 1, 32).says(55).tells("one(5, 3)", 1, 32);

        Case.test(12, "of those that HOLD alone");
        Case.town("t2oo w105w114 u10").says(0, 10).tells("one(1, 4)", 1, 5).says(1, 11).tells("one(1, 3)", 1, 3).tells("one(1, 4)", 1, 4);
    }

    private static void oneRefused() {
        Case.test(12, "told by asked(): 1. BAD.");
        Case.fresh().refuses(BAD, "one(0, 0)", "one(-1, 0)");
        Case.town("t1o").tells("one(0, 0)", 1, 0).refuses(BAD, "one(1, 0)", "one(-1, 0)", "one(LEAST, 0)", "one(GREATEST, 0)");
        Case.town("t1 o o o o o k").tells("one(5, 0)", 1, 5).refuses(BAD, "one(6, 0)", "one(6, 4)");
        Case.town("t1 k").tells("one(0, 0)", 1, 5).tells("one(0, 4)", 1, 0).refuses(BAD, "one(0, -1)", "one(0, 5)", "one(0, LEAST)", "one(0, GREATEST)");
    }

    // ---- 13

    private static void thing() {
        Case.test(13, "0 its FIRST (NONE), 1 to whom it is GRANTED (NONE), 2 which THINGS it undoes (bits), 3 whether it HOLDS (1, 0), "
            + "told by asked(): 1.");
        Case.town("t6 o o o o o o u51u52u53u54u50").tells("thing(5, 0)", 1, NONE).tells("thing(5, 1)", 1, NONE).tells("thing(5, 2)", 1, 31)
            .tells("thing(5, 3)", 1, 0).tells("thing(0, 2)", 1, 0)
            .says(0).tells("thing(0, 0)", 1, 0).tells("thing(0, 1)", 1, NONE).tells("thing(0, 3)", 1, 0)
            .says(50).tells("thing(0, 0)", 1, 0).tells("thing(0, 1)", 1, 5).tells("thing(0, 3)", 1, 1)
            .says(55, 5).tells("thing(5, 0)", 1, 5).tells("thing(5, 1)", 1, 0).tells("thing(5, 3)", 1, 1).tells("thing(0, 3)", 1, 0)
            .tells("thing(0, 1)", 1, 5);
    }

    private static void thingRefused() {
        Case.test(13, "told by asked(): 1. BAD.");
        Case.fresh().refuses(BAD, "thing(0, 0)", "thing(-1, 0)");
        Case.town("t1oo").tells("thing(0, 0)", 1, NONE).refuses(BAD, "thing(1, 0)", "thing(-1, 0)", "thing(LEAST, 0)", "thing(GREATEST, 0)");
        Case.town("t6o").tells("thing(5, 3)", 1, 0).refuses(BAD, "thing(6, 0)", "thing(6, 3)");
        Case.town("t2o u01").tells("thing(0, 0)", 1, NONE).tells("thing(0, 3)", 1, 0)
            .refuses(BAD, "thing(0, -1)", "thing(0, 4)", "thing(0, LEAST)", "thing(0, GREATEST)");
    }

    // ---- 14

    private static void markKinds() {
        Case.test(14, "BAD: also KIND 0");
        Case.town("t1 m k").refuses(BAD, "mark(0, 0)", "mark(0, -1)", "mark(0, 6)", "mark(0, LEAST)", "mark(0, GREATEST)")
            .is("mark(0, 1)", 0).is("mark(1, 5)", 0).refuses(BAD, "mark(2, 1)", "mark(-1, 1)", "mark(LEAST, 1)", "mark(GREATEST, 1)");
        Case.town("t1 o o o o o k").is("mark(5, 1)", 0).refuses(BAD, "mark(6, 1)", "mark(6, 0)");
        Case.fresh().refuses(BAD, "mark(0, 1)", "mark(0, 0)");

        Case.test(14, "UNLIKE.");
        int[] parents = {0, 0, 0, 0, 2, 1};
        for (int x = 0; x < 6; x++) {
            for (int kind = 1; kind <= 5; kind++) {
                Case town = Case.town("t1 o m c b l k");
                String call = "mark(" + x + ", " + kind + ")";
                if (kind == x || kind == parents[x]) {
                    town.is(call, kind == 3 ? 3 : 0);
                } else {
                    town.finds(UNLIKE, call);
                }
            }
        }
    }

    private static void markNumbers() {
        Case.test(14, "a MISER (BROKER, too) of how many THINGS that one is the FIRST");
        Case.town("t6 m k").is("mark(0, 1)", 0).says(10).is("mark(0, 1)", 0).says(0).is("mark(0, 1)", 0).is("mark(1, 1)", 1);
        Case.town("t6 m k").says(allSaidBy(0, 1)).is("mark(0, 1)", 6).is("mark(1, 1)", 0);
        Case.town("t6 m k").says(allFirstBy(1)).is("mark(1, 1)", 6);

        Case.test(14, "a CHILD (LOVER, too) how many SAYINGS that one did");
        Case.town("t1 c l").is("mark(0, 2)", 0).says(Case.filled(40, 0)).is("mark(0, 2)", 40).is("mark(1, 2)", 0).does("undo(1)").is("mark(0, 2)", 1);
        Case.town("t1 c l").says(Case.filled(40, 10)).is("mark(1, 2)", 40).is("mark(0, 2)", 0);

        Case.test(14, "a BAKER how many others that one HEARS");
        Case.town("t1 b m m k").is("mark(0, 3)", 0);
        Case.town("t1 b").is("mark(0, 3)", 0);
        Case.town("t1 b o b c0 l o0").is("mark(0, 3)", 5).is("mark(2, 3)", 5);

        Case.test(14, "a LOVER how many THINGS that one gave (GRANTED to the FIRST by that one's word)");
        Case.town("t1 l o").says(0, 10).is("mark(0, 4)", 0);
        Case.town("t1 o l").says(0).is("mark(1, 4)", 0).says(10).is("mark(1, 4)", 1).says(10).is("mark(1, 4)", 1);
        Case.town("t6 o l l u10").says(allSaidBy(0, 1)).is("mark(1, 4)", 6).is("mark(2, 4)", 0);

        Case.test(14, "a BROKER how many THINGS that one is the FIRST of, and HAS");
        Case.town("t1 k o").says(0, 10).is("mark(0, 5)", 0);
        Case.town("t1 k o").says(10, 0).is("mark(0, 5)", 0);
        Case.town("t1 k l").says(0, 10).is("mark(0, 5)", 1);
        Case.town("t6 k u10").says(allSaidBy(0, 0)).is("mark(0, 5)", 6);
    }

    // ---- 15, 16

    private static void want() {
        Case.test(15, "v (0 .. 9; 0: not wanted): what it was. BAD.");
        Case.town("t1o").is("want(0, 0, 9)", 0).is("want(0, 0, 0)", 9).is("want(0, 0, 1)", 0)
            .refuses(BAD, "want(0, 0, -1)", "want(0, 0, 10)", "want(0, 0, LEAST)", "want(0, 0, GREATEST)").is("want(0, 0, 0)", 1);
        Case.town("t6oooooo").is("want(5, 5, 9)", 0).is("want(5, 5, 9)", 9)
            .refuses(BAD, "want(6, 5, 1)", "want(5, 6, 1)", "want(-1, 0, 1)", "want(0, -1, 1)");
        Case.town("t2o").is("want(0, 1, 3)", 0).refuses(BAD, "want(1, 0, 1)", "want(0, 2, 1)", "want(GREATEST, 0, 1)", "want(0, LEAST, 1)");
        Case.fresh().refuses(BAD, "want(0, 0, 1)");
        Case.town("t1 c o w109").says(0).is("knows(1)", 1).is("want(1, 0, 0)", 9).is("knows(1)", 0);
    }

    private static void tell() {
        Case.test(16, "Another one is told to hear one (1), or not (0): what it was told.");
        Case.town("t1 o o").is("tell(0, 1, 0)", 0).is("tell(0, 1, 1)", 0).is("tell(0, 1, 1)", 1).tells("one(0, 1)", 1, 2)
            .tells("one(1, 1)", 1, 0).is("tell(0, 1, 0)", 1).is("tell(0, 1, 0)", 0).tells("one(0, 1)", 1, 0)
            .refuses(BAD, "tell(0, 1, -1)", "tell(0, 1, 2)", "tell(0, 1, LEAST)", "tell(0, 1, GREATEST)");
        Case.town("t1 m c b").is("tell(0, 2, 0)", 0).is("tell(1, 0, 0)", 0).tells("one(1, 1)", 1, 5).is("tell(0, 1, 1)", 0).tells("one(0, 1)", 1, 0);

        Case.test(16, "BAD: also oneself.");
        Case.town("t1 o01 o").refuses(BAD, "tell(0, 0, 0)", "tell(0, 0, 1)", "tell(1, 1, 1)").is("tell(1, 0, 1)", 0);
        Case.town("t1 o o o o o o").is("tell(5, 0, 1)", 0).is("tell(0, 5, 1)", 0).refuses(BAD, "tell(6, 0, 1)", "tell(0, 6, 1)", "tell(5, 5, 1)");
        Case.town("t1 o o").refuses(BAD, "tell(2, 0, 1)", "tell(0, 2, 1)", "tell(-1, 0, 1)", "tell(0, -1, 1)", "tell(LEAST, 0, 1)", "tell(0, GREATEST, 1)");
        Case.town("t1 o").refuses(BAD, "tell(0, 0, 1)", "tell(0, 1, 1)");
        Case.fresh().refuses(BAD, "tell(0, 1, 1)");
    }

    // ---- 17

    private static void saying() {
        Case.test(17, "If nobody SAID it yet, that one is the FIRST of it, and it is HEARD OF by who HEARS that one.");
        Case.town("t2 o1 o o").tells("say(0, 0)", 0, NONE).tells("thing(0, 0)", 1, 0).tells("one(1, 2)", 1, 1).tells("one(2, 2)", 1, 0)
            .tells("one(0, 2)", 1, 0).does("tell(0, 2, 1)", "tell(0, 1, 0)").tells("one(1, 2)", 1, 1).tells("one(2, 2)", 1, 0);
        Case.town("t1 o c o").says(0, 10).tells("one(2, 2)", 1, 0).tells("one(0, 2)", 1, 0);

        Case.test(17, "who SAYS it is another one (a BROKER: perhaps the same)");
        Case.town("t1 o o").says(0).tells("say(0, 0)", 0, NONE).tells("say(1, 0)", 1, 1);
        Case.town("t1 m o").says(0).tells("say(0, 0)", 0, NONE);
        Case.town("t1 k o").says(0).tells("say(0, 0)", 1, 0);
        Case.town("t1 k o").says(10).tells("say(0, 0)", 1, 0);

        Case.test(17, "to who SAYS it; if that one is a LOVER, to the FIRST");
        Case.town("t1 o c").says(0).tells("say(1, 0)", 1, 1);
        Case.town("t1 o l").says(0).tells("say(1, 0)", 1, 0);
        Case.town("t1 o l").says(10).tells("say(1, 0)", 0, NONE).tells("say(0, 0)", 1, 0);
        Case.town("t1 l l").says(0).tells("say(1, 0)", 1, 0);

        Case.test(17, "Else nothing comes of it.");
        Case.town("t2 o o k l").says(0, 10).tells("say(0, 0)", 0, 1).tells("say(1, 0)", 0, 1).tells("say(2, 0)", 0, 1).tells("say(3, 0)", 0, 1)
            .tells("thing(0, 0)", 1, 0).tells("thing(0, 1)", 1, 1).is("count(2)", 6).is("count(3)", 1).is("mark(3, 4)", 0);
    }

    private static void say() {
        Case.test(17, "1, if it is GRANTED by that, else 0; to whom it is GRANTED then by asked() (NONE).");
        Case.town("t6 o o o o o l").tells("say(5, 5)", 0, NONE).tells("say(5, 5)", 0, NONE).tells("say(4, 5)", 1, 4).tells("say(0, 5)", 0, 4)
            .tells("say(0, 0)", 0, NONE).tells("say(5, 0)", 1, 0).tells("say(5, 0)", 0, 0);

        Case.test(17, "BAD; FULL: 40 SAYINGS.");
        Case.town("t1 o k").says(Case.filled(40, 0)).is("count(2)", 40).refuses(FULL, "say(0, 0)", "say(1, 0)").refuses(BAD, "say(2, 0)", "say(0, 1)")
            .does("undo(39)").tells("say(1, 0)", 1, 1).refuses(FULL, "say(0, 0)");
        Case.town("t1 o").tells("say(0, 0)", 0, NONE).refuses(BAD, "say(1, 0)", "say(-1, 0)", "say(0, 1)", "say(0, -1)")
            .refuses(BAD, "say(LEAST, 0)", "say(0, LEAST)", "say(GREATEST, 0)", "say(0, GREATEST)");
        Case.town("t6 oooooo").tells("say(5, 5)", 0, NONE).refuses(BAD, "say(6, 5)", "say(5, 6)", "say(0, 9)");
        Case.fresh().refuses(BAD, "say(0, 0)");
    }

    // ---- 18

    private static void undo() {
        Case.test(18, "SAYINGS from number n on are undone (FIRSTS, what is GRANTED, HEARD OF as ahead of it): how many.");
        Case.town("t2 c o l").says(0, 10, 1, 21).is("undo(4)", 0).is("count(2)", 4)
            .is("undo(3)", 1).tells("thing(1, 1)", 1, NONE).tells("thing(1, 0)", 1, 0).is("mark(2, 4)", 0).is("count(3)", 1)
            .is("undo(1)", 2).tells("thing(1, 0)", 1, NONE).tells("one(1, 2)", 1, 1).tells("thing(0, 1)", 1, NONE).is("count(4)", 1)
            .is("undo(0)", 1).tells("one(1, 2)", 1, 0).tells("thing(0, 0)", 1, NONE).is("count(2)", 0).is("undo(0)", 0);
        Case.town("t1 o o").says(Case.filled(40, 0)).is("undo(40)", 0).is("undo(39)", 1).is("undo(0)", 39).is("count(4)", 0);
        Case.town("t1 o o").says(Case.filled(40, 0)).is("undo(0)", 40).tells("say(1, 0)", 0, NONE).tells("thing(0, 0)", 1, 1);

        Case.test(18, "HEARD OF as ahead of it");
        Case.town("t2 o1 o o").says(0).does("tell(0, 1, 0)", "tell(0, 2, 1)").says(1).tells("one(2, 2)", 1, 2)
            .is("undo(1)", 1).tells("one(1, 2)", 1, 1).tells("one(2, 2)", 1, 0);

        Case.test(18, "unless one that was GRANTED later, and HOLDS, undoes it");
        Case.town("t2 o o u01u10").says(0, 1, 10, 11).is("dusk()", 2).is("undo(3)", 1).is("dusk()", 1)
            .is("undo(2)", 1).says(11, 10).is("dusk()", 1);
    }

    private static void undoRefused() {
        Case.test(18, "how many. BAD.");
        Case.fresh().is("undo(0)", 0).refuses(BAD, "undo(-1)", "undo(1)", "undo(LEAST)", "undo(GREATEST)");
        Case.town("t2 c l").says(0, 10, 1).refuses(BAD, "undo(4)", "undo(-1)", "undo(40)").is("undo(3)", 0).is("undo(0)", 3);
        Case.town("t1 o").says(Case.filled(40, 0)).refuses(BAD, "undo(41)").is("undo(40)", 0);
    }

    // ---- 19, 20

    private static void can() {
        Case.test(19, "THINGS that one could say so that they are GRANTED now (bits). BAD.");
        Case.town("t6 o o").is("can(1)", 0).says(allFirstBy(0)).is("can(0)", 0).is("can(1)", 63).says(10).is("can(1)", 62)
            .says(11, 12, 13, 14).is("can(1)", 32).says(15).is("can(1)", 0);
        Case.town("t6 k l").says(allFirstBy(0)).is("can(0)", 63).is("can(1)", 63);
        Case.town("t6 k l").says(allFirstBy(1)).is("can(0)", 63).is("can(1)", 0);
        Case.town("t1 o").is("can(0)", 0).refuses(BAD, "can(1)", "can(-1)", "can(LEAST)", "can(GREATEST)");
        Case.town("t1 oooooo").is("can(5)", 0).refuses(BAD, "can(6)");
        Case.fresh().refuses(BAD, "can(0)");
    }

    private static void knows() {
        Case.test(20, "Of these those that one HEARD OF and wants (bits). BAD.");
        Case.town("t6 c o w101w111w121w131w141w159").is("knows(1)", 0).says(allFirstBy(0)).is("knows(1)", 63).is("knows(0)", 0)
            .does("want(1, 0, 0)").is("knows(1)", 62).says(15).is("knows(1)", 30);
        Case.town("t1 o o w109").says(0).is("can(1)", 1).is("knows(1)", 0);
        Case.town("t1 k w009").says(0).is("can(0)", 1).is("knows(0)", 0);
        Case.town("t1 c c o w109").says(0, 20).is("knows(1)", 0);
        Case.town("t1 o").is("knows(0)", 0).refuses(BAD, "knows(1)", "knows(-1)", "knows(LEAST)", "knows(GREATEST)");
        Case.town("t1 oooooo").is("knows(5)", 0).refuses(BAD, "knows(6)");
        Case.fresh().refuses(BAD, "knows(0)");
    }

    // ---- 21

    private static void dusk() {
        Case.test(21, "THINGS that HOLD at DUSK, as it is (bits); all GAINS together by asked().");
        Case.fresh().tells("dusk()", 0, 0);
        Case.town("t6 o o w009").tells("dusk()", 0, 0).says(0).tells("dusk()", 0, 0);
        Case.town("t6 o o w109w119w129w139w149w159").says(allSaidBy(0, 1)).tells("dusk()", 63, 54);
        Case.town("t2 o o w009w109w018w118").says(0, 10, 11, 1).tells("dusk()", 3, 17);

        Case.test(21, "At DUSK a THING that is GRANTED HOLDS, unless one that was GRANTED later, and HOLDS, undoes it.");
        Case.town("t2 o o w109w118 u01").says(0, 10, 1, 11).tells("dusk()", 3, 17);
        Case.town("t2 o o w109w118 u01").says(0, 1, 11, 10).tells("dusk()", 1, 9);
        Case.town("t2 o o w109w118 u10").says(0, 10, 1).tells("dusk()", 1, 9).says(11).tells("dusk()", 2, 8);
        Case.town("t3 o o w101w112w124 u10u21").says(0, 10, 1, 11, 2, 12).tells("dusk()", 5, 5);
        Case.town("t2 o o w109w118 u01u10").says(0, 1, 10, 11).tells("dusk()", 2, 8);
        Case.town("t2 o o w109w118 u01u10").says(0, 1, 11, 10).tells("dusk()", 1, 9);
        Case.town("t6 o o w101w111w121w131w141w151 u10u21u32u43u54").says(allSaidBy(0, 1)).tells("dusk()", 42, 3);
    }

    // ---- 22, 23

    private static void keep() {
        Case.test(22, "is kept in a place (0 .. 2): how many SAYINGS.");
        Case.town("t1 o o").is("keep(0)", 0).is("count(8)", 1).says(0).is("keep(2)", 1).is("count(8)", 2).is("keep(1)", 1).is("count(8)", 3)
            .refuses(BAD, "keep(-1)", "keep(3)", "keep(LEAST)", "keep(GREATEST)").is("on(0)", 0).is("on(2)", 1);
        Case.town("t1 o o").is("keep(1)", 0).says(0, 10).is("keep(1)", 2).is("count(8)", 1).does("undo(0)").is("on(1)", 2);
        Case.town("t1 o o").says(Case.filled(40, 0)).is("keep(0)", 40).does("undo(0)").is("on(0)", 40).refuses(FULL, "say(0, 0)").is("undo(0)", 40);

        Case.test(22, "BAD; STATE: no PEOPLE.");
        Case.fresh().refuses(STATE, "keep(0)", "keep(2)").refuses(BAD, "keep(3)", "keep(-1)").is("count(8)", 0)
            .text(0, "t1o").does("town(0)").is("keep(0)", 0);
    }

    private static void on() {
        Case.test(23, "The TOWN is as it was kept: how many SAYINGS.");
        Case.town("t1 o o").does("keep(2)").is("on(2)", 0).says(0).does("keep(0)").says(10).is("on(0)", 1).tells("thing(0, 1)", 1, NONE)
            .says(10).is("on(0)", 1).is("on(2)", 0).tells("thing(0, 0)", 1, NONE).is("on(0)", 1).tells("thing(0, 0)", 1, 0).is("count(8)", 2);

        Case.test(23, "BAD; NOTHING.");
        Case.town("t2 c l").says(0, 10).does("keep(1)").finds(NOTHING, "on(0)", "on(2)").refuses(BAD, "on(-1)", "on(3)", "on(LEAST)", "on(GREATEST)")
            .is("on(1)", 2);
        Case.fresh().finds(NOTHING, "on(0)", "on(1)", "on(2)").refuses(BAD, "on(3)", "on(-1)");
    }

    private static void onWhole() {
        Case.test(23, "The TOWN is as it was kept");
        Case town = Case.town("t3 c o l w107 u01u10").says(0, 1, 11, 20, 2).does("keep(0)", "want(1, 0, 3)", "undo(0)");
        town.says(12, 2, 10, 0).is("on(0)", 5).is("count(2)", 5).is("count(3)", 2).is("count(4)", 1).is("want(1, 0, 7)", 7)
            .tells("thing(0, 1)", 1, 0).tells("thing(1, 1)", 1, 1).tells("thing(2, 0)", 1, 0).tells("one(1, 2)", 1, 7).is("mark(2, 4)", 1)
            .is("dusk()", 1).is("undo(3)", 2).is("dusk()", 2).is("mark(2, 4)", 0)
            .is("undo(2)", 1).tells("thing(1, 0)", 1, 0).tells("thing(1, 1)", 1, NONE).is("undo(1)", 1).tells("one(1, 2)", 1, 1);

        Case.test(22, "The TOWN (what was SAID, FIRSTS, what is GRANTED, HEARD OF, WORTHS) is kept");
        Case.town("t1 o o").does("keep(0)", "tell(0, 1, 1)").is("on(0)", 0).is("tell(0, 1, 0)", 1);
        Case.town("t1 o o").row(0, 5).does("keep(0)").row(0, 6).does("row(1, 1)", "text(0, 2)").is("on(0)", 0).rowIs(0, 6).rowIs(1, 0).is("put(0, 0, 1)", 1032);
    }
}
