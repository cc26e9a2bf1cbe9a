import java.util.function.LongSupplier;

/** For each promise of the document: ordinary inputs, the edges that it names, and wrong inputs. */
public final class PromiseTests {
    private static final int BAD = -1, FULL = -2, FINDING = -3, STATE = -4, NONE = -9;
    private static final int NOTHING = 1, BEYOND = 2, UNLIKE = 3, NOUGHT = 4, SIZE = 5;
    private static final int LEAST = Integer.MIN_VALUE, GREATEST = Integer.MAX_VALUE;
    /** ONE heard by 1, 2 (and the BAKER); MISER; CHILD; BAKER; LOVER; BROKER. */
    private static final String SIX = "t4 o12 m03 c b l5 k0 w005w013w107w122w209w314w426w515w533 u01u12u20u31";

    private static int wrong = 0;
    private static int promise = 0;

    public static void main(String[] args) {
        newObject();
        rowsAndTexts();
        faults();
        towns();
        people();
        sayings();
        keeping();
        thinking();
        giving();
        pasts();
        chances();
        told();
        System.out.println(wrong == 0 ? "all promises hold" : wrong + " answers are not as due");
        if (wrong != 0) {
            System.exit(1);
        }
    }

    // ---- helpers

    private static void due(String what, long got, long want) {
        if (got != want) {
            wrong++;
            System.out.println("promise " + promise + ": " + what + " answered " + got + ", due is " + want);
        }
    }

    /** The call answers want, and asked() tells told then. */
    private static void asks(SecondWish s, String what, LongSupplier call, long want, int told) {
        due(what, call.getAsLong(), want);
        due(what + " asked()", s.asked(), told);
    }

    /** The call is refused so; the BoundaryTests look further whether nothing has changed. */
    private static void refused(SecondWish s, String what, LongSupplier call, int want, int finding) {
        int due = finding == 0 ? s.finding() : finding;
        long digest = s.digest();
        due(what, call.getAsLong(), want);
        due(what + " finding()", s.finding(), due);
        due(what + " digest()", s.digest(), digest);
    }

    private static void bad(SecondWish s, String what, LongSupplier call) {
        refused(s, what, call, BAD, 0);
    }

    private static void finds(SecondWish s, String what, LongSupplier call, int finding) {
        refused(s, what, call, FINDING, finding);
    }

    private static SecondWish write(SecondWish s, int t, String text) {
        due("text", s.text(t, text.length()), text.length());
        for (int i = 0; i < text.length(); i++) {
            due("put", s.put(t, i, text.charAt(i)), 1032);
        }
        return s;
    }

    private static SecondWish make(String text) {
        SecondWish s = write(new SecondWish(), 0, text);
        if (s.town(0) < 1) {
            wrong++;
            System.out.println("promise " + promise + ": no town by " + text + ", fault " + s.fault(0));
        }
        return s;
    }

    private static SecondWish lay(SecondWish s, int r, int... values) {
        due("row", s.row(r, values.length), values.length);
        for (int i = 0; i < values.length; i++) {
            due("lay", s.lay(r, i, values[i]), 1);
        }
        return s;
    }

    private static void rowIs(SecondWish s, int r, int... values) {
        for (int i = 0; i < values.length; i++) {
            asks(s, "row " + r + " place " + i, at(s, r, i), 1, values[i]);
        }
        due("row " + r + " has no more places", s.at(r, values.length), FINDING);
    }

    private static LongSupplier at(SecondWish s, int r, int i) {
        return () -> s.at(r, i);
    }

    private static void saysAll(SecondWish s, int... sayings) {
        for (int saying : sayings) {
            s.say(saying / 10, saying % 10);
        }
    }

    // ---- 1

    private static void newObject() {
        promise = 1;
        SecondWish s = new SecondWish();
        for (int what = 0; what <= 8; what++) {
            due("count(" + what + ")", s.count(what), 0);
        }
        for (int r = 0; r < 6; r++) {
            due("tear", s.tear(r), FINDING);
        }
        due("findings(1)", s.findings(1), 6);
        for (int t = 0; t < 4; t++) {
            due("fault", s.fault(t), FINDING);
        }
        due("findings(1)", s.findings(1), 10);
        due("one", s.one(0, 0), BAD);
        due("thing", s.thing(0, 0), BAD);
        due("on", s.on(0), FINDING);
    }

    // ---- 2 to 9

    private static void rowsAndTexts() {
        SecondWish s = new SecondWish();
        promise = 2;
        due("row(0, 40)", s.row(0, 40), 40);
        due("row(5, 0)", s.row(5, 0), 0);
        due("count(6)", s.count(6), 2);
        lay(s, 1, 7, 8, 9);
        due("row(1, 2)", s.row(1, 2), 2);
        rowIs(s, 1, 0, 0);
        bad(s, "row(-1, 1)", () -> s.row(-1, 1));
        bad(s, "row(6, 1)", () -> s.row(6, 1));
        bad(s, "row(0, 41)", () -> s.row(0, 41));
        bad(s, "row(6, -1)", () -> s.row(6, -1));
        finds(s, "row(0, -1)", () -> s.row(0, -1), SIZE);
        finds(s, "row(0, LEAST)", () -> s.row(0, LEAST), SIZE);

        promise = 3;
        lay(s, 0, 5, -6, GREATEST);
        asks(s, "lay(0, 1, 4)", () -> s.lay(0, 1, 4), 1, -6);
        asks(s, "lay(0, 2, LEAST)", () -> s.lay(0, 2, LEAST), 1, GREATEST);
        rowIs(s, 0, 5, 4, LEAST);
        bad(s, "lay(6, 0, 1)", () -> s.lay(6, 0, 1));
        bad(s, "lay(-1, 0, 1)", () -> s.lay(-1, 0, 1));
        finds(s, "lay(3, 9, 1)", () -> s.lay(3, 9, 1), NOTHING);
        finds(s, "lay(0, 3, 1)", () -> s.lay(0, 3, 1), BEYOND);
        finds(s, "lay(0, -1, 1)", () -> s.lay(0, -1, 1), BEYOND);

        promise = 4;
        asks(s, "at(0, 2)", () -> s.at(0, 2), 1, LEAST);
        bad(s, "at(6, 0)", () -> s.at(6, 0));
        bad(s, "at(-1, 0)", () -> s.at(-1, 0));
        finds(s, "at(3, -1)", () -> s.at(3, -1), NOTHING);
        finds(s, "at(0, 3)", () -> s.at(0, 3), BEYOND);
        finds(s, "at(0, -1)", () -> s.at(0, -1), BEYOND);
        finds(s, "at(5, 0)", () -> s.at(5, 0), BEYOND);

        promise = 5;
        due("tear(5)", s.tear(5), 1);
        finds(s, "tear(5) again", () -> s.tear(5), NOTHING);
        bad(s, "tear(6)", () -> s.tear(6));
        bad(s, "tear(-1)", () -> s.tear(-1));
        due("row(5, 1) behind it", s.row(5, 1), 1);
        rowIs(s, 5, 0);

        copying();
        means();
        writing();
    }

    private static void copying() {
        promise = 6;
        SecondWish s = new SecondWish();
        lay(s, 0, 1, 2, 3, 4, 5);
        lay(s, 1, 9, 8, 7);
        due("copy to another", s.copy(0, 1, 1, 0, 2), 1);
        rowIs(s, 1, 2, 3, 7);
        due("copy up in itself", s.copy(0, 0, 0, 1, 4), 1);
        rowIs(s, 0, 1, 1, 2, 3, 4);
        due("copy down in itself", s.copy(0, 1, 0, 0, 4), 1);
        rowIs(s, 0, 1, 2, 3, 4, 4);
        due("copy nothing at the ends", s.copy(0, 5, 1, 3, 0), 1);
        rowIs(s, 1, 2, 3, 7);
        bad(s, "copy from 6", () -> s.copy(6, 0, 0, 0, -1));
        bad(s, "copy to -1", () -> s.copy(0, 0, -1, 0, -1));
        finds(s, "copy -1 of missing", () -> s.copy(4, 0, 0, 0, -1), SIZE);
        finds(s, "copy from missing", () -> s.copy(4, 9, 0, 0, 1), NOTHING);
        finds(s, "copy to missing", () -> s.copy(0, 9, 4, 0, 1), NOTHING);
        finds(s, "copy from too far", () -> s.copy(0, 3, 1, 0, 3), BEYOND);
        finds(s, "copy to too far", () -> s.copy(0, 0, 1, 2, 2), BEYOND);
        finds(s, "copy from -1", () -> s.copy(0, -1, 1, 0, 1), BEYOND);
        finds(s, "copy to -1 place", () -> s.copy(0, 0, 1, -1, 0), BEYOND);
        finds(s, "copy from behind, none", () -> s.copy(0, 6, 1, 0, 0), BEYOND);
        finds(s, "copy to behind, none", () -> s.copy(0, 0, 1, 4, 0), BEYOND);
        finds(s, "copy with wrap", () -> s.copy(0, GREATEST, 1, GREATEST, GREATEST), BEYOND);
        finds(s, "copy too many", () -> s.copy(0, 1, 1, 1, GREATEST), BEYOND);
    }

    private static void means() {
        promise = 7;
        SecondWish s = new SecondWish();
        lay(s, 0, 1, 2, 5);
        asks(s, "mean", () -> s.mean(0), 1, 2);
        lay(s, 0, -1, -2, -2);
        asks(s, "mean cut", () -> s.mean(0), 1, -1);
        lay(s, 0, GREATEST, GREATEST, GREATEST);
        asks(s, "mean of great ones", () -> s.mean(0), 1, GREATEST);
        lay(s, 0, LEAST, LEAST);
        asks(s, "mean of least ones", () -> s.mean(0), 1, LEAST);
        s.row(1, 0);
        finds(s, "mean of none", () -> s.mean(1), NOUGHT);
        finds(s, "mean of missing", () -> s.mean(2), NOTHING);
        bad(s, "mean(6)", () -> s.mean(6));
        bad(s, "mean(-1)", () -> s.mean(-1));
    }

    private static void writing() {
        promise = 8;
        SecondWish s = new SecondWish();
        due("text(0, 80)", s.text(0, 80), 80);
        due("text(3, 0)", s.text(3, 0), 0);
        due("count(7)", s.count(7), 2);
        due("put(0, 79, 65)", s.put(0, 79, 65), 1032);
        due("text(0, 80) anew", s.text(0, 80), 80);
        due("put(0, 79, 65) anew", s.put(0, 79, 65), 1032);
        bad(s, "text(4, 1)", () -> s.text(4, 1));
        bad(s, "text(-1, 1)", () -> s.text(-1, 1));
        bad(s, "text(0, 81)", () -> s.text(0, 81));
        bad(s, "text(4, -1)", () -> s.text(4, -1));
        finds(s, "text(0, -1)", () -> s.text(0, -1), SIZE);

        promise = 9;
        due("put 65", s.put(0, 79, 300), 1065);
        due("put 300", s.put(0, 79, 200), 1044);
        due("put 200", s.put(0, 79, -1), 944);
        due("put -1", s.put(0, 79, 128), 999);
        due("put 128", s.put(0, 79, 0), 872);
        due("put 0", s.put(0, 79, 1), 1000);
        bad(s, "put(4, 0, 1)", () -> s.put(4, 0, 1));
        bad(s, "put(-1, 0, 1)", () -> s.put(-1, 0, 1));
        finds(s, "put(1, 99, 1)", () -> s.put(1, 99, 1), NOTHING);
        finds(s, "put(0, 80, 1)", () -> s.put(0, 80, 1), BEYOND);
        finds(s, "put(0, -1, 1)", () -> s.put(0, -1, 1), BEYOND);
        finds(s, "put(3, 0, 1)", () -> s.put(3, 0, 1), BEYOND);
    }

    // ---- 10

    private static void faults() {
        promise = 10;
        SecondWish s = new SecondWish();
        bad(s, "fault(4)", () -> s.fault(4));
        bad(s, "fault(-1)", () -> s.fault(-1));
        finds(s, "fault(0)", () -> s.fault(0), NOTHING);
        String[] right = {
            "t1o", "  t6  k  ", "t1 oooooo", "t2o012345 m5", "t1o0", "t1o5 c", "t3o u01u01u01",
            "t3o w001w009", "t6lkbcmo w559 u50", SIX, "t1o" + "w001".repeat(16), "t2o" + "u01".repeat(6),
        };
        for (String text : right) {
            faultIs(text, NONE);
        }
        faultIs("", 0);
        faultIs("    ", 4);
        faultIs("x", 0);
        faultIs("  x", 2);
        faultIs("t", 1);
        faultIs("t 3o", 1);
        faultIs("t0o", 1);
        faultIs("t7o", 1);
        faultIs("t33o", 2);
        faultIs("t3", 2);
        faultIs("t3   ", 5);
        faultIs("t3 w", 3);
        faultIs("t3 u", 3);
        faultIs("t3 t", 3);
        faultIs("t3 o t3", 5);
        faultIs("t3ox", 3);
        faultIs("t3o6", 3);
        faultIs("t3o10", 4);
        faultIs("t3o11", 4);
        faultIs("t3o 1", 4);
        faultIs("t3o0123455", 9);
        faultIs("t3 o o o o o o o", 15);
        faultIs("t3 o o o o o o x", 15);
        faultIs("t3 O", 3);
        faultIs("t3ow", 4);
        faultIs("t3ow ", 4);
        faultIs("t3ow1", 4);
        faultIs("t3ow0", 5);
        faultIs("t3ow03", 5);
        faultIs("t3ow0 0", 5);
        faultIs("t3ow00", 6);
        faultIs("t3ow000", 6);
        faultIs("t3ow00x", 6);
        faultIs("t3ow0011", 7);
        faultIs("t3ow001 o", 8);
        faultIs("t3ou", 4);
        faultIs("t3ou3", 4);
        faultIs("t3ou0", 5);
        faultIs("t3ou00", 5);
        faultIs("t3ou03", 5);
        faultIs("t3ou0 1", 5);
        faultIs("t3ou01w001", 6);
        faultIs("t3ou01 o", 7);
        faultIs("t1ou00", 5);
        faultIs("t1o" + "w001".repeat(17), 3 + 64);
        faultIs("t2o" + "u01".repeat(6) + " u", 3 + 18 + 1);
        write(s, 1, "t1o");
        write(s, 1, "t1ox");
        write(s, 1, "t1o");
        due("nothing is left of a longer text", s.fault(1), NONE);
        s.put(1, 2, 'o' + 256);
        due("a letter cut to a byte", s.fault(1), NONE);
        s.put(1, 2, -9);
        due("a byte below 0", s.fault(1), 2);
    }

    private static void faultIs(String text, int place) {
        due("fault of '" + text + "'", write(new SecondWish(), 2, text).fault(2), place);
    }

    // ---- 11

    private static void towns() {
        promise = 11;
        SecondWish s = new SecondWish();
        bad(s, "town(4)", () -> s.town(4));
        bad(s, "town(-1)", () -> s.town(-1));
        finds(s, "town(0)", () -> s.town(0), NOTHING);
        write(s, 0, SIX);
        due("town(0)", s.town(0), 6);
        due("people", s.count(0), 6);
        due("things", s.count(1), 4);
        saysAll(s, 0, 10, 21);
        s.keep(0);
        s.keep(2);
        write(s, 1, "t3o w");
        refused(s, "town with a fault", () -> s.town(1), STATE, 0);
        due("sayings stay", s.count(2), 3);
        write(s, 3, "t2 b3 c0 ow013w015 u10");
        due("town(3)", s.town(3), 3);
        due("things anew", s.count(1), 2);
        due("nothing said", s.count(2), 0);
        due("nothing granted", s.count(3), 0);
        due("no first", s.count(4), 0);
        due("no kept towns", s.count(8), 0);
        finds(s, "on(0)", () -> s.on(0), NOTHING);
        due("the worth told last", s.want(0, 1, 0), 5);
        due("another worth", s.want(1, 1, 0), 0);
        asks(s, "undoes of 1", () -> s.thing(1, 2), 1, 1);
        asks(s, "undoes of 0", () -> s.thing(0, 2), 1, 0);
        due("texts stay", s.count(7), 3);
    }

    // ---- 12 to 16

    private static void people() {
        SecondWish s = make(SIX);
        promise = 12;
        int[] hearers = {14, 0, 59, 0, 47, 0};
        for (int x = 0; x < 6; x++) {
            int one = x;
            asks(s, "kind of " + x, () -> s.one(one, 0), 1, x);
            asks(s, "hearers of " + x, () -> s.one(one, 1), 1, hearers[x]);
            asks(s, "heard of by " + x, () -> s.one(one, 2), 1, 0);
        }
        saysAll(s, 0, 10, 21, 32);
        asks(s, "1 heard of", () -> s.one(1, 2), 1, 1 | 2);
        asks(s, "4 heard of", () -> s.one(4, 2), 1, 2);
        asks(s, "3 heard of", () -> s.one(3, 2), 1, 1 | 2);
        asks(s, "2 heard of", () -> s.one(2, 2), 1, 1);
        asks(s, "1 has", () -> s.one(1, 3), 1, 1);
        asks(s, "1 gains", () -> s.one(1, 4), 1, 7);
        saysAll(s, 12);
        asks(s, "1 has two, one undoes the other", () -> s.one(1, 3), 1, 5);
        asks(s, "1 gains of what holds alone", () -> s.one(1, 4), 1, 2);
        bad(s, "one(6, 0)", () -> s.one(6, 0));
        bad(s, "one(-1, 0)", () -> s.one(-1, 0));
        bad(s, "one(0, 5)", () -> s.one(0, 5));
        bad(s, "one(0, -1)", () -> s.one(0, -1));
        hearing();

        promise = 13;
        asks(s, "first of 0", () -> s.thing(0, 0), 1, 0);
        asks(s, "first of 3", () -> s.thing(3, 0), 1, NONE);
        asks(s, "owner of 0", () -> s.thing(0, 1), 1, 1);
        asks(s, "owner of 1", () -> s.thing(1, 1), 1, NONE);
        asks(s, "3 undoes", () -> s.thing(3, 2), 1, 2);
        asks(s, "0 holds", () -> s.thing(0, 3), 1, 0);
        asks(s, "2 holds", () -> s.thing(2, 3), 1, 1);
        asks(s, "1 holds", () -> s.thing(1, 3), 1, 0);
        bad(s, "thing(4, 0)", () -> s.thing(4, 0));
        bad(s, "thing(-1, 0)", () -> s.thing(-1, 0));
        bad(s, "thing(0, 4)", () -> s.thing(0, 4));
        bad(s, "thing(0, -1)", () -> s.thing(0, -1));

        marks();
        wantsAndTells();
    }

    private static void hearing() {
        SecondWish s = make("t1 o05 b b3 m0 l o12");
        asks(s, "told to hear oneself", () -> s.one(0, 1), 1, 2 | 4 | 32);
        asks(s, "bakers hear one another", () -> s.one(1, 1), 1, 4);
        asks(s, "a baker who is heard", () -> s.one(2, 1), 1, 2 | 8);
        asks(s, "a miser", () -> s.one(3, 1), 1, 0);
        asks(s, "a lover", () -> s.one(4, 1), 1, 47);
        asks(s, "told bakers", () -> s.one(5, 1), 1, 6);
        SecondWish t = make("t1 o0345 o");
        asks(t, "nobody", () -> t.one(0, 1), 1, 0);
    }

    private static void marks() {
        promise = 14;
        SecondWish s = make(SIX);
        saysAll(s, 10, 11, 51, 52, 52, 21, 40, 43, 40, 33);
        due("miser's firsts", s.mark(1, 1), 2);
        due("broker's firsts", s.mark(5, 1), 1);
        due("child's sayings", s.mark(2, 2), 1);
        due("lover's sayings", s.mark(4, 2), 3);
        due("baker hears", s.mark(3, 3), 3);
        due("lover gave", s.mark(4, 4), 1);
        due("broker's own", s.mark(5, 5), 1);
        finds(s, "one no miser", () -> s.mark(0, 1), UNLIKE);
        finds(s, "child no lover", () -> s.mark(2, 4), UNLIKE);
        finds(s, "miser no broker", () -> s.mark(1, 5), UNLIKE);
        finds(s, "lover no miser", () -> s.mark(4, 1), UNLIKE);
        finds(s, "broker no child", () -> s.mark(5, 2), UNLIKE);
        finds(s, "broker no baker", () -> s.mark(5, 3), UNLIKE);
        bad(s, "mark(0, 0)", () -> s.mark(0, 0));
        bad(s, "mark(0, 6)", () -> s.mark(0, 6));
        bad(s, "mark(0, -1)", () -> s.mark(0, -1));
        bad(s, "mark(6, 1)", () -> s.mark(6, 1));
        bad(s, "mark(-1, 1)", () -> s.mark(-1, 1));
        SecondWish t = make("t2 k l b");
        saysAll(t, 0, 10, 1, 21);
        due("broker who was given", t.mark(0, 5), 1);
        due("broker's firsts, granted or not", t.mark(0, 1), 2);
        due("baker hears lovers", t.mark(2, 3), 1);
    }

    private static void wantsAndTells() {
        promise = 15;
        SecondWish s = make(SIX);
        due("want(0, 0, 9)", s.want(0, 0, 9), 5);
        due("want(0, 0, 0)", s.want(0, 0, 0), 9);
        due("want(0, 0, 1)", s.want(0, 0, 1), 0);
        bad(s, "want(6, 0, 1)", () -> s.want(6, 0, 1));
        bad(s, "want(-1, 0, 1)", () -> s.want(-1, 0, 1));
        bad(s, "want(0, 4, 1)", () -> s.want(0, 4, 1));
        bad(s, "want(0, -1, 1)", () -> s.want(0, -1, 1));
        bad(s, "want(0, 0, 10)", () -> s.want(0, 0, 10));
        bad(s, "want(0, 0, -1)", () -> s.want(0, 0, -1));

        promise = 16;
        due("tell(0, 4, 1)", s.tell(0, 4, 1), 0);
        asks(s, "4 hears 0", () -> s.one(0, 1), 1, 14 | 16);
        due("tell(0, 4, 1) again", s.tell(0, 4, 1), 1);
        due("tell(0, 1, 0)", s.tell(0, 1, 0), 1);
        asks(s, "1 does not", () -> s.one(0, 1), 1, 12 | 16);
        due("a baker was not told", s.tell(0, 3, 0), 0);
        due("a child's hearer was not told", s.tell(2, 0, 0), 0);
        due("a miser's was", s.tell(1, 0, 1), 1);
        asks(s, "nobody hears a miser", () -> s.one(1, 1), 1, 0);
        bad(s, "tell(0, 0, 1)", () -> s.tell(0, 0, 1));
        bad(s, "tell(6, 0, 1)", () -> s.tell(6, 0, 1));
        bad(s, "tell(0, 6, 1)", () -> s.tell(0, 6, 1));
        bad(s, "tell(-1, 0, 1)", () -> s.tell(-1, 0, 1));
        bad(s, "tell(0, -1, 1)", () -> s.tell(0, -1, 1));
        bad(s, "tell(0, 1, 2)", () -> s.tell(0, 1, 2));
        bad(s, "tell(0, 1, -1)", () -> s.tell(0, 1, -1));
    }

    // ---- 17 to 21

    private static void sayings() {
        promise = 17;
        SecondWish s = make(SIX);
        asks(s, "first", () -> s.say(0, 0), 0, NONE);
        asks(s, "the same again", () -> s.say(0, 0), 0, NONE);
        asks(s, "second", () -> s.say(1, 0), 1, 1);
        asks(s, "third", () -> s.say(2, 0), 0, 1);
        asks(s, "lover first", () -> s.say(4, 1), 0, NONE);
        asks(s, "lover again", () -> s.say(4, 1), 0, NONE);
        asks(s, "broker of a lover", () -> s.say(5, 1), 1, 5);
        asks(s, "broker first", () -> s.say(5, 2), 0, NONE);
        asks(s, "lover gives", () -> s.say(4, 2), 1, 5);
        asks(s, "broker first again", () -> s.say(5, 3), 0, NONE);
        asks(s, "broker both", () -> s.say(5, 3), 1, 5);
        asks(s, "broker once more", () -> s.say(5, 3), 0, 5);
        bad(s, "say(6, 0)", () -> s.say(6, 0));
        bad(s, "say(-1, 0)", () -> s.say(-1, 0));
        bad(s, "say(0, 4)", () -> s.say(0, 4));
        bad(s, "say(0, -1)", () -> s.say(0, -1));
        SecondWish t = make("t1oo");
        for (int i = 0; i < 40; i++) {
            due("say " + i, t.say(0, 0), 0);
        }
        refused(t, "say 41", () -> t.say(1, 0), FULL, 0);
        bad(t, "BAD ahead of FULL", () -> t.say(2, 0));
        undoing();
        cans();
        dusks();
    }

    private static void undoing() {
        promise = 18;
        SecondWish s = make(SIX);
        saysAll(s, 0, 10, 0, 21, 42);
        long digest = s.digest();
        s.say(4, 1);
        s.say(1, 2);
        due("undo(5)", s.undo(5), 2);
        due("as ahead", s.digest(), digest);
        due("undo(5) again", s.undo(5), 0);
        bad(s, "undo(6)", () -> s.undo(6));
        bad(s, "undo(-1)", () -> s.undo(-1));
        due("undo(1)", s.undo(1), 4);
        asks(s, "first stays", () -> s.thing(0, 0), 1, 0);
        asks(s, "not granted", () -> s.thing(0, 1), 1, NONE);
        asks(s, "heard of still", () -> s.one(1, 2), 1, 1);
        due("undo(0)", s.undo(0), 1);
        asks(s, "no first", () -> s.thing(0, 0), 1, NONE);
        asks(s, "not heard of", () -> s.one(1, 2), 1, 0);
        s.say(0, 0);
        s.tell(0, 1, 0);
        s.tell(0, 5, 1);
        s.say(0, 1);
        s.undo(1);
        asks(s, "heard of as ahead, whoever is told since", () -> s.one(1, 2), 1, 1);
        asks(s, "not heard of as ahead", () -> s.one(5, 2), 1, 0);
    }

    private static void cans() {
        promise = 19;
        SecondWish s = make(SIX);
        due("can at first", s.can(0), 0);
        saysAll(s, 0, 51, 12, 2, 23);
        due("can(0)", s.can(0), 8 | 2);
        due("can(2)", s.can(2), 1 | 2);
        due("can(4), a lover", s.can(4), 1 | 2 | 8);
        due("can(5), a broker", s.can(5), 1 | 2 | 8);
        bad(s, "can(6)", () -> s.can(6));
        bad(s, "can(-1)", () -> s.can(-1));

        promise = 20;
        due("knows(0): heard of, not wanted", s.knows(0), 0);
        due("knows(5)", s.knows(5), 8);
        due("knows(2)", s.knows(2), 1);
        due("knows(1)", s.knows(1), 1);
        due("knows(4): not heard of", s.knows(4), 0);
        s.want(2, 0, 0);
        due("knows(2): not wanted now", s.knows(2), 0);
        bad(s, "knows(6)", () -> s.knows(6));
        bad(s, "knows(-1)", () -> s.knows(-1));
    }

    private static void dusks() {
        promise = 21;
        SecondWish s = make("t4oo w109w118w127w136 u01u10u21u32");
        asks(s, "nothing holds", s::dusk, 0, 0);
        saysAll(s, 0, 10);
        asks(s, "0", s::dusk, 1, 9);
        saysAll(s, 1, 11);
        asks(s, "1 undoes 0", s::dusk, 2, 8);
        saysAll(s, 2, 12);
        asks(s, "2 undoes 1, so that 0 holds", s::dusk, 5, 16);
        saysAll(s, 3, 13);
        asks(s, "3 undoes 2, so that 1 holds", s::dusk, 10, 14);
        SecondWish t = make("t2oo w109w118 u01");
        saysAll(t, 0, 10, 1, 11);
        asks(t, "what was granted earlier undoes nothing", t::dusk, 3, 17);
        SecondWish none = new SecondWish();
        asks(none, "dusk without people", none::dusk, 0, 0);
    }

    // ---- 22, 23

    private static void keeping() {
        promise = 22;
        SecondWish s = new SecondWish();
        refused(s, "keep without people", () -> s.keep(0), STATE, 0);
        bad(s, "keep(3) without people", () -> s.keep(3));
        write(s, 0, SIX);
        s.town(0);
        due("keep(0) at first", s.keep(0), 0);
        saysAll(s, 0, 10, 40, 21, 41);
        s.want(1, 0, 8);
        due("keep(1)", s.keep(1), 5);
        due("count(8)", s.count(8), 2);
        bad(s, "keep(3)", () -> s.keep(3));
        bad(s, "keep(-1)", () -> s.keep(-1));

        promise = 23;
        long digest = s.digest();
        s.want(1, 0, 3);
        saysAll(s, 52, 52);
        s.undo(1);
        due("on(1)", s.on(1), 5);
        due("as it was kept", s.digest(), digest);
        due("what lovers gave, too", s.mark(4, 4), 1);
        due("can be undone further", s.undo(4), 1);
        asks(s, "granted no more", () -> s.thing(1, 1), 1, NONE);
        due("on(0)", s.on(0), 0);
        due("the worth as at first", s.want(1, 0, 7), 7);
        due("on(1) once more", s.on(1), 5);
        finds(s, "on(2)", () -> s.on(2), NOTHING);
        bad(s, "on(3)", () -> s.on(3));
        bad(s, "on(-1)", () -> s.on(-1));
        s.tell(0, 4, 1);
        s.on(0);
        due("who is told to hear is not kept", s.tell(0, 4, 1), 1);
    }

    // ---- 24 to 27

    private static void thinking() {
        promise = 24;
        SecondWish s = make("t3oo w003w015w023w118 u10u21");
        asks(s, "silence at first", () -> s.best(0), 9, 0);
        saysAll(s, 10, 11);
        asks(s, "the most", () -> s.best(0), 1, 5);
        saysAll(s, 0, 1);
        asks(s, "none makes it more", () -> s.best(0), 9, 5);
        s.say(1, 2);
        s.want(0, 2, 2);
        asks(s, "what undoes the undoer", () -> s.best(0), 9, 5);
        s.want(0, 2, 3);
        asks(s, "2 with 0 that holds then", () -> s.best(0), 2, 6);
        SecondWish t = make("t2oo w004w014");
        saysAll(t, 10, 11);
        asks(t, "the first of alike ones", () -> t.best(0), 0, 4);
        bad(s, "best(2)", () -> s.best(2));
        bad(s, "best(-1)", () -> s.best(-1));
        due("nothing is said by that", s.count(2), 5);
        playing();
        sureOf();
        fewests();
    }

    private static void playing() {
        promise = 25;
        SecondWish s = make("t1k");
        s.want(0, 0, 5);
        due("a broker alone", s.plays(0, 2, 1), 5);
        rowIs(s, 1, 0, 0);
        due("one turn is too few", s.plays(0, 1, 1), 0);
        due("three turns, of alike ones the least", s.plays(0, 3, 1), 5);
        rowIs(s, 1, 0, 0, 0);
        due("no turns", s.plays(0, 0, 1), 0);
        rowIs(s, 1);
        due("nothing is said by that", s.count(2), 0);
        SecondWish t = make("t1oo w005w109");
        t.say(0, 0);
        t.want(0, 0, 0);
        due("0 has nothing to win", t.plays(0, 2, 3), 0);
        rowIs(t, 3, 0, 10);
        due("1 takes it", t.plays(1, 1, 3), 9);
        rowIs(t, 3, 10);
        SecondWish q = make("t2 m l w009w015 u10");
        saysAll(q, 10, 0, 11);
        due("to say 1 would undo 0", q.plays(0, 1, 4), 9);
        rowIs(q, 4, 0);
        SecondWish u = make("t1 o o w005w105");
        u.say(0, 0);
        due("of alike ones the least THING, though nothing comes", u.plays(0, 1, 0), 0);
        rowIs(u, 0, 0);
        SecondWish silence = make("t2oo w005w119 u10");
        saysAll(silence, 10, 0, 1);
        due("the other undoes what one has", silence.plays(0, 2, 0), 0);
        rowIs(silence, 0, 0, 11);
        SecondWish v = make("t1oo w009");
        due("who is first leaves it to the other", v.plays(1, 2, 0), 0);
        rowIs(v, 0, 10, 0);
        v.want(1, 0, 9);
        due("silence, till another one is first", v.plays(0, 3, 0), 9);
        rowIs(v, 0, 9, 10, 0);
        bad(s, "plays(1, 0, 0)", () -> s.plays(1, 0, 0));
        bad(s, "plays(-1, 0, 0)", () -> s.plays(-1, 0, 0));
        bad(s, "plays(0, 6, 0)", () -> s.plays(0, 6, 0));
        bad(s, "plays(0, -1, 0)", () -> s.plays(0, -1, 0));
        bad(s, "plays(0, 0, 6)", () -> s.plays(0, 0, 6));
        bad(s, "plays(0, 0, -1)", () -> s.plays(0, 0, -1));
        due("five turns", s.plays(0, 5, 1), 5);
        rowIs(s, 1, 0, 0, 0, 0, 0);
        silences();
        sixBySix();
    }

    /** All places for PEOPLE and THINGS are used. */
    private static void sixBySix() {
        SecondWish s = make("t6 k o m c b l w559w509w008w158w257w306w455 u01u12u23u34u45u50");
        due("plays", s.plays(0, 5, 0), 0);
        rowIs(s, 0, 0, 10, 20, 30, 40);
        due("sure", s.sure(0, 5), 0);
        due("fewest", s.fewest(3, 5, 1), 2);
        rowIs(s, 1, 5, 35);
        saysAll(s, 5, 15, 4, 24, 3, 33, 2, 42, 1, 51, 0, 0);
        asks(s, "dusk", s::dusk, 1 | 4 | 16, 8);
        due("all are granted", s.count(3), 6);
        due("nothing is to give", s.match(2), 0);
        rowIs(s, 2, NONE, NONE, NONE, NONE, NONE, NONE);
        due("can", s.can(5), 0);
        due("safe", s.safe(3, 5), 0);
        due("price", s.price(5), NONE);
        asks(s, "rounds", s::rounds, 1, 0);
        asks(s, "best", () -> s.best(5), 9, 0);
        lay(s, 3, 0, 1, 2, 3, 4, 5);
        due("said", s.said(3, 4), 0);
        due("firsts", s.firsts(5, 3), 0);
        s.row(3, 20);
        asks(s, "judge", () -> s.judge(3), 0, 0);
    }

    /** 0 has THING 0; to be FIRST of 1 lets 1 have it, which undoes 0. */
    private static void silences() {
        SecondWish s = make("t2oo w005w119 u10");
        saysAll(s, 10, 0);
        due("saying 0 again, of which nothing comes, is as good as silence", s.plays(0, 2, 0), 5);
        rowIs(s, 0, 0, 10);
        SecondWish t = make("t1oo w105");
        t.want(0, 0, 0);
        due("all alike: the least", t.plays(0, 2, 0), 0);
        rowIs(t, 0, 0, 10);
        SecondWish v = make("t1 k o w009 w109");
        due("a broker who would be overtaken stays silent", v.plays(0, 3, 0), 9);
        rowIs(v, 0, 9, 10, 0);
        SecondWish w = make("t1 o o o w009 w209");
        due("another one takes it ahead, so that all is alike", w.plays(0, 4, 0), 0);
        rowIs(w, 0, 0, 10, 20, 0);
    }

    private static void sureOf() {
        promise = 26;
        SecondWish s = make("t1k w005");
        due("a broker alone", s.sure(0, 2), 5);
        due("one turn", s.sure(0, 1), 0);
        due("no turn", s.sure(0, 0), 0);
        SecondWish t = make("t2oo w005w018w109 u10");
        saysAll(t, 10, 11);
        due("the most of one turn", t.sure(0, 1), 8);
        due("the other could undo 0, but not 1", t.sure(0, 2), 8);
        due("who begins is 1", t.sure(1, 2), 0);
        t.say(0, 0);
        due("what one has", t.sure(0, 0), 5);
        due("others do what makes it least, not what they want", t.sure(0, 2), 8);
        SecondWish u = make("t2oo w005 u10");
        saysAll(u, 10, 0, 1);
        due("0 can't stop 1", u.sure(0, 2), 0);
        due("0 speaks alone", u.sure(0, 1), 5);
        due("five turns", s.sure(0, 5), 5);
        bad(s, "sure(1, 0)", () -> s.sure(1, 0));
        bad(s, "sure(-1, 0)", () -> s.sure(-1, 0));
        bad(s, "sure(0, 6)", () -> s.sure(0, 6));
        bad(s, "sure(0, -1)", () -> s.sure(0, -1));
    }

    private static void fewests() {
        promise = 27;
        SecondWish s = make(SIX);
        due("two", s.fewest(1, 0, 2), 2);
        rowIs(s, 2, 0, 10);
        due("to the first, by a lover", s.fewest(0, 0, 2), 2);
        rowIs(s, 2, 0, 40);
        due("a lover, by another one's word: never", s.fewest(4, 0, 2), NONE);
        rowIs(s, 2, 0, 40);
        due("a broker", s.fewest(5, 3, 2), 2);
        rowIs(s, 2, 3, 53);
        s.say(2, 0);
        due("one", s.fewest(1, 0, 2), 1);
        rowIs(s, 2, 10);
        s.say(1, 0);
        due("none", s.fewest(1, 0, 2), 0);
        rowIs(s, 2);
        due("another one has it", s.fewest(2, 0, 2), NONE);
        saysAll(s, 2, 12);
        due("0 is undone by 2: till 1 holds it takes two", s.fewest(1, 0, 3), 2);
        rowIs(s, 3, 1, 11);
        s.say(0, 1);
        due("one, behind that", s.fewest(1, 0, 3), 1);
        rowIs(s, 3, 11);
        SecondWish t = make("t5oo u10u32u43");
        saysAll(t, 0, 10, 1, 11, 2);
        due("never in three", t.fewest(1, 0, 4), NONE);
        due("the ROW is none still", t.at(4, 0), FINDING);
        due("3 is not granted yet", t.fewest(1, 2, 4), 1);
        SecondWish u = make("t5oo u10u20u31u42");
        saysAll(u, 0, 10, 1, 11, 2, 12, 3);
        due("three", u.fewest(1, 0, 4), 3);
        rowIs(u, 4, 4, 13, 14);
        bad(s, "fewest(6, 0, 0)", () -> s.fewest(6, 0, 0));
        bad(s, "fewest(-1, 0, 0)", () -> s.fewest(-1, 0, 0));
        bad(s, "fewest(0, 4, 0)", () -> s.fewest(0, 4, 0));
        bad(s, "fewest(0, -1, 0)", () -> s.fewest(0, -1, 0));
        bad(s, "fewest(0, 0, 6)", () -> s.fewest(0, 0, 6));
        bad(s, "fewest(0, 0, -1)", () -> s.fewest(0, 0, -1));
    }

    // ---- 28 to 31

    private static void giving() {
        promise = 28;
        SecondWish s = make(SIX);
        due("match", s.match(1), 22);
        rowIs(s, 1, NONE, NONE, 0, 1, 2, 3);
        saysAll(s, 0, 20);
        due("what is granted is not given", s.match(1), 13);
        rowIs(s, 1, NONE, NONE, NONE, 1, 2, 3);
        SecondWish t = make("t2ooo w104w204");
        due("of alike ways the first by people", t.match(0), 4);
        rowIs(t, 0, 1, 0, NONE);
        SecondWish u = make("t3o w025w015");
        due("of alike things the first", u.match(0), 5);
        rowIs(u, 0, 1);
        SecondWish none = new SecondWish();
        refused(none, "match without people", () -> none.match(0), STATE, 0);
        bad(none, "match(6) without people", () -> none.match(6));
        bad(s, "match(-1)", () -> s.match(-1));

        promise = 29;
        SecondWish v = make(SIX);
        due("safe(0, 1)", v.safe(0, 1), 4);
        due("safe(0, 3)", v.safe(0, 3), 2);
        due("safe(0, 4): who does not hear", v.safe(0, 4), 0);
        due("safe(2, 5)", v.safe(2, 5), 8);
        due("safe(2, 4)", v.safe(2, 4), 0);
        v.want(1, 2, 0);
        due("safe(2, 4), if nobody else wants it", v.safe(2, 4), 4);
        v.say(5, 2);
        due("safe(2, 4), said", v.safe(2, 4), 0);
        bad(v, "safe(0, 0)", () -> v.safe(0, 0));
        bad(v, "safe(6, 0)", () -> v.safe(6, 0));
        bad(v, "safe(0, 6)", () -> v.safe(0, 6));
        bad(v, "safe(-1, 0)", () -> v.safe(-1, 0));
        bad(v, "safe(0, -1)", () -> v.safe(0, -1));
        pricing();
        circles();
    }

    private static void pricing() {
        promise = 30;
        SecondWish s = make("t2 o o o w009w107w207 w018");
        s.dusk();
        asks(s, "no first", () -> s.price(0), NONE, 0);
        s.say(0, 0);
        asks(s, "the first of alike ones", () -> s.price(0), 7, 1);
        s.say(0, 1);
        asks(s, "nobody else wants it", () -> s.price(1), NONE, NONE);
        s.undo(1);
        s.say(1, 1);
        asks(s, "to others", () -> s.price(1), 8, 0);
        s.say(2, 0);
        asks(s, "granted", () -> s.price(0), NONE, 2);
        bad(s, "price(2)", () -> s.price(2));
        bad(s, "price(-1)", () -> s.price(-1));
    }

    private static void circles() {
        promise = 31;
        SecondWish none = new SecondWish();
        asks(none, "without things", none::rounds, 0, 0);
        SecondWish s = make(SIX);
        asks(s, "one of three", s::rounds, 1, 8);
        SecondWish t = make("t3o u01u10u12u21u02u20");
        asks(t, "three of two, two of three", t::rounds, 5, 0);
        SecondWish u = make("t6o u01u12u23u34u45u50");
        asks(u, "one of six", u::rounds, 1, 0);
        SecondWish v = make("t6o u01u12u32u45u53u34");
        asks(v, "one, and a tail to it", v::rounds, 1, 7);
        SecondWish w = make("t4o u01u01u10");
        asks(w, "one told twice", w::rounds, 1, 12);
    }

    // ---- 32 to 34

    private static void pasts() {
        promise = 32;
        SecondWish s = make("t2 o o l");
        lay(s, 0, 0, 1);
        due("nothing was said now", s.said(0, 1), 0);
        due("the ROW stays missing", s.at(1, 0), FINDING);
        saysAll(s, 0, 10);
        due("one way", s.said(0, 1), 1);
        rowIs(s, 1, 0, 0);
        lay(s, 0, 0, 1, 0, 1);
        due("two idle ones", s.said(0, 1), 1);
        rowIs(s, 1, 0, 0, 0, 0);
        s.undo(0);
        saysAll(s, 0, 1);
        lay(s, 0, 0, 0);
        due("two ways, the first", s.said(0, 1), 2);
        rowIs(s, 1, 0, 1);
        lay(s, 0, 0, 0, 0);
        due("three", s.said(0, 0), 6);
        rowIs(s, 0, 0, 0, 1);
        lay(s, 0, 1, 0);
        due("others", s.said(0, 1), 0);
        rowIs(s, 1, 0, 1);
        s.undo(0);
        s.row(0, 0);
        due("nobody spoke", s.said(0, 1), 1);
        rowIs(s, 1);
        saidRefused();
        firstOnes();
        judging();
    }

    private static void saidRefused() {
        SecondWish none = new SecondWish();
        bad(none, "said(6, 0)", () -> none.said(6, 0));
        bad(none, "said(0, 6)", () -> none.said(0, 6));
        bad(none, "said(-1, 0)", () -> none.said(-1, 0));
        bad(none, "said(0, -1)", () -> none.said(0, -1));
        refused(none, "said without people", () -> none.said(0, 1), STATE, 0);
        SecondWish s = make("t1oo");
        finds(s, "said(0, 1)", () -> s.said(0, 1), NOTHING);
        lay(s, 0, 9, 9, 9, 9, 9, 9, 9);
        finds(s, "seven", () -> s.said(0, 1), SIZE);
        lay(s, 0, 0, 1, 2);
        finds(s, "none of people", () -> s.said(0, 1), UNLIKE);
        lay(s, 0, 0, -1);
        finds(s, "none of people below", () -> s.said(0, 1), UNLIKE);
        lay(s, 0, 0, 1, 0, 1, 0, 1);
        due("six", s.said(0, 1), 0);
    }

    private static void firstOnes() {
        promise = 33;
        SecondWish s = make("t2 o o l");
        saysAll(s, 0, 10);
        lay(s, 0, 0, 1);
        due("0 alone", s.firsts(0, 0), 1);
        lay(s, 0, 2, 0, 1, 1);
        due("0 or 2", s.firsts(0, 0), 1 | 4);
        due("of the other: 1 spoke behind both others", s.firsts(1, 0), 1 | 4);
        lay(s, 0, 1, 2);
        due("1 is given what 1 was first of", s.firsts(0, 0), 2);
        lay(s, 0, 0, 0);
        due("none", s.firsts(0, 0), 0);
        SecondWish none = new SecondWish();
        bad(none, "firsts(0, 6)", () -> none.firsts(0, 6));
        bad(none, "firsts(0, -1)", () -> none.firsts(0, -1));
        refused(none, "firsts(9, 0) without people", () -> none.firsts(9, 0), STATE, 0);
        refused(none, "firsts(-1, 0) without people", () -> none.firsts(-1, 0), STATE, 0);
        SecondWish t = make("t1oo");
        bad(t, "firsts(1, 0)", () -> t.firsts(1, 0));
        bad(t, "firsts(-1, 0)", () -> t.firsts(-1, 0));
        finds(t, "firsts(0, 0)", () -> t.firsts(0, 0), NOTHING);
        lay(t, 0, 9, 9, 9, 9, 9, 9, 9);
        finds(t, "seven", () -> t.firsts(0, 0), SIZE);
        bad(t, "BAD ahead of SIZE", () -> t.firsts(1, 0));
        lay(t, 0, 2);
        finds(t, "none of people", () -> t.firsts(0, 0), UNLIKE);
    }

    private static void judging() {
        promise = 34;
        SecondWish s = make("t2 o1 l k");
        lay(s, 0, 1, 11, 20, 20);
        asks(s, "two granted, none idle", () -> s.judge(0), 2, NONE);
        due("nothing is said by that", s.count(2), 0);
        lay(s, 0, 1, 1, 9, 21);
        asks(s, "the second is idle", () -> s.judge(0), 1, 1);
        lay(s, 0, 1, 29, 1);
        asks(s, "silence", () -> s.judge(0), 0, 1);
        s.say(0, 1);
        lay(s, 0, 11, 0);
        asks(s, "from as it is", () -> s.judge(0), 1, NONE);
        s.row(0, 0);
        asks(s, "none", () -> s.judge(0), 0, NONE);
        s.row(0, 20);
        asks(s, "twenty", () -> s.judge(0), 0, 1);
        lay(s, 0, 0, -5);
        s.row(0, 1);
        asks(s, "nothing is left of a longer row", () -> s.judge(0), 0, NONE);
        SecondWish none = new SecondWish();
        bad(none, "judge(6)", () -> none.judge(6));
        bad(none, "judge(-1)", () -> none.judge(-1));
        refused(none, "judge without people", () -> none.judge(0), STATE, 0);
        finds(s, "judge(5)", () -> s.judge(5), NOTHING);
        s.row(0, 21);
        s.lay(0, 0, -1);
        finds(s, "21", () -> s.judge(0), SIZE);
        for (int value : new int[] {2, 8, 12, 30, 39, -1, -9, LEAST, GREATEST}) {
            lay(s, 0, 1, value);
            finds(s, "no saying " + value, () -> s.judge(0), UNLIKE);
        }
    }

    // ---- 35, 36

    private static void chances() {
        promise = 35;
        SecondWish s = make("t2 o o l");
        odds(s, 1, 0, 0, 0, 1);
        odds(s, 1, 0, 1, 0, 1);
        // Of 36 rows of two: 0 or the lover first, 1 behind; 1 first, the lover behind.
        odds(s, 1, 0, 2, 1, 12);
        odds(s, 2, 0, 2, 0, 1);
        s.say(0, 0);
        odds(s, 0, 0, 1, 1, 6);
        odds(s, 1, 0, 1, 1, 6);
        odds(s, 1, 0, 2, 5, 18);
        s.say(1, 0);
        odds(s, 1, 0, 3, 1, 1);
        odds(s, 0, 0, 3, 0, 1);
        odds(s, 1, 0, 0, 1, 1);
        bad(s, "odds(3, 0, 0)", () -> s.odds(3, 0, 0));
        bad(s, "odds(-1, 0, 0)", () -> s.odds(-1, 0, 0));
        bad(s, "odds(0, 2, 0)", () -> s.odds(0, 2, 0));
        bad(s, "odds(0, -1, 0)", () -> s.odds(0, -1, 0));
        bad(s, "odds(0, 0, 4)", () -> s.odds(0, 0, 4));
        bad(s, "odds(0, 0, -1)", () -> s.odds(0, 0, -1));

        promise = 36;
        SecondWish t = make("t3 o o k o l c");
        // 48271 by 1; 48271 * 48271 modulo 2147483647 = 182605794; then 1291394886.
        due("lots(3, 1)", t.lots(3, 1), 0);
        due("three sayings", t.count(2), 3);
        lay(t, 0, 11, 1, 0);
        lotsAre(t, 48271L, 182605794L, 1291394886L);
        due("lots to 40", t.lots(20, 2147483646) >= 0 ? 1 : 0, 1);
        refused(t, "lots over 40", () -> t.lots(18, 5), FULL, 0);
        due("lots just to 40", t.lots(17, 5) >= 0 ? 1 : 0, 1);
        due("forty sayings", t.count(2), 40);
        refused(t, "lots at 40", () -> t.lots(1, 5), FULL, 0);
        bad(t, "lots(0, 1)", () -> t.lots(0, 1));
        bad(t, "lots(21, 1)", () -> t.lots(21, 1));
        bad(t, "lots(1, 0)", () -> t.lots(1, 0));
        bad(t, "lots(1, -1)", () -> t.lots(1, -1));
        bad(t, "lots(1, GREATEST)", () -> t.lots(1, GREATEST));
        SecondWish none = new SecondWish();
        refused(none, "lots without people", () -> none.lots(1, 1), STATE, 0);
        bad(none, "lots(0, 1) without people", () -> none.lots(0, 1));
    }

    private static void odds(SecondWish s, int x, int w, int n, long upper, long lower) {
        String what = "odds(" + x + ", " + w + ", " + n + ")";
        due(what, s.odds(x, w, n), 1);
        due(what + " upper()", s.upper(), upper);
        due(what + " lower()", s.lower(), lower);
    }

    /** The SAYINGS by these lots, said one by one in another TOWN, lead to the same. */
    private static void lotsAre(SecondWish s, long... lots) {
        SecondWish other = make("t3 o o k o l c");
        for (long lot : lots) {
            other.say((int) (lot % 6), (int) (lot / 64 % 3));
        }
        lay(other, 0, 11, 1, 0);
        due("digest() by lots", s.digest(), other.digest());
    }

    // ---- 37 to 43

    private static void told() {
        promise = 37;
        SecondWish s = new SecondWish();
        due("asked() before", s.asked(), 0);
        lay(s, 0, 3, 4);
        s.at(0, 1);
        due("asked()", s.asked(), 4);
        due("asked() again", s.asked(), 4);
        write(s, 0, "t2oo w009w109");
        s.town(0);
        due("asked() of a new town", s.asked(), 4);
        s.say(0, 0);
        s.at(0, 1);
        s.can(0);
        s.knows(0);
        s.count(2);
        s.plays(0, 2, 2);
        s.sure(0, 2);
        s.match(2);
        s.odds(0, 0, 1);
        s.lots(2, 9);
        s.undo(1);
        s.want(0, 0, 5);
        s.keep(0);
        s.on(0);
        s.digest();
        s.price(1);
        due("asked() of none of these", s.asked(), 4);

        promise = 38;
        SecondWish t = make("t2oo");
        due("upper() before", t.upper(), 0);
        t.say(0, 0);
        t.odds(1, 0, 1);
        due("upper()", t.upper(), 1);
        t.say(1, 0);
        due("upper() as told last", t.upper(), 1);
        t.odds(0, 0, 1);
        due("upper() 0", t.upper(), 0);

        promise = 39;
        due("lower() 1 of 0", t.lower(), 1);
        due("lower() before", new SecondWish().lower(), 1);
        t.undo(1);
        t.odds(1, 0, 1);
        due("lower()", t.lower(), 4);
        counting();
        foundOnes();
        digests();
    }

    private static void counting() {
        promise = 40;
        SecondWish s = make("t5 o m c b l k");
        saysAll(s, 0, 10, 1, 2, 0, 22);
        s.row(3, 0);
        s.row(4, 4);
        s.tear(4);
        s.text(2, 0);
        s.keep(2);
        int[] counts = {6, 5, 6, 2, 1, 2, 1, 2, 1};
        for (int what = 0; what < counts.length; what++) {
            due("count(" + what + ")", s.count(what), counts[what]);
        }
        bad(s, "count(9)", () -> s.count(9));
        bad(s, "count(-1)", () -> s.count(-1));
    }

    private static void foundOnes() {
        promise = 41;
        SecondWish s = new SecondWish();
        due("finding() before", s.finding(), 0);
        s.tear(0);
        due("finding() NOTHING", s.finding(), NOTHING);
        s.row(0, 0);
        due("finding() stays", s.finding(), NOTHING);
        s.at(0, 0);
        due("finding() BEYOND", s.finding(), BEYOND);
        s.mean(0);
        due("finding() NOUGHT", s.finding(), NOUGHT);
        s.row(9, 9);
        s.keep(0);
        due("finding() of BAD, STATE", s.finding(), NOUGHT);

        promise = 42;
        int[] often = {0, 1, 1, 0, 1, 0};
        for (int f = 1; f <= 5; f++) {
            due("findings(" + f + ")", s.findings(f), often[f]);
        }
        bad(s, "findings(0)", () -> s.findings(0));
        bad(s, "findings(6)", () -> s.findings(6));
        bad(s, "findings(-1)", () -> s.findings(-1));
    }

    private static void digests() {
        promise = 43;
        due("digest() at first", new SecondWish().digest(), mixed(0, 0, 0, 0, 0, 0, 0, 0, 0,
            -1, -1, -1, -1, -1, -1, -1, -1, -1, -1, -1, -1, -1));
        SecondWish s = make("t2o1k w015 u10");
        saysAll(s, 0, 10, 11);
        s.keep(1);
        lay(s, 4, 7, -7);
        s.text(3, 2);
        s.put(3, 1, 255);
        long want = mixed(2, 2, 3, 1, 1, 1, 1, 2, 1,
            0, 2, 0, 0, 0, 0, 5,
            5, 0, 1, 1, 0, 0, 0,
            0, 1, 0, 1, 1, NONE, 1, 0,
            0, 10, 11,
            -1, 3, -1,
            -1, -1, -1, -1, 2, 7, -7, -1,
            14, 't', '2', 'o', '1', 'k', ' ', 'w', '0', '1', '5', ' ', 'u', '1', '0',
            -1, -1, 2, 32, -1);
        due("digest()", s.digest(), want);
        due("digest() again", s.digest(), want);
    }

    private static long mixed(int... values) {
        long h = 17;
        for (int v : values) {
            h = 31 * h + v;
        }
        return h;
    }
}
