import java.util.NoSuchElementException;

/** For each promise: ordinary inputs, the edges that the document names, wrong inputs. */
public final class PromiseTest {
    private static final int NONE = HamCellar.NONE;
    private static final int LEAST = Integer.MIN_VALUE;
    private static final int MOST = Integer.MAX_VALUE;

    public static void main(String[] args) {
        newObject();
        feed();
        end();
        leg();
        hang();
        take();
        air();
        open();
        daysInSalt();
        daysOnHooks();
        daysAndHeat();
        daysAndWindows();
        daysAtTheEnd();
        rules();
        rulesRefused();
        fault();
        fed();
        undone();
        known();
        seal();
        sealByLoss();
        sealOrder();
        look();
        on();
        should();
        moves();
        movesAskedLate();
        order();
        orderChoosesAmong();
        orderOfSeveral();
        count();
        readme();
        Check.close("PromiseTest");
    }

    private static HamCellar cellar() {
        return new HamCellar();
    }

    /** A cellar with so many legs of 5000 grams, each of its own pig. */
    private static HamCellar cellarWith(int legs) {
        HamCellar x = cellar();
        for (int i = 0; i < legs; i++) {
            x.leg(i % 10, i, 5000);
        }
        return x;
    }

    /** A cellar with a sealed leg of each weight, on hooks from room 1 on. */
    private static HamCellar sealedLegs(int... weights) {
        HamCellar x = cellar();
        for (int i = 0; i < weights.length; i++) {
            x.leg(0, i, weights[i]);
            x.hang(i, 1 + i / 10, i % 10);
            x.seal(i);
        }
        return x;
    }

    private static String soldOf(HamCellar x) {
        StringBuilder sold = new StringBuilder();
        for (int i = 0; i < x.count(1); i++) {
            if (x.look(i, 4) == 2) {
                sold.append(i).append(' ');
            }
        }
        return sold.toString().trim();
    }

    private static void sold(String what, HamCellar x, String want) {
        String got = soldOf(x);
        Check.due(what + " sold " + got + " (due " + want + ")", got.equals(want), true);
    }

    private static void newObject() {
        HamCellar x = cellar();
        for (int what = 0; what <= 9; what++) {
            Check.due("new count " + what, x.count(what), 0);
        }
        for (int place = 0; place < 60; place++) {
            Check.due("new on " + place, x.on(place / 10, place % 10), NONE);
        }
        Check.noIndex("new look", () -> x.look(0, 0));
        Check.due("new fault", x.fault(), NONE);
        Check.due("new end 1", x.end(1), false);
        Check.due("new end 0", x.end(0), true);
        for (int room = 1; room <= 5; room++) {
            Check.due("new windows are shut", x.open(room, false), false);
        }
        Check.due("new moves", x.moves(), 0);
        Check.due("new known", x.known(0, 2000, 2000), 0);
        x.leg(0, 0, 5000);
        Check.due("new rules ask for nothing", x.seal(0), 0);
        for (int room = 1; room <= 5; room++) {
            x.leg(0, room, 10000);
            x.hang(room, room, 0);
        }
        x.days(1);
        for (int room = 1; room <= 5; room++) {
            Check.due("new warmth and damp", x.look(room, 0), 10000 - 8);
            Check.due("new warmth", x.look(room, 3), 3);
        }
        Check.due("another object has none of these", cellar().count(1), 0);
    }

    private static void feed() {
        HamCellar x = cellar();
        for (int bytes = 20; bytes <= 400; bytes += 20) {
            Check.due("feed to " + bytes, x.feed(1, 2, 3, 4, 5), bytes);
        }
        Check.due("feed beyond 400", x.feed(1, 2, 3, 4, 5), NONE);
        Check.due("none came", x.end(401), false);
        Check.due("all are there", x.end(400), true);
        x.end(381);
        Check.due("feed to 401", x.feed(0, 0, 0, 0, 0), NONE);
        Check.due("none came behind 381", x.end(382), false);
        x.end(380);
        Check.due("feed to 400", x.feed(LEAST, MOST, -1, 0, 1), 400);

        HamCellar y = cellar();
        y.feed(0x73616c74, 0x20313b77, 0x65696768, 0x74203520, 0x3b646179);
        y.feed(0x73203700, 0, 0, 0, 0);
        y.end(23);
        Check.due("the highest byte comes first, of each number", y.rules(), 3);
        Check.due("no fault", y.fault(), NONE);
        y.feed(-1, -1, -1, -1, -1);
        Check.noArgument("bytes of 255", y::rules);
        Check.due("bytes of 255", y.fault(), 0);
    }

    private static void end() {
        HamCellar x = cellar();
        Check.due("end of nothing", x.end(0), true);
        Check.due("end beyond nothing", x.end(1), false);
        x.feed(0x73616c74, 0x20313b77, 0x65696768, 0x74203520, 0x3b646179);
        Check.due("end -1", x.end(-1), false);
        Check.due("end least", x.end(LEAST), false);
        Check.due("end 21", x.end(21), false);
        Check.due("end most", x.end(MOST), false);
        Check.due("end 20", x.end(20), true);
        Check.due("end 6", x.end(6), true);
        Check.due("what went stays away", x.end(7), false);
        Check.due("the first bytes stay", x.rules(), 1);
        Check.due("the tape was used up", x.end(1), false);
    }

    private static void leg() {
        HamCellar x = cellar();
        Check.due("first leg", x.leg(0, 0, 5000), 0);
        Check.due("second leg of a pig, elsewhere", x.leg(9, 0, 15000), 1);
        Check.due("third leg of a pig", x.leg(5, 0, 7000), NONE);
        Check.due("it did not come", x.count(1), 2);
        x.days(3);
        Check.due("last pig", x.leg(9, 9999, 15000), 2);
        Check.due("begun", x.look(2, 11), 3);
        Check.due("on the table", x.look(2, 4), 0);
        Check.due("unsalted", x.look(2, 2), 0);
        Check.due("no heat", x.look(2, 3), 0);
        for (int farm : new int[] {-1, 10, LEAST, MOST}) {
            Check.noIndex("farm " + farm, () -> x.leg(farm, 1, 5000));
            Check.noIndex("farm ahead of pig and weight", () -> x.leg(farm, -1, 0));
        }
        for (int pig : new int[] {-1, 10000, LEAST, MOST}) {
            Check.noArgument("pig " + pig, () -> x.leg(0, pig, 5000));
        }
        for (int weight : new int[] {4999, 15001, 0, -5000, LEAST, MOST}) {
            Check.noArgument("weight " + weight, () -> x.leg(0, 1, weight));
            Check.noArgument("weight of a third leg", () -> x.leg(0, 0, weight));
        }
        Check.due("none of these came", x.count(1), 3);

        HamCellar full = cellarWith(60);
        Check.due("sixty", full.count(1), 60);
        Check.thrown("the next", UnsupportedOperationException.class, () -> full.leg(0, 100, 5000));
        Check.noArgument("weight ahead of sixty", () -> full.leg(0, 100, 4999));
        Check.noIndex("farm ahead of sixty", () -> full.leg(10, 100, 4999));
        Check.due("sixty still", full.count(1), 60);
        HamCellar pairs = cellar();
        for (int i = 0; i < 60; i++) {
            Check.due("leg of a pair", pairs.leg(0, i / 2, 5000), i);
        }
        Check.thrown("sixty ahead of a third", UnsupportedOperationException.class, () -> pairs.leg(0, 0, 5000));
    }

    private static void hang() {
        HamCellar x = sealedLegs(5000, 6000, 7000);
        Check.due("own hook is not empty", x.hang(0, 1, 0), false);
        Check.due("another's hook", x.hang(0, 1, 1), false);
        Check.due("it hangs where it hung", x.on(1, 0), 0);
        Check.due("to another hook", x.hang(0, 5, 9), true);
        Check.due("off the first", x.on(1, 0), NONE);
        Check.due("on the other", x.on(5, 9), 0);
        Check.due("into the salt", x.hang(1, 0, 0), true);
        Check.due("its room", x.look(1, 5), 0);
        Check.due("the hook that it left", x.hang(2, 1, 1), true);
        Check.due("three hang", x.count(2), 3);
        x.order(7000);
        sold("order", x, "2");
        Check.due("a sold leg", x.hang(2, 3, 3), false);
        Check.due("hangs nowhere", x.on(3, 3), NONE);
        for (int leg : new int[] {-1, 3, 60, LEAST, MOST}) {
            Check.noIndex("leg " + leg, () -> x.hang(leg, 1, 0));
        }
        for (int room : new int[] {-1, 6, LEAST, MOST}) {
            Check.noIndex("room " + room, () -> x.hang(0, room, 0));
        }
        for (int hook : new int[] {-1, 10, LEAST, MOST}) {
            Check.noIndex("hook " + hook, () -> x.hang(0, 1, hook));
            Check.noIndex("hook of a sold leg", () -> x.hang(2, 1, hook));
        }
    }

    private static void take() {
        HamCellar x = sealedLegs(5000, 6000);
        Check.due("it hung", x.take(0), true);
        Check.due("it lies", x.take(0), false);
        Check.due("on the table", x.look(0, 4), 0);
        Check.due("its hook is empty", x.on(1, 0), NONE);
        Check.due("another may hang there", x.hang(1, 1, 0), true);
        Check.due("out of the salt", x.hang(0, 0, 0) && x.take(0), true);
        x.order(6000);
        Check.due("a sold leg hung not", x.take(1), false);
        Check.due("and is sold", x.look(1, 4), 2);
        for (int leg : new int[] {-1, 2, 60, LEAST, MOST}) {
            Check.noIndex("take " + leg, () -> x.take(leg));
        }
    }

    private static void air() {
        HamCellar x = cellarWith(1);
        x.hang(0, 5, 9);
        x.air(5, 40, 0);
        x.air(4, -5, 100);
        x.days(1);
        Check.due("weight by 40 and 0", x.look(0, 0), 5000 - 22);
        Check.due("heat by 40", x.look(0, 3), 28);
        x.air(0, 12, 100);
        x.days(1);
        Check.due("outside does not reach a shut room", x.look(0, 3), 56);
        for (int room : new int[] {-1, 6, LEAST, MOST}) {
            Check.noIndex("room " + room, () -> x.air(room, 15, 60));
            Check.noIndex("room ahead of warmth", () -> x.air(room, 41, 101));
        }
        for (int warmth : new int[] {-6, 41, LEAST, MOST}) {
            Check.noArgument("warmth " + warmth, () -> x.air(5, warmth, 60));
        }
        for (int damp : new int[] {-1, 101, LEAST, MOST}) {
            Check.noArgument("damp " + damp, () -> x.air(5, 15, damp));
        }
        x.days(1);
        Check.due("a refused one changes nothing", x.look(0, 3), 84);
    }

    private static void open() {
        HamCellar x = cellar();
        for (int room = 1; room <= 5; room++) {
            Check.due("opened", x.open(room, true), true);
            Check.due("open already", x.open(room, true), false);
            Check.due("shut", x.open(room, false), true);
            Check.due("shut already", x.open(room, false), false);
        }
        for (int room : new int[] {-1, 0, 6, LEAST, MOST}) {
            Check.noIndex("windows of " + room, () -> x.open(room, true));
        }
    }

    private static void daysInSalt() {
        HamCellar x = cellar();
        x.leg(0, 0, 10000);
        x.leg(0, 1, 5999);
        x.hang(0, 0, 0);
        x.hang(1, 0, 9);
        Check.due("today", x.days(0), 0);
        Check.due("no day, no salt", x.look(0, 2), 0);
        Check.due("today", x.days(2), 2);
        Check.due("weight after two", x.look(0, 0), 10000 - 10 - 9);
        Check.due("of 5999", x.look(1, 0), 5999 - 5 - 5);
        Check.due("salted", x.look(0, 2), 2);
        Check.due("no heat in the salt", x.look(0, 3), 0);
        Check.due("first stays", x.look(0, 1), 10000);
        x.take(0);
        x.days(1);
        Check.due("on the table nothing is lost", x.look(0, 0), 9981);
        Check.due("nor salted", x.look(0, 2), 2);
        Check.due("heat of the table", x.look(0, 3), 8);
        x.hang(0, 0, 0);
        x.days(200);
        Check.due("no heat in the salt again", x.look(0, 3), 8);
        Check.due("not bad", x.look(0, 8), 0);
    }

    private static void drying(int warmth, int damp, int first, int want) {
        HamCellar x = cellar();
        x.leg(0, 0, first);
        x.hang(0, 3, 3);
        x.air(3, warmth, damp);
        x.days(1);
        Check.due("lost by " + warmth + " and " + damp, first - x.look(0, 0), want);
    }

    private static void daysOnHooks() {
        drying(15, 60, 10000, 8);
        drying(40, 0, 15000, 67);
        drying(40, 100, 15000, 0);
        drying(0, 0, 10000, 5);
        drying(-1, 0, 10000, 5);
        drying(-5, 0, 10000, 5);
        drying(1, 0, 10000, 6);
        drying(-5, 1, 15000, 7);
        drying(8, 93, 15000, 1);
        drying(1, 99, 15000, 0);
        drying(10, 35, 9999, 9);
        drying(10, 35, 10309, 9);
        drying(10, 35, 10310, 10);
        drying(13, 95, 11111, 0);
        drying(13, 95, 11112, 1);
    }

    private static void daysAndHeat() {
        HamCellar x = cellar();
        x.leg(0, 0, 15000);
        x.hang(0, 0, 0);
        x.days(2);
        x.take(0);
        x.days(5);
        Check.due("heat 40", x.look(0, 3), 40);
        Check.due("40 is not above 20 times 2", x.look(0, 8), 0);
        x.hang(0, 1, 0);
        x.air(1, 12, 60);
        x.days(1);
        Check.due("12 is no heat", x.look(0, 3), 40);
        x.air(1, -5, 60);
        x.days(1);
        Check.due("frost takes none away", x.look(0, 3), 40);
        Check.due("still not bad", x.look(0, 8), 0);
        x.air(1, 13, 60);
        x.days(1);
        Check.due("13 is one", x.look(0, 3), 41);
        Check.due("41 is", x.look(0, 8), 1);
        x.hang(0, 0, 5);
        x.days(30);
        Check.due("bad for ever", x.look(0, 8), 1);

        HamCellar y = cellar();
        y.leg(0, 0, 5999);
        y.leg(0, 1, 6000);
        y.leg(0, 2, 10000);
        y.hang(0, 0, 0);
        y.hang(1, 0, 1);
        y.days(5);
        y.hang(2, 0, 2);
        y.take(0);
        y.take(1);
        y.days(9);
        y.take(2);
        y.days(2);
        Check.due("not yet: 88 of 100", y.look(1, 8), 0);
        y.days(2);
        Check.due("104 of 100, 5 days of 6", y.look(1, 8), 1);
        Check.due("5 days of 5", y.look(0, 8), 0);
        y.days(200);
        Check.due("heat without harm", y.look(0, 8), 0);
        Check.due("the thousandth is of the first weight", y.look(2, 0) < 10000 && y.look(2, 8) == 1, true);
    }

    private static void daysAndWindows() {
        HamCellar x = cellar();
        x.leg(0, 0, 5000);
        x.leg(0, 1, 5000);
        x.hang(0, 1, 0);
        x.hang(1, 2, 0);
        x.open(1, true);
        x.air(0, 20, 100);
        x.air(1, 40, 0);
        x.days(1);
        Check.due("the air of outside", x.look(0, 3), 8);
        Check.due("the damp of outside", x.look(0, 0), 5000);
        Check.due("the shut room", x.look(1, 3), 3);
        x.open(1, false);
        x.air(0, 40, 0);
        x.days(1);
        Check.due("it stays behind shut windows", x.look(0, 3), 16);
        x.open(2, true);
        x.days(0);
        x.open(2, false);
        x.days(1);
        Check.due("windows count at a day's begin alone", x.look(1, 3), 9);
        x.open(2, true);
        x.days(1);
        x.air(0, 12, 60);
        x.days(1);
        Check.due("each day anew", x.look(1, 3), 9 + 28);

        HamCellar y = cellarWith(1);
        y.hang(0, 1, 0);
        y.air(1, 40, 0);
        y.open(1, true);
        y.days(1);
        Check.due("outside at first", y.look(0, 3), 3);
        Check.due("outside's damp at first", y.look(0, 0), 5000 - 4);
    }

    private static void daysAtTheEnd() {
        HamCellar x = cellarWith(1);
        for (int n : new int[] {-1, 201, LEAST, MOST}) {
            Check.noArgument("days " + n, () -> x.days(n));
        }
        Check.due("none passed", x.count(0), 0);
        for (int i = 1; i < 10; i++) {
            Check.due("days 200", x.days(200), 200 * i);
        }
        Check.due("to 1999", x.days(199), 1999);
        Check.due("the last is 2000", x.days(200), 2000);
        Check.due("no more", x.days(1), 2000);
        Check.due("heat of 2000 days", x.look(0, 3), 16000);

        HamCellar y = sealedLegs(5000, 6000);
        y.order(5000);
        y.days(10);
        Check.due("a sold leg keeps its weight", y.look(0, 0), 5000);
        Check.due("and its heat", y.look(0, 3), 0);
        Check.due("and does not go bad", y.look(0, 8), 0);
    }

    private static void rules() {
        HamCellar x = cellarWith(1);
        Check.due("one", Check.rules(x, "days 1"), 1);
        Check.due("against", x.seal(0), 4);
        Check.due("what is not told is 0", Check.rules(x, "weight 0"), 1);
        Check.due("nothing against", x.seal(0), 0);

        HamCellar y = cellarWith(1);
        Check.due("all five", Check.rules(y, "  days 2000;loss   100 ; salt 99;feed 3;  weight 15000   "), 5);
        Check.due("fault", y.fault(), NONE);
        Check.due("without blanks", Check.rules(y, "days0;loss0;salt0;feed0;weight05001"), 5);
        Check.due("weight against", y.seal(0), 8);
        Check.due("five digits", Check.rules(y, "weight 00005"), 1);
        Check.due("the later counts", Check.rules(y, "weight 1;days 1;weight 5000;days 0;weight 5001;weight 5000"), 6);
        Check.due("nothing against 5000", y.seal(0), 0);
        Check.due("the tape is used up", y.end(1), false);

        HamCellar z = cellarWith(1);
        StringBuilder text = new StringBuilder();
        for (int i = 0; i < 66; i++) {
            text.append("salt 0;");
        }
        Check.due("fault on a long tape", textIsRight(z, text.substring(0, 400)), false);
        Check.due("a salt is begun and not ended", z.fault(), 399);
        StringBuilder most = new StringBuilder("days1");
        while (most.length() + 6 <= 400) {
            most.append(";salt0");
        }
        Check.due("the most", Check.rules(z, most.toString()), 66);
        Check.due("days counts", z.seal(0), 4);
    }

    private static boolean textIsRight(HamCellar x, String text) {
        Check.tape(x, text);
        try {
            x.rules();
            return true;
        } catch (IllegalArgumentException e) {
            return false;
        }
    }

    private static void rulesRefused() {
        HamCellar x = cellarWith(2);
        Check.rules(x, "days 1");
        Check.refused(x, "days 0; loss 101", 13);
        Check.due("all stays", x.seal(0), 4);
        Check.due("the tape was used up", x.end(1), false);
        Check.refused(x, "", 0);
        Check.refused(x, "   ", 3);
        Check.refused(x, "days", 4);
        Check.refused(x, "days  ", 6);
        Check.refused(x, "days 1;", 7);
        Check.refused(x, "days 1 ;  ", 10);
        Check.refused(x, ";", 0);
        Check.refused(x, " ;days 1", 1);
        Check.refused(x, "days 1;;days 1", 7);
        Check.refused(x, "1 days", 0);
        Check.refused(x, "days 1 days 2", 7);
        Check.refused(x, "days 1 2", 7);
        Check.refused(x, "days 1a", 6);
        Check.refused(x, "days ;", 5);
        Check.refused(x, "days -1", 5);
        Check.refused(x, "days x", 5);
        Check.refused(x, "day 1", 0);
        Check.refused(x, "dayss 1", 0);
        Check.refused(x, "xays 1", 0);
        Check.refused(x, "dayx 1", 0);
        Check.refused(x, "sald 1", 0);
        Check.refused(x, "weighs 1", 0);
        Check.refused(x, "  loose 1", 2);
        Check.refused(x, "Days 1", 0);
        Check.refused(x, "dayS 1", 0);
        Check.refused(x, "daysX 1", 4);
        Check.refused(x, "d ays 1", 0);
        Check.refused(x, "days\t1", 4);
        Check.refused(x, "days 1\n", 6);
        Check.refused(x, "days 1" + (char) 0, 6);
        Check.refused(x, "days 1" + (char) 255, 6);
        Check.refused(x, "days 1; " + (char) 200, 8);
        Check.refused(x, "d`", 0);
        Check.refused(x, "days{1", 4);
        Check.refused(x, "days 000001", 5);
        Check.refused(x, "days 00000000000000000000000000000001", 5);
        Check.refused(x, "days 4294967297", 5);
        Check.refused(x, "days 2001", 5);
        Check.refused(x, "loss 101", 5);
        Check.refused(x, "salt 100", 5);
        Check.refused(x, "feed 4", 5);
        Check.refused(x, "weight 15001", 7);
        Check.refused(x, "weight 99999", 7);
        Check.refused(x, "days 0;days 2001;days 0", 12);
        Check.due("all stays still", x.seal(0), 4);
        Check.due("a right one behind", Check.rules(x, "days 0"), 1);
        Check.due("nothing against", x.seal(0), 0);
    }

    private static void fault() {
        HamCellar x = cellar();
        Check.due("ahead of any", x.fault(), NONE);
        Check.refused(x, "days 1;salt x", 12);
        x.feed(1, 2, 3, 4, 5);
        Check.due("the latest", x.fault(), 12);
        x.end(0);
        Check.rules(x, "salt 1");
        Check.due("none", x.fault(), NONE);
        Check.noArgument("an empty tape", x::rules);
        Check.due("more must come", x.fault(), 0);
    }

    private static void fed() {
        HamCellar x = cellar();
        Check.due("told", x.fed(0, 0, 0), 0);
        Check.due("told", x.fed(9, 2000, 3), 0);
        for (int farm : new int[] {-1, 10, LEAST, MOST}) {
            Check.noIndex("farm " + farm, () -> x.fed(farm, 0, 0));
            Check.noIndex("farm ahead of feed and day", () -> x.fed(farm, -1, 4));
        }
        for (int what : new int[] {-1, 4, LEAST, MOST}) {
            Check.noArgument("feed " + what, () -> x.fed(0, 0, what));
        }
        for (int from : new int[] {-1, 2001, LEAST, MOST}) {
            Check.noArgument("from " + from, () -> x.fed(0, from, 0));
        }
        Check.due("two were told", x.count(8), 2);
        for (int i = 2; i < 60; i++) {
            Check.due("told", x.fed(1, 5, 1), 0);
        }
        Check.due("sixty are told", x.fed(1, 5, 2), NONE);
        Check.due("it is not told", x.known(1, 5, 0), 1);
        Check.due("sixty", x.count(8), 60);
        Check.noArgument("wrong ahead of sixty", () -> x.fed(1, 5, 4));
    }

    private static void undone() {
        HamCellar x = cellar();
        for (int i = 0; i < 6; i++) {
            x.leg(i < 4 ? 3 : 4, i, 5000 + 1000 * i);
            x.hang(i, 1, i);
        }
        x.fed(3, 0, 2);
        x.fed(4, 0, 2);
        Check.rules(x, "feed 2");
        x.seal(0);
        x.seal(1);
        x.seal(4);
        Check.rules(x, "feed 1");
        x.seal(2);
        Check.rules(x, "feed 3");
        Check.due("not sealed", x.seal(3), 7);
        Check.due("one is sold", x.order(5000), 1);
        Check.due("still as it should be", x.fed(3, 0, 2), 0);
        Check.due("sealed by feed 2 alone", x.fed(3, 0, 1), 1);
        Check.due("sold ones stay sealed", x.look(0, 7), 1);
        Check.due("undone", x.look(1, 7), 0);
        Check.due("by its own rules", x.look(2, 7), 1);
        Check.due("of another farm", x.look(4, 7), 1);
        Check.due("the other", x.fed(3, 0, 0), 1);
        Check.due("more feed brings no seal back", x.fed(3, 0, 3), 0);
        Check.due("no seal", x.look(1, 7), 0);
        Check.due("it may be asked for again", x.seal(1), 0);

        HamCellar y = cellar();
        y.days(5);
        y.leg(0, 0, 5000);
        y.leg(0, 1, 5000);
        y.fed(0, 0, 1);
        Check.rules(y, "feed 1");
        y.seal(0);
        y.seal(1);
        Check.due("for days behind its begin", y.fed(0, 6, 0), 0);
        Check.due("for days up to its begin: both", y.fed(0, 5, 0), 2);
    }

    private static void known() {
        HamCellar x = cellar();
        x.fed(1, 10, 1);
        x.fed(1, 20, 2);
        x.days(5);
        x.fed(1, 10, 3);
        x.fed(2, 0, 1);
        Check.due("ahead of the day", x.known(1, 9, 5), 0);
        Check.due("on the day", x.known(1, 10, 5), 3);
        Check.due("behind it", x.known(1, 19, 5), 3);
        Check.due("as known earlier", x.known(1, 19, 4), 1);
        Check.due("the later day, though told earlier", x.known(1, 20, 5), 2);
        Check.due("as known on the day on which it was told", x.known(1, 20, 0), 2);
        Check.due("as known ahead of all", x.known(1, 20, -1), 0);
        Check.due("another farm", x.known(2, 0, 5), 1);
        Check.due("another farm earlier", x.known(2, 0, 4), 0);
        Check.due("a farm without", x.known(3, 2000, 2000), 0);
        Check.due("days of any size", x.known(1, MOST, MOST), 2);
        Check.due("days of any size", x.known(1, LEAST, MOST), 0);
        Check.due("days of any size", x.known(1, MOST, LEAST), 0);
        x.fed(1, 20, 0);
        x.fed(1, 20, 1);
        Check.due("of several the one told last", x.known(1, 25, 5), 1);
        for (int farm : new int[] {-1, 10, LEAST, MOST}) {
            Check.noIndex("farm " + farm, () -> x.known(farm, 0, 0));
        }
    }

    private static void seal() {
        HamCellar x = cellarWith(2);
        x.hang(0, 0, 0);
        Check.due("in the salt", x.seal(0), 0);
        Check.due("sealed", x.look(0, 7), 1);
        Check.due("again", x.seal(0), 2);
        Check.due("on the table", x.seal(1), 0);
        Check.due("two", x.count(3), 2);
        for (int leg : new int[] {-1, 2, 60, LEAST, MOST}) {
            Check.noIndex("seal " + leg, () -> x.seal(leg));
        }

        HamCellar y = cellar();
        y.days(7);
        y.leg(4, 0, 9000);
        y.hang(0, 0, 0);
        Check.rules(y, "days 3");
        y.days(2);
        Check.due("days since begun: 2 of 3", y.seal(0), 4);
        y.days(1);
        Check.rules(y, "days 3;salt 4");
        Check.due("salted: 3 of 4", y.seal(0), 6);
        Check.rules(y, "days 3;salt 3;feed 1");
        Check.due("feed", y.seal(0), 7);
        y.fed(4, 8, 3);
        Check.due("feed of a later day", y.seal(0), 7);
        y.fed(4, 7, 1);
        Check.rules(y, "days 3;salt 3;feed 1;weight 8975");
        Check.due("weight is 8975 now", y.look(0, 0), 8975);
        Check.due("weight is 8975", y.seal(0), 0);

        HamCellar z = cellar();
        z.leg(0, 0, 6000);
        Check.rules(z, "weight 6001");
        Check.due("weight", z.seal(0), 8);
        Check.due("not sealed", z.look(0, 7), 0);
        Check.rules(z, "weight 6000");
        Check.due("nothing against", z.seal(0), 0);
    }

    /** A hundredth of 5099 is 50, rounded down: 50 grams are one, though they are less than 50.99. */
    private static void sealByLoss() {
        HamCellar x = cellar();
        x.leg(0, 0, 5099);
        x.hang(0, 0, 0);
        x.days(9);
        Check.due("45 grams lost", x.look(0, 0), 5054);
        Check.rules(x, "loss 1");
        Check.due("45 of 50", x.seal(0), 5);
        x.days(1);
        Check.due("50 grams lost", x.look(0, 0), 5049);
        Check.rules(x, "loss 2");
        Check.due("50 of 100", x.seal(0), 5);
        Check.rules(x, "loss 1");
        Check.due("50 of 50", x.seal(0), 0);

        HamCellar y = cellar();
        y.leg(0, 0, 15000);
        y.hang(0, 0, 0);
        y.days(10);
        y.hang(0, 1, 0);
        y.air(1, 1, 10);
        y.days(1);
        Check.due("149 grams lost", y.look(0, 0), 14851);
        Check.rules(y, "loss 1");
        Check.due("149 of 150", y.seal(0), 5);
        y.days(1);
        Check.due("157 of 150", y.seal(0), 0);

        HamCellar z = cellar();
        z.leg(0, 0, 5000);
        Check.rules(z, "loss 100");
        Check.due("nothing lost", z.seal(0), 5);
        Check.rules(z, "loss 0");
        Check.due("nothing lost, nothing asked", z.seal(0), 0);
    }

    private static void sealOrder() {
        HamCellar x = cellar();
        x.leg(0, 0, 5000);
        x.hang(0, 1, 0);
        String[] asked = {"days 9", "loss 9", "salt 9", "feed 3", "weight 15000"};
        StringBuilder text = new StringBuilder();
        for (int i = asked.length - 1; i >= 0; i--) {
            text.append(text.length() == 0 ? "" : ";").append(asked[i]);
            Check.rules(x, text.toString());
            Check.due("first of " + text, x.seal(0), 4 + i);
        }
        x.days(1);
        Check.due("bad ahead of days", x.seal(0), 3);

        HamCellar y = cellar();
        y.leg(0, 0, 5000);
        y.leg(0, 1, 6000);
        y.hang(0, 1, 0);
        y.hang(1, 1, 1);
        y.seal(0);
        y.seal(1);
        y.order(5000);
        y.days(1);
        Check.due("it is bad, too", y.look(1, 8), 1);
        Check.due("sealed ahead of bad", y.seal(1), 2);
        Check.due("sold ahead of sealed", y.seal(0), 1);
    }

    private static void look() {
        HamCellar x = cellar();
        x.days(4);
        x.leg(7, 1234, 12345);
        x.hang(0, 0, 8);
        x.days(3);
        x.hang(0, 4, 6);
        x.days(2);
        x.seal(0);
        int[] due = {12345 - 12 - 12 - 12 - 9 - 9, 12345, 3, 6, 1, 4, 6, 1, 0, 7, 1234, 4};
        for (int what = 0; what < due.length; what++) {
            Check.due("look " + what, x.look(0, what), due[what]);
        }
        x.order(1);
        int[] sold = {12291, 12345, 3, 6, 2, NONE, NONE, 1, 0, 7, 1234, 4};
        for (int what = 0; what < sold.length; what++) {
            Check.due("look at a sold one " + what, x.look(0, what), sold[what]);
        }
        x.leg(0, 0, 5000);
        Check.due("room of the table", x.look(1, 5), NONE);
        Check.due("hook of the table", x.look(1, 6), NONE);
        Check.due("unsealed", x.look(1, 7), 0);
        x.hang(1, 0, 0);
        Check.due("room 0", x.look(1, 5), 0);
        Check.due("hook 0", x.look(1, 6), 0);
        Check.due("it hangs in the salt", x.look(1, 4), 1);
        for (int what : new int[] {-1, 12, LEAST, MOST}) {
            Check.thrown("what " + what, NoSuchElementException.class, () -> x.look(0, what));
            Check.noIndex("leg ahead of what " + what, () -> x.look(2, what));
        }
        for (int leg : new int[] {-1, 2, 60, LEAST, MOST}) {
            Check.noIndex("look at " + leg, () -> x.look(leg, 0));
        }
    }

    private static void on() {
        HamCellar x = cellarWith(3);
        x.hang(2, 0, 0);
        x.hang(1, 5, 9);
        x.hang(0, 3, 4);
        Check.due("on 0 0", x.on(0, 0), 2);
        Check.due("on 5 9", x.on(5, 9), 1);
        Check.due("on 3 4", x.on(3, 4), 0);
        Check.due("on 4 3", x.on(4, 3), NONE);
        for (int n : new int[] {-1, LEAST, MOST}) {
            Check.noIndex("room " + n, () -> x.on(n, 0));
            Check.noIndex("hook " + n, () -> x.on(0, n));
        }
        Check.noIndex("room 6", () -> x.on(6, 0));
        Check.noIndex("hook 10", () -> x.on(0, 10));
    }

    private static void should() {
        HamCellar x = cellarWith(4);
        Check.due("on the table", x.should(0, 1, 0), false);
        x.hang(0, 0, 0);
        Check.due("in the salt", x.should(0, 1, 0), false);
        Check.due("not told", x.count(9), 0);
        x.hang(0, 1, 0);
        x.hang(1, 1, 1);
        Check.due("where it hangs", x.should(0, 1, 0), true);
        Check.due("told for another", x.should(1, 1, 0), false);
        Check.due("told again, the same", x.should(0, 1, 0), true);
        Check.due("one is told", x.count(9), 1);
        Check.due("told again", x.should(0, 5, 9), true);
        Check.due("what was told first is free", x.should(1, 1, 0), true);
        Check.due("told for another now", x.should(1, 5, 9), false);
        Check.due("two are told", x.count(9), 2);
        Check.due("the refused one stays: two moves", x.moves(), 2);
        Check.due("none is told", x.count(9), 0);
        x.should(0, 2, 0);
        x.take(0);
        Check.due("told still, though on the table", x.should(1, 2, 0), false);
        Check.due("told still", x.count(9), 1);
        for (int room : new int[] {-1, 0, 6, LEAST, MOST}) {
            Check.noIndex("room " + room, () -> x.should(1, room, 0));
            Check.noIndex("room for a leg on the table", () -> x.should(0, room, 0));
        }
        for (int hook : new int[] {-1, 10, LEAST, MOST}) {
            Check.noIndex("hook " + hook, () -> x.should(1, 1, hook));
        }
        for (int leg : new int[] {-1, 4, LEAST, MOST}) {
            Check.noIndex("leg " + leg, () -> x.should(leg, 1, 0));
        }
    }

    private static void moves() {
        HamCellar x = cellarWith(60);
        for (int i = 0; i < 50; i++) {
            x.hang(i, 1 + i / 10, i % 10);
        }
        Check.due("none told", x.moves(), 0);
        x.should(0, 1, 0);
        Check.due("told to stay, all hooks full", x.moves(), 0);
        x.should(0, 1, 1);
        x.should(1, 1, 0);
        Check.due("a ring, all hooks full", x.moves(), NONE);
        Check.due("none is told any more", x.count(9), 0);
        Check.due("and none moved", x.on(1, 0), 0);
        x.hang(49, 0, 0);
        x.should(0, 1, 1);
        x.should(1, 1, 0);
        Check.due("a ring over one empty hook", x.moves(), 3);
        x.should(0, 1, 1);
        x.should(1, 1, 0);
        x.should(2, 3, 3);
        x.should(23, 5, 0);
        x.should(40, 1, 2);
        x.should(30, 5, 9);
        x.should(31, 4, 1);
        Check.due("two rings, a row, one that stays", x.moves(), 3 + 4 + 1);
        x.should(0, 1, 1);
        x.should(1, 5, 9);
        Check.due("a row of two", x.moves(), 2);
        x.should(0, 1, 1);
        Check.due("one that is not told is in the way", x.moves(), NONE);
        x.should(0, 1, 1);
        x.should(1, 1, 1);
        x.should(1, 1, 2);
        Check.due("in the way at the row's end", x.moves(), NONE);
        Check.due("none told", x.moves(), 0);
        Check.due("the salt's hooks are no help", x.hang(49, 5, 9), true);
        x.should(0, 1, 1);
        x.should(1, 1, 0);
        Check.due("all full again", x.moves(), NONE);
    }

    private static void movesAskedLate() {
        HamCellar x = sealedLegs(5000, 6000, 7000, 8000);
        x.should(0, 1, 1);
        x.take(0);
        Check.due("taken: it counts for nothing, nor is 1 in its way", x.moves(), 0);
        x.hang(0, 1, 0);
        x.should(0, 1, 1);
        x.hang(0, 0, 3);
        Check.due("in the salt", x.moves(), 0);
        x.hang(0, 1, 0);
        x.should(0, 1, 5);
        x.hang(0, 4, 4);
        Check.due("hung elsewhere, it counts from there", x.moves(), 1);
        x.should(0, 1, 0);
        x.hang(0, 1, 0);
        Check.due("hung where it should", x.moves(), 0);
        x.should(1, 1, 2);
        x.should(2, 1, 1);
        x.take(2);
        Check.due("half a ring", x.moves(), 1);
        x.hang(2, 1, 2);
        x.should(3, 1, 2);
        x.should(2, 1, 3);
        x.order(7000);
        sold("order", x, "2");
        Check.due("a sold leg counts for nothing", x.moves(), 1);
        x.should(1, 1, 2);
        x.take(3);
        x.hang(3, 1, 2);
        Check.due("hung in the way later", x.moves(), NONE);
    }

    private static void order() {
        HamCellar x = sealedLegs(5000, 6000, 7000, 11000);
        for (int grams : new int[] {0, -1, 200001, LEAST, MOST}) {
            Check.noArgument("grams " + grams, () -> x.order(grams));
        }
        Check.due("more than all", x.order(29001), NONE);
        Check.due("most grams", x.order(200000), NONE);
        Check.due("none sold", x.count(5), 0);
        Check.due("just so much", x.order(13000), 2);
        sold("13000", x, "1 2");
        Check.due("off its hook", x.on(1, 1), NONE);
        Check.due("it hangs not", x.look(1, 6), NONE);
        Check.due("the least too much", x.order(5001), 1);
        sold("5001", x, "1 2 3");
        Check.due("all that is left", x.order(5000), 1);
        Check.due("nothing is left", x.order(1), NONE);
    }

    private static void orderChoosesAmong() {
        HamCellar x = sealedLegs(5000, 6000, 7000);
        x.take(0);
        Check.due("not from the table", x.order(1), 1);
        sold("of those that hang", x, "1");
        x.leg(0, 77, 5000);
        x.hang(3, 2, 2);
        Check.due("not those without a seal", x.order(1), 1);
        sold("sealed", x, "1 2");
        x.hang(0, 0, 0);
        Check.due("from the salt, too", x.order(5000), 1);
        HamCellar y = sealedLegs(5000, 6000);
        y.hang(1, 0, 0);
        y.days(1);
        Check.due("not bad ones", y.order(1), 1);
        sold("good", y, "1");

        int[] weights = new int[16];
        for (int i = 0; i < 16; i++) {
            weights[i] = 15000 - 100 * i;
        }
        HamCellar z = sealedLegs(weights);
        Check.due("the lightest of the first 14", z.order(1), 1);
        sold("the first 14", z, "13");
        Check.due("the next comes up", z.order(1), 1);
        sold("the next", z, "13 14");
        Check.due("no more than 14 together", z.order(200000), 14);
        HamCellar w = sealedLegs(weights);
        Check.due("no more than 14 together", w.order(199000), 14);
        HamCellar v = sealedLegs(13000, 13000, 13000, 13000, 13000, 13000, 13000, 13000,
                13000, 13000, 13000, 13000, 13000, 13000, 13000, 13000);
        Check.due("14 weigh too little", v.order(182001), NONE);
        Check.due("14 weigh enough", v.order(182000), 14);
        Check.due("two are left", v.order(26000), 2);
    }

    private static void orderOfSeveral() {
        HamCellar x = sealedLegs(5000, 6000, 11000);
        Check.due("fewest legs", x.order(11000), 1);
        sold("fewest", x, "2");
        HamCellar y = sealedLegs(6000, 5000, 6000, 5000, 5000);
        Check.due("least bits", y.order(5000), 1);
        sold("least bits of one", y, "1");
        HamCellar z = sealedLegs(5000, 6000, 5000, 6000);
        Check.due("least bits", z.order(11000), 2);
        sold("least bits of two", z, "0 1");
        HamCellar w = sealedLegs(5000, 6000, 8000, 9000);
        Check.due("the highest bit counts first", w.order(14000), 2);
        sold("the highest bit first", w, "1 2");
        HamCellar v = sealedLegs(9000, 8000, 5000, 5001, 5002);
        Check.due("the least weight ahead of the fewest", v.order(15002), 3);
        sold("the least weight", v, "2 3 4");
    }

    private static void count() {
        HamCellar x = sealedLegs(5000, 6000, 7000, 8000);
        x.leg(0, 50, 9000);
        x.leg(0, 51, 10000);
        x.hang(5, 0, 5);
        x.fed(0, 0, 1);
        x.fed(0, 0, 2);
        x.fed(0, 0, 3);
        x.should(1, 2, 2);
        x.should(2, 3, 2);
        x.order(8000);
        x.days(1);
        int[] due = {1, 6, 4, 4, 4, 1, 4996 + 5996 + 6995 + 9000 + 9990, 8000, 3, 2};
        for (int what = 0; what < due.length; what++) {
            Check.due("count " + what, x.count(what), due[what]);
        }
        for (int what : new int[] {-1, 10, LEAST, MOST}) {
            Check.due("count of " + what, x.count(what), NONE);
        }
    }

    /** The rows that README.md shows, with the answers that it tells. */
    private static void readme() {
        HamCellar x = cellar();
        int leg = x.leg(3, 7, 10000);
        Check.due("readme leg", leg, 0);
        Check.due("readme hang in salt", x.hang(leg, 0, 2), true);
        Check.due("readme days", x.days(12), 12);
        Check.due("readme hang to dry", x.hang(leg, 1, 0), true);
        Check.due("readme feed", x.feed(0x73616c74, 0x20313000, 0, 0, 0), 20);
        Check.due("readme end", x.end(7), true);
        Check.due("readme rules", x.rules(), 1);
        Check.due("readme seal", x.seal(leg), 0);
        Check.due("readme should", x.should(leg, 2, 4), true);
        Check.due("readme moves", x.moves(), 1);
        Check.due("readme order", x.order(5000), 1);
        Check.due("readme order again", x.order(5000), NONE);
    }
}
