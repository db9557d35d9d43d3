import java.util.NoSuchElementException;

/** A test for each sentence of the document's terms that names a boundary; the sentence stands above its test. */
public final class BoundaryTest {
    private static final int NONE = HamCellar.NONE;
    private static final int LEAST = Integer.MIN_VALUE;
    private static final int MOST = Integer.MAX_VALUE;
    /** Ten times this is 14 where numbers wrap around, as if it were room 1, hook 4. */
    private static final int WRAPPING_ROOM = 429496731;

    public static void main(String[] args) {
        legsAndToday();
        roomsAndHooks();
        daysOfALeg();
        windows();
        rulesTold();
        textsRead();
        feedAndSeals();
        hooksToBe();
        orders();
        exceptions();
        promises();
        Check.close("BoundaryTest");
    }

    private static void legsAndToday() {
        sixtyLegsNumberedFromZero();
        farms();
        pigs();
        twoLegsOfAPig();
        firstWeights();
        today();
    }

    private static void roomsAndHooks() {
        warmths();
        damps();
        airAtFirst();
        hooks();
        oneLegOnAHook();
        whereALegIs();
    }

    private static void daysOfALeg() {
        aThousandthInSalt();
        nothingBelowAThousand();
        warmthBelowZero();
        dampOfAHundred();
        roundedDownByTen();
        roundedDownInHundredThousandths();
        driedToItsLeast();
        nothingOnTheTable();
        heatAboveTwelve();
        badAboveTwentyTimesSalted();
        badWithFewerDaysThanAThousandth();
        badForEver();
        soldLegsStayAsTheyAre();
    }

    private static void windows() {
        roomsWithWindows();
        outsideAtFirst();
        windowsAtADaysBegin();
        fromThenOn();
    }

    private static void rulesTold() {
        mostOfEachRule();
        daysAtLeast();
        lossAtLeast();
        lossOfTheMost();
        saltAtLeast();
        feedAtLeast();
        weightAtLeast();
        notToldIsZero();
        theLaterOfTwoAlike();
    }

    private static void textsRead() {
        oneToFiveDigits();
        wordsGoOn();
        blanksBetweenAll();
        onlyBlanksAreBlank();
        theFirstWrongByte();
        theTextsLength();
        fullTape();
    }

    private static void feedAndSeals() {
        feeds();
        feedFromADayOn();
        feedAsKnown();
        feedToldLast();
        sixtyFeeds();
        theFirstThatHolds();
        undoneByTheirRules();
        undoneOnlyIfNotSold();
    }

    private static void hooksToBe() {
        toldOfLegsThatHang();
        roomsToBe();
        hooksToldForTwo();
        notToldInTheWay();
        hangThereNoMore();
        fullRooms();
        saltIsNoHelp();
        ringsAndRows();
    }

    private static void orders() {
        gramsOfAnOrder();
        sealedOnHooksAndGood();
        theFirstFourteen();
        leastWeightThenFewestThenBits();
        allTogetherWeighLess();
    }

    private static void exceptions() {
        theExceptionToldFirst();
        numbersThatWrapAround();
    }

    private static void promises() {
        bytesOfTheTape();
        theHighestByteFirst();
        firstBytesAlone();
        rulesUseTheTapeUp();
        faultOfTheLatest();
        openOtherwise();
        lookAtAnotherWhat();
        countOfNothing();
        countOfAll();
    }

    /** A cellar with so many legs of one weight, each of its own pig, all of farm 0. */
    private static HamCellar cellar(int legs, int weight) {
        HamCellar x = new HamCellar();
        for (int i = 0; i < legs; i++) {
            x.leg(0, i, weight);
        }
        return x;
    }

    /** A cellar with one leg on a hook of room 1. */
    private static HamCellar dryingLeg(int weight, int warmth, int damp) {
        HamCellar x = cellar(1, weight);
        x.hang(0, 1, 0);
        x.air(1, warmth, damp);
        return x;
    }

    /** A cellar with one leg that was in salt from day 0 on, and lies on the table. */
    private static HamCellar saltedLeg(int weight, int days) {
        HamCellar x = cellar(1, weight);
        x.hang(0, 0, 0);
        x.days(days);
        x.take(0);
        return x;
    }

    /** A cellar with a sealed leg of each weight, on the hooks from room 1 on. */
    private static HamCellar sealed(int... weights) {
        HamCellar x = new HamCellar();
        for (int i = 0; i < weights.length; i++) {
            x.leg(0, i, weights[i]);
            x.hang(i, 1 + i / 10, i % 10);
            x.seal(i);
        }
        return x;
    }

    /** The sold legs as bits, the first leg the lowest. */
    private static long sold(HamCellar x) {
        long bits = 0;
        for (int i = 0; i < x.count(1); i++) {
            bits |= x.look(i, 4) == 2 ? 1L << i : 0;
        }
        return bits;
    }

    private static int lostInADay(int weight, int warmth, int damp) {
        HamCellar x = dryingLeg(weight, warmth, damp);
        x.days(1);
        return weight - x.look(0, 0);
    }

    // ---- 1: LEGS and TODAY

    /** LEGS (at most 60, numbered from 0 on); UnsupportedOperationException: there are 60. */
    private static void sixtyLegsNumberedFromZero() {
        HamCellar x = new HamCellar();
        Check.noIndex("no leg 0 at first", () -> x.look(0, 0));
        for (int i = 0; i < 60; i++) {
            Check.due("number", x.leg(i % 10, i, 5000 + i), i);
        }
        Check.due("the last is there", x.look(59, 0), 5059);
        Check.noIndex("no leg 60", () -> x.look(60, 0));
        Check.thrown("leg 61", UnsupportedOperationException.class, () -> x.leg(0, 60, 5000));
        Check.due("sixty stay", x.count(1), 60);
        x.hang(0, 1, 0);
        x.seal(0);
        x.order(1);
        Check.thrown("a sold leg makes no space", UnsupportedOperationException.class, () -> x.leg(0, 60, 5000));
    }

    /** a FARM (0 to 9) */
    private static void farms() {
        HamCellar x = new HamCellar();
        Check.due("farm 0", x.leg(0, 1, 5000), 0);
        Check.due("farm 9", x.leg(9, 2, 5000), 1);
        for (int farm : new int[] {-1, 10, LEAST, MOST}) {
            Check.noIndex("leg of farm " + farm, () -> x.leg(farm, 3, 5000));
            Check.noIndex("feed of farm " + farm, () -> x.fed(farm, 0, 0));
            Check.noIndex("known of farm " + farm, () -> x.known(farm, 0, 0));
        }
        Check.due("feed of farm 0", x.fed(0, 0, 1), 0);
        Check.due("feed of farm 9", x.fed(9, 0, 2), 0);
        Check.due("known of farm 0", x.known(0, 0, 0), 1);
        Check.due("known of farm 9", x.known(9, 0, 0), 2);
    }

    /** a PIG (0 to 9999) */
    private static void pigs() {
        HamCellar x = new HamCellar();
        Check.due("pig 0", x.leg(0, 0, 5000), 0);
        Check.due("pig 9999", x.leg(0, 9999, 5000), 1);
        Check.due("its number", x.look(1, 10), 9999);
        for (int pig : new int[] {-1, 10000, LEAST, MOST}) {
            Check.noArgument("pig " + pig, () -> x.leg(0, pig, 5000));
        }
    }

    /** each, whatever the FARM, gives two LEGS at most; NONE, and it does not come, if its PIG gave two. */
    private static void twoLegsOfAPig() {
        HamCellar x = new HamCellar();
        for (int pig : new int[] {0, 9999}) {
            int before = x.count(1);
            Check.due("one of " + pig, x.leg(0, pig, 5000), before);
            Check.due("two of " + pig, x.leg(9, pig, 5000), before + 1);
            for (int farm = 0; farm <= 9; farm++) {
                Check.due("three of " + pig, x.leg(farm, pig, 5000), NONE);
            }
            Check.due("it did not come", x.count(1), before + 2);
        }
        x.hang(0, 1, 0);
        x.seal(0);
        x.order(1);
        Check.due("a sold leg was given, too", x.leg(0, 0, 5000), NONE);
        Check.due("the next has the next number", x.leg(0, 1, 5000), 4);
    }

    /** 5000 to 15000 grams at first */
    private static void firstWeights() {
        HamCellar x = new HamCellar();
        Check.due("5000", x.leg(0, 1, 5000), 0);
        Check.due("15000", x.leg(0, 2, 15000), 1);
        for (int weight : new int[] {4999, 15001, 0, LEAST, MOST}) {
            Check.noArgument("weight " + weight, () -> x.leg(0, 3, weight));
        }
        Check.due("none of these came", x.count(1), 2);
        Check.due("first", x.look(1, 1), 15000);
        Check.due("weight", x.look(1, 0), 15000);
    }

    /** TODAY is 0 at first, 2000 at last; so many DAYS, as far as TODAY may go; not 0 to 200. */
    private static void today() {
        HamCellar x = cellar(1, 5000);
        Check.due("at first", x.count(0), 0);
        Check.due("no days", x.days(0), 0);
        for (int n : new int[] {-1, 201, LEAST, MOST}) {
            Check.noArgument("days " + n, () -> x.days(n));
        }
        for (int i = 1; i <= 9; i++) {
            x.days(200);
        }
        Check.due("1800", x.count(0), 1800);
        Check.due("1999", x.days(199), 1999);
        Check.due("heat of 1999 days", x.look(0, 3), 8 * 1999);
        Check.due("as far as it may go", x.days(200), 2000);
        Check.due("one day alone passed", x.look(0, 3), 8 * 2000);
        Check.due("none passes at last", x.days(200), 2000);
        Check.due("nor heats", x.look(0, 3), 8 * 2000);
        Check.noArgument("at last, too", () -> x.days(201));
        Check.due("no days at last", x.days(0), 2000);
        x.leg(0, 7, 5000);
        Check.due("begun on the last day", x.look(1, 11), 2000);
    }

    // ---- 1: ROOMS and HOOKS

    /** WARMTH (- 5 to 40) */
    private static void warmths() {
        HamCellar x = dryingLeg(5000, -5, 100);
        for (int room = 0; room <= 5; room++) {
            int told = room;
            x.air(told, -5, 50);
            x.air(told, 40, 50);
            for (int warmth : new int[] {-6, 41, LEAST, MOST}) {
                Check.noArgument("warmth " + warmth + " of " + told, () -> x.air(told, warmth, 50));
            }
        }
        x.days(1);
        Check.due("40 stays", x.look(0, 3), 28);
    }

    /** DAMP (0 to 100) */
    private static void damps() {
        HamCellar x = dryingLeg(15000, 40, 100);
        for (int room = 0; room <= 5; room++) {
            int told = room;
            x.air(told, 40, 100);
            x.air(told, 40, 0);
            for (int damp : new int[] {-1, 101, LEAST, MOST}) {
                Check.noArgument("damp " + damp + " of " + told, () -> x.air(told, 40, damp));
            }
        }
        x.days(1);
        Check.due("0 stays", x.look(0, 0), 15000 - 67);
    }

    /** 15 at first; 60 at first: of each room but the salt */
    private static void airAtFirst() {
        HamCellar x = cellar(6, 15000);
        for (int room = 0; room <= 5; room++) {
            x.hang(room, room, 9);
        }
        x.days(1);
        Check.due("the salt has no air", x.look(0, 0), 15000 - 15);
        Check.due("nor heat", x.look(0, 3), 0);
        for (int room = 1; room <= 5; room++) {
            Check.due("15 in room " + room, x.look(room, 3), 3);
            Check.due("40 times 20 by 10 in room " + room, x.look(room, 0), 15000 - 12);
        }
        for (int room = 1; room <= 5; room++) {
            HamCellar y = cellar(1, 14999);
            y.hang(0, room, 0);
            y.days(1);
            Check.due("not a gram more in room " + room, y.look(0, 0), 14999 - 11);
        }
    }

    /** ROOMS 0 to 5; HOOKS 0 to 9 in each ROOM */
    private static void hooks() {
        HamCellar x = cellar(60, 5000);
        for (int leg = 0; leg < 60; leg++) {
            Check.due("empty", x.on(leg / 10, leg % 10), NONE);
            Check.due("hung", x.hang(leg, leg / 10, leg % 10), true);
        }
        for (int leg = 0; leg < 60; leg++) {
            Check.due("on", x.on(leg / 10, leg % 10), leg);
        }
        Check.due("all hang", x.count(2), 60);
        for (int room : new int[] {-1, 6, LEAST, MOST, WRAPPING_ROOM}) {
            Check.noIndex("on room " + room, () -> x.on(room, 0));
            Check.noIndex("hang in room " + room, () -> x.hang(0, room, 0));
        }
        for (int hook : new int[] {-1, 10, LEAST, MOST}) {
            Check.noIndex("on hook " + hook, () -> x.on(1, hook));
            Check.noIndex("hang on hook " + hook, () -> x.hang(0, 1, hook));
        }
        Check.due("the first", x.on(0, 0), 0);
        Check.due("the last", x.on(5, 9), 59);
    }

    /** each with one LEG at most; false, and nothing happens, if that is not empty */
    private static void oneLegOnAHook() {
        HamCellar x = cellar(3, 5000);
        for (int room = 0; room <= 5; room++) {
            x.hang(0, room, 9);
            Check.due("another's hook in room " + room, x.hang(1, room, 9), false);
            Check.due("it stays on the table", x.look(1, 4), 0);
            Check.due("its own hook in room " + room, x.hang(0, room, 9), false);
            Check.due("the first stays", x.on(room, 9), 0);
        }
        x.hang(1, 3, 3);
        Check.due("from hook to a full one", x.hang(1, 5, 9), false);
        Check.due("it hangs where it hung", x.on(3, 3), 1);
        x.take(0);
        Check.due("empty again", x.hang(1, 5, 9), true);
        Check.due("and off the other", x.on(3, 3), NONE);
    }

    /** A LEG hangs on a HOOK, or lies on the table (at first), or was SOLD. */
    private static void whereALegIs() {
        HamCellar x = cellar(1, 5000);
        Check.due("on the table at first", x.look(0, 4), 0);
        Check.due("in no room", x.look(0, 5), NONE);
        Check.due("on no hook", x.look(0, 6), NONE);
        Check.due("it hung not", x.take(0), false);
        x.hang(0, 0, 0);
        Check.due("it hangs", x.look(0, 4), 1);
        Check.due("in room 0", x.look(0, 5), 0);
        Check.due("on hook 0", x.look(0, 6), 0);
        x.seal(0);
        x.order(1);
        Check.due("sold", x.look(0, 4), 2);
        Check.due("in no room", x.look(0, 5), NONE);
        Check.due("on no hook", x.look(0, 6), NONE);
        Check.due("not to be taken", x.take(0), false);
        Check.due("not to be hung", x.hang(0, 0, 0), false);
        Check.due("sold it stays", x.look(0, 4), 2);
        Check.due("and its hook empty", x.on(0, 0), NONE);
    }

    // ---- 1: A DAY

    /** SALTED is one more, WEIGHT is less by a thousandth of it, rounded down. */
    private static void aThousandthInSalt() {
        int[] weights = {5000, 5999, 6000, 14999, 15000};
        int[] less = {5, 5, 6, 14, 15};
        for (int i = 0; i < weights.length; i++) {
            HamCellar x = cellar(1, weights[i]);
            x.hang(0, 0, 9);
            x.days(1);
            Check.due("of " + weights[i], weights[i] - x.look(0, 0), less[i]);
            Check.due("salted", x.look(0, 2), 1);
        }
        HamCellar y = cellar(1, 5000);
        y.hang(0, 0, 0);
        y.days(2);
        Check.due("of what it weighs, not of the first", y.look(0, 0), 5000 - 5 - 4);
    }

    /** a thousandth of it, rounded down: none of less than a thousand grams */
    private static void nothingBelowAThousand() {
        HamCellar x = dryingLeg(5000, 40, 0);
        x.days(200);
        x.days(140);
        x.air(1, 35, 75);
        int over = x.look(0, 0) - 1000;
        Check.due("some grams over a thousand", over > 0 && over <= 200, true);
        x.days(over);
        Check.due("a gram a day down to a thousand", x.look(0, 0), 1000);
        x.hang(0, 0, 0);
        x.days(1);
        Check.due("a thousandth of a thousand", x.look(0, 0), 999);
        x.days(200);
        Check.due("none of 999", x.look(0, 0), 999);
        Check.due("but salted", x.look(0, 2), 201);
    }

    /** times 5 and WARMTH (5, if that is below 0) */
    private static void warmthBelowZero() {
        Check.due("at 1", lostInADay(10000, 1, 0), 6);
        Check.due("at 0", lostInADay(10000, 0, 0), 5);
        Check.due("at -1", lostInADay(10000, -1, 0), 5);
        Check.due("at -5", lostInADay(10000, -5, 0), 5);
        Check.due("at 40", lostInADay(10000, 40, 0), 45);
    }

    /** 100 less DAMP */
    private static void dampOfAHundred() {
        Check.due("at 100", lostInADay(15000, 40, 100), 0);
        Check.due("at 99: 45 by 10 is 4", lostInADay(15000, 40, 99), 0);
        Check.due("at 98: 90 by 10 is 9", lostInADay(15000, 40, 98), 1);
        Check.due("at 0", lostInADay(15000, 40, 0), 67);
    }

    /** by 10, rounded down: 4 times 17 is 6, and six of 15000 are less than a gram, as 6.8 were not */
    private static void roundedDownByTen() {
        Check.due("68 by 10", lostInADay(15000, 12, 96), 0);
        Check.due("70 by 10", lostInADay(15000, 5, 93), 1);
        Check.due("975 by 10 of 10309", lostInADay(10309, 10, 35), 9);
        Check.due("975 by 10 of 10310", lostInADay(10310, 10, 35), 10);
    }

    /** as much of it, in hundred thousandths, rounded down */
    private static void roundedDownInHundredThousandths() {
        Check.due("10 of 9999", lostInADay(9999, 5, 90), 0);
        Check.due("10 of 10000", lostInADay(10000, 5, 90), 1);
        Check.due("9 of 11111", lostInADay(11111, 13, 95), 0);
        Check.due("9 of 11112", lostInADay(11112, 13, 95), 1);
        Check.due("20 of 14999", lostInADay(14999, 5, 80), 2);
        Check.due("20 of 15000", lostInADay(15000, 5, 80), 3);
    }

    /** rounded down, at the most warmth and the least damp, until nothing of it is a gram */
    private static void driedToItsLeast() {
        HamCellar x = dryingLeg(5000, 40, 0);
        for (int i = 0; i < 10; i++) {
            x.days(200);
        }
        Check.due("450 hundred thousandths of 222 are less than a gram", x.look(0, 0), 222);
        Check.due("heat of 2000 days", x.look(0, 3), 56000);
        HamCellar y = dryingLeg(15000, 40, 0);
        for (int i = 0; i < 10; i++) {
            y.days(200);
        }
        Check.due("the heaviest, too", y.look(0, 0), 222);
        Check.due("its weight is counted", y.count(6), 222);
    }

    /** On the table: nothing. */
    private static void nothingOnTheTable() {
        HamCellar x = cellar(1, 15000);
        x.air(0, 40, 0);
        x.days(200);
        Check.due("no weight", x.look(0, 0), 15000);
        Check.due("no salt", x.look(0, 2), 0);
        Check.due("but 8 of heat a day", x.look(0, 3), 1600);
    }

    /** HEAT is more by WARMTH less 12 of its ROOM, if that is above 0 (on the table by 8) */
    private static void heatAboveTwelve() {
        int[] warmths = {-5, 0, 11, 12, 13, 40};
        int[] more = {0, 0, 0, 0, 1, 28};
        for (int i = 0; i < warmths.length; i++) {
            HamCellar x = cellar(1, 5000);
            x.days(1);
            x.hang(0, 5, 9);
            x.air(5, warmths[i], 100);
            x.days(1);
            Check.due("heat of " + warmths[i], x.look(0, 3), 8 + more[i]);
            x.hang(0, 0, 0);
            x.days(1);
            Check.due("none in the salt", x.look(0, 3), 8 + more[i]);
        }
    }

    /** it is BAD if HEAT is above 20 times SALTED */
    private static void badAboveTwentyTimesSalted() {
        HamCellar none = dryingLeg(5000, 12, 60);
        none.days(200);
        Check.due("0 is not above 0", none.look(0, 8), 0);
        none.air(1, 13, 60);
        none.days(1);
        Check.due("1 is above 0", none.look(0, 8), 1);
        HamCellar x = saltedLeg(10000, 2);
        x.days(5);
        Check.due("heat", x.look(0, 3), 40);
        Check.due("40 is not above 40", x.look(0, 8), 0);
        x.hang(0, 1, 0);
        x.air(1, 13, 60);
        x.days(1);
        Check.due("41 is above 40", x.look(0, 8), 1);
    }

    /** and SALTED is fewer days than a thousandth of FIRST, rounded down */
    private static void badWithFewerDaysThanAThousandth() {
        int[] firsts = {5000, 5999, 6000, 14999, 15000, 15000};
        int[] salted = {5, 5, 5, 14, 14, 15};
        int[] bad = {0, 0, 1, 0, 1, 0};
        for (int i = 0; i < firsts.length; i++) {
            HamCellar x = saltedLeg(firsts[i], salted[i]);
            x.days(200);
            Check.due(firsts[i] + " with " + salted[i] + " days in salt", x.look(0, 8), bad[i]);
        }
        HamCellar y = saltedLeg(6000, 5);
        Check.due("less than 6000 now", y.look(0, 0) < 6000, true);
        y.days(13);
        Check.due("it is of the first weight", y.look(0, 8), 1);
    }

    /** it is BAD, for ever */
    private static void badForEver() {
        HamCellar x = cellar(1, 5000);
        x.days(1);
        Check.due("bad", x.look(0, 8), 1);
        x.hang(0, 0, 0);
        x.days(200);
        Check.due("with salt enough", x.look(0, 8), 1);
        x.hang(0, 1, 0);
        x.air(1, -5, 100);
        x.days(200);
        Check.due("and in the cold", x.look(0, 8), 1);
        Check.due("no seal", x.seal(0), 3);
        Check.due("counted", x.count(4), 1);
    }

    /** each LEG that is not SOLD */
    private static void soldLegsStayAsTheyAre() {
        HamCellar x = sealed(5000, 6000);
        x.order(5000);
        x.days(200);
        Check.due("weight", x.look(0, 0), 5000);
        Check.due("heat", x.look(0, 3), 0);
        Check.due("not bad", x.look(0, 8), 0);
        Check.due("the other is", x.look(1, 8), 1);
        Check.due("bad ones", x.count(4), 1);
    }

    // ---- 1: WINDOWS

    /** WINDOWS of a ROOM (1 to 5), open or shut; WINDOWS shut at first */
    private static void roomsWithWindows() {
        HamCellar x = new HamCellar();
        for (int room = 1; room <= 5; room++) {
            Check.due("shut at first", x.open(room, false), false);
            Check.due("opened", x.open(room, true), true);
            Check.due("open", x.open(room, true), false);
        }
        for (int room = 1; room <= 5; room++) {
            Check.due("shut, each its own", x.open(room, false), true);
            Check.due("shut", x.open(room, false), false);
        }
        for (int room : new int[] {-1, 0, 6, LEAST, MOST}) {
            Check.noIndex("open " + room, () -> x.open(room, true));
            Check.noIndex("shut " + room, () -> x.open(room, false));
        }
    }

    /** OUTSIDE (told; 15 and 60 at first) */
    private static void outsideAtFirst() {
        for (int room = 1; room <= 5; room++) {
            HamCellar x = cellar(1, 15000);
            x.hang(0, room, 0);
            x.air(room, 40, 0);
            x.open(room, true);
            x.days(1);
            Check.due("15 in room " + room, x.look(0, 3), 3);
            Check.due("60 in room " + room, x.look(0, 0), 15000 - 12);
            HamCellar y = cellar(1, 14999);
            y.hang(0, room, 0);
            y.air(room, 40, 0);
            y.open(room, true);
            y.days(1);
            Check.due("not a gram more in room " + room, y.look(0, 0), 14999 - 11);
        }
    }

    /** at the begin of a DAY (ahead of all LEGS) each ROOM whose WINDOWS are open */
    private static void windowsAtADaysBegin() {
        HamCellar x = dryingLeg(5000, 20, 100);
        x.air(0, 40, 100);
        x.open(1, true);
        x.days(0);
        x.open(1, false);
        x.days(1);
        Check.due("no day began with them open", x.look(0, 3), 8);
        x.open(1, true);
        x.days(1);
        Check.due("ahead of the leg, on that very day", x.look(0, 3), 8 + 28);
        x.air(0, 12, 100);
        x.days(1);
        Check.due("each day", x.look(0, 3), 8 + 28);
        x.air(1, 40, 100);
        x.days(1);
        Check.due("what was told of the room is gone", x.look(0, 3), 8 + 28);
    }

    /** has, from then on, the WARMTH and DAMP of OUTSIDE */
    private static void fromThenOn() {
        HamCellar x = dryingLeg(15000, 15, 60);
        x.air(0, 40, 0);
        x.open(1, true);
        x.days(1);
        x.open(1, false);
        x.air(0, -5, 100);
        x.days(1);
        Check.due("warmth stays behind shut windows", x.look(0, 3), 56);
        Check.due("and damp", x.look(0, 0), 15000 - 67 - 67);
        x.air(1, 12, 100);
        x.days(1);
        Check.due("until it is told", x.look(0, 3), 56);
    }

    // ---- 2: THE RULES

    /** days (0 to 2000), loss (0 to 100), salt (0 to 99), feed (0 to 3), weight (0 to 15000) */
    private static void mostOfEachRule() {
        String[] words = {"days ", "loss ", "salt ", "feed ", "weight "};
        int[] most = {2000, 100, 99, 3, 15000};
        HamCellar x = new HamCellar();
        for (int i = 0; i < words.length; i++) {
            Check.due(words[i] + 0, Check.rules(x, words[i] + 0), 1);
            Check.due(words[i] + most[i], Check.rules(x, words[i] + most[i]), 1);
            Check.due("no fault", x.fault(), NONE);
            Check.refused(x, words[i] + (most[i] + 1), words[i].length());
            Check.refused(x, words[i] + 99999, words[i].length());
        }
    }

    /** days: since BEGUN, at least */
    private static void daysAtLeast() {
        HamCellar x = saltedLeg(5000, 5);
        Check.rules(x, "days 2000");
        for (int i = 0; i < 9; i++) {
            x.days(200);
        }
        x.days(194);
        Check.due("1999 days", x.seal(0), 4);
        x.days(1);
        Check.due("2000 days", x.seal(0), 0);
        HamCellar y = new HamCellar();
        y.days(200);
        y.leg(0, 0, 5000);
        Check.rules(y, "days 1");
        Check.due("since it was begun", y.seal(0), 4);
        Check.rules(y, "days 0");
        Check.due("0 days", y.seal(0), 0);
    }

    /** loss: hundredths of FIRST that it lost, at least, each rounded down */
    private static void lossAtLeast() {
        HamCellar x = cellar(1, 5000);
        x.hang(0, 0, 0);
        x.days(12);
        Check.due("49 grams are lost", 5000 - x.look(0, 0), 5 + 11 * 4);
        Check.rules(x, "loss 1");
        Check.due("49 of 50", x.seal(0), 5);
        x.days(1);
        Check.rules(x, "loss 2");
        Check.due("53 of 100", x.seal(0), 5);
        Check.rules(x, "loss 1");
        Check.due("53 of 50", x.seal(0), 0);
        HamCellar y = cellar(1, 5000);
        Check.rules(y, "loss 1");
        Check.due("nothing is lost", y.seal(0), 5);
        Check.rules(y, "loss 0");
        Check.due("nothing is asked", y.seal(0), 0);
        HamCellar z = cellar(1, 5099);
        z.hang(0, 0, 0);
        z.days(9);
        Check.rules(z, "loss 1");
        Check.due("45 of 50, a hundredth of 5099, rounded down", z.seal(0), 5);
        z.days(1);
        Check.due("50 are lost", z.look(0, 0), 5049);
        Check.due("50 of 50", z.seal(0), 0);
        HamCellar w = cellar(1, 15000);
        w.hang(0, 0, 0);
        w.days(10);
        w.hang(0, 1, 0);
        w.air(1, 1, 10);
        w.days(1);
        Check.due("149 are lost", w.look(0, 0), 14851);
        Check.rules(w, "loss 1");
        Check.due("149 of 150", w.seal(0), 5);
        w.days(1);
        Check.due("157 of 150", w.seal(0), 0);
    }

    /** loss (0 to 100): more than a leg can lose, which never weighs nothing */
    private static void lossOfTheMost() {
        HamCellar x = cellar(1, 5000);
        x.hang(0, 0, 0);
        x.days(5);
        x.hang(0, 1, 0);
        x.air(1, 40, 0);
        for (int i = 0; i < 10; i++) {
            x.days(200);
        }
        Check.due("it weighs", x.look(0, 0), 222);
        Check.rules(x, "loss 100");
        Check.due("100", x.seal(0), 5);
        Check.rules(x, "loss 96");
        Check.due("4778 of 4800", x.seal(0), 5);
        Check.rules(x, "loss 95");
        Check.due("4778 of 4750", x.seal(0), 0);
    }

    /** salt: SALTED, at least */
    private static void saltAtLeast() {
        HamCellar x = cellar(1, 15000);
        x.hang(0, 0, 0);
        Check.rules(x, "salt 99");
        x.days(98);
        Check.due("98 days in salt", x.seal(0), 6);
        x.days(1);
        Check.due("99 days in salt", x.seal(0), 0);
    }

    /** feed: what its FARM feeds, as known, at least */
    private static void feedAtLeast() {
        HamCellar x = cellar(1, 5000);
        Check.rules(x, "feed 1");
        Check.due("0 without one", x.seal(0), 7);
        x.fed(0, 0, 2);
        Check.rules(x, "feed 3");
        Check.due("2 of 3", x.seal(0), 7);
        x.fed(0, 0, 3);
        Check.due("3 of 3", x.seal(0), 0);
    }

    /** weight: grams, at least */
    private static void weightAtLeast() {
        HamCellar x = new HamCellar();
        x.leg(0, 0, 14999);
        x.leg(0, 1, 15000);
        Check.rules(x, "weight 15000");
        Check.due("14999", x.seal(0), 8);
        Check.due("15000", x.seal(1), 0);
        HamCellar y = cellar(1, 15000);
        y.hang(0, 0, 0);
        y.days(1);
        Check.rules(y, "weight 14986");
        Check.due("it is the weight now", y.seal(0), 8);
        Check.rules(y, "weight 14985");
        Check.due("14985", y.seal(0), 0);
    }

    /** What a text does not tell is 0. */
    private static void notToldIsZero() {
        String[] told = {"days 1", "loss 1", "salt 1", "feed 1", "weight 15000"};
        for (int i = 0; i < told.length; i++) {
            HamCellar x = cellar(1, 5000);
            Check.rules(x, told[i]);
            Check.due(told[i], x.seal(0), 4 + i);
            Check.rules(x, told[(i + 1) % 5].substring(0, told[(i + 1) % 5].indexOf(' ')) + " 0");
            Check.due(told[i] + " is told no more", x.seal(0), 0);
        }
    }

    /** Of two alike the later one counts. */
    private static void theLaterOfTwoAlike() {
        String[] words = {"days", "loss", "salt", "feed", "weight"};
        int[] most = {2000, 100, 99, 3, 15000};
        for (int i = 0; i < words.length; i++) {
            HamCellar x = cellar(1, 5000);
            String less = words[i] + " 0";
            String more = words[i] + " " + most[i];
            Check.due("two rules", Check.rules(x, less + ";" + more), 2);
            Check.due("the later " + words[i] + " is more", x.seal(0), 4 + i);
            Check.due("three rules", Check.rules(x, more + ";" + words[(i + 1) % 5] + " 0;" + less), 3);
            Check.due("the later " + words[i] + " is less", x.seal(0), 0);
        }
    }

    // ---- 2: the text

    /** A NUMBER: 1 to 5 digits; a NUMBER of more digits */
    private static void oneToFiveDigits() {
        HamCellar x = cellar(1, 5000);
        Check.due("one digit", Check.rules(x, "days 0"), 1);
        Check.due("five digits", Check.rules(x, "days 00000"), 1);
        Check.due("five digits that count", Check.rules(x, "weight 15000"), 1);
        Check.due("they count", x.seal(0), 8);
        Check.due("noughts ahead", Check.rules(x, "feed 00003"), 1);
        Check.due("they count", x.seal(0), 7);
        Check.refused(x, "days 000000", 5);
        Check.refused(x, "days 000001 ", 5);
        Check.refused(x, "weight 150000", 7);
        Check.refused(x, "days 4294967296", 5);
        Check.refused(x, "days 18446744073709551616", 5);
        Check.refused(x, "days;", 4);
        Check.refused(x, "days ;", 5);
        Check.refused(x, "days /", 5);
        Check.refused(x, "days :", 5);
        Check.refused(x, "days 1/", 6);
        Check.refused(x, "days 1:", 6);
        Check.refused(x, "days +1", 5);
        Check.refused(x, "days -1", 5);
        Check.due("all stays", x.seal(0), 7);
    }

    /** Words are as long as a to z go on; a word that is none */
    private static void wordsGoOn() {
        HamCellar x = new HamCellar();
        Check.due("to a digit", Check.rules(x, "days1;loss1;salt1;feed1;weight1"), 5);
        Check.refused(x, "daysa 1", 0);
        Check.refused(x, "daysz 1", 0);
        Check.refused(x, "day 1", 0);
        Check.refused(x, "day", 0);
        Check.refused(x, "daysdays 1", 0);
        Check.refused(x, "days loss 1", 5);
        Check.refused(x, "days`1", 4);
        Check.refused(x, "days{1", 4);
        Check.refused(x, "daysA 1", 4);
        Check.refused(x, "Days 1", 0);
        Check.refused(x, "days 1;DAYS 1", 7);
        Check.refused(x, "days 1;a", 7);
        Check.refused(x, "days 1; z 1", 8);
        Check.refused(x, "rule 1", 0);
        Check.refused(x, "days 1;feeds 1", 7);
        for (String word : new String[] {"days", "loss", "salt", "feed", "weight"}) {
            for (int at = 0; at < word.length(); at++) {
                Check.refused(x, word.substring(0, at) + "q" + word.substring(at + 1) + " 1", 0);
                Check.refused(x, word.substring(0, at) + word.substring(at + 1) + " 1", 0);
            }
        }
    }

    /** between all there may be blanks (32), also ahead and behind */
    private static void blanksBetweenAll() {
        HamCellar x = cellar(1, 5000);
        Check.due("none", Check.rules(x, "days0;weight5001"), 2);
        Check.due("no blank, it counts", x.seal(0), 8);
        Check.due("one each", Check.rules(x, " days 0 ; feed 1 "), 2);
        Check.due("with blanks, it counts", x.seal(0), 7);
        Check.due("many", Check.rules(x, "     days     1    ;     salt     0     "), 2);
        Check.due("with many, it counts", x.seal(0), 4);
        Check.refused(x, "da ys 1", 0);
        Check.refused(x, "weight 1 5", 9);
        Check.refused(x, "days 1 0", 7);
        Check.refused(x, "days 1 ; ; days 1", 9);
    }

    /** blanks (32): no other byte is one */
    private static void onlyBlanksAreBlank() {
        HamCellar x = new HamCellar();
        for (int sign : new int[] {0, 9, 10, 13, 31, 33, 127, 128, 160, 255}) {
            Check.refused(x, (char) sign + "days 1", 0);
            Check.refused(x, "days" + (char) sign + "1", 4);
            Check.refused(x, "days 1" + (char) sign, 6);
            Check.refused(x, "days 1; " + (char) sign, 8);
        }
    }

    /** The first wrong byte: the begin of the first thing that cannot stand there */
    private static void theFirstWrongByte() {
        HamCellar x = new HamCellar();
        Check.refused(x, ";", 0);
        Check.refused(x, "1", 0);
        Check.refused(x, "  7", 2);
        Check.refused(x, "days 2001;loss 101", 5);
        Check.refused(x, "days 2000;loss 101", 15);
        Check.refused(x, "days 1;loss 1;salt 100", 19);
        Check.refused(x, "days 1 salt 1", 7);
        Check.refused(x, "days 1,salt 1", 6);
        Check.refused(x, "days 1;;salt 1", 7);
        Check.refused(x, "days = 1", 5);
    }

    /** or the text's length, if more must come */
    private static void theTextsLength() {
        HamCellar x = new HamCellar();
        Check.refused(x, "", 0);
        Check.refused(x, " ", 1);
        Check.refused(x, "                    ", 20);
        for (String word : new String[] {"days", "loss", "salt", "feed", "weight"}) {
            Check.refused(x, word, word.length());
            Check.refused(x, word + "   ", word.length() + 3);
            Check.refused(x, word + " 1;", word.length() + 3);
            Check.refused(x, word + " 1 ; ", word.length() + 5);
        }
        Check.noArgument("nothing was fed", () -> new HamCellar().rules());
    }

    /** if it would have more than 400 bytes: a text of just so many */
    private static void fullTape() {
        HamCellar x = cellar(1, 5000);
        StringBuilder text = new StringBuilder("days 1");
        while (text.length() < 394) {
            text.append(' ');
        }
        Check.due("a rule in the last bytes", Check.rules(x, text + ";salt1"), 2);
        Check.due("it counts", x.seal(0), 4);
        Check.refused(x, text + ";salt ", 400);
        Check.refused(x, text + "     x", 399);
        Check.refused(x, text + "     ;", 400);
        StringBuilder digits = new StringBuilder("days ");
        while (digits.length() < 400) {
            digits.append('0');
        }
        Check.refused(x, digits.toString(), 5);
        StringBuilder letters = new StringBuilder();
        StringBuilder blanks = new StringBuilder();
        for (int i = 0; i < 400; i++) {
            letters.append('z');
            blanks.append(' ');
        }
        Check.refused(x, letters.toString(), 0);
        Check.refused(x, blanks.toString(), 400);
    }

    // ---- 2: FEED and seals

    /** FEED of a FARM (0 to 3); IllegalArgumentException: FEED is none, or the day not 0 to 2000 */
    private static void feeds() {
        HamCellar x = new HamCellar();
        x.fed(0, 0, 3);
        Check.due("3", x.known(0, 0, 0), 3);
        x.fed(0, 0, 0);
        Check.due("0", x.known(0, 0, 0), 0);
        x.fed(0, 2000, 2);
        Check.due("of day 2000", x.known(0, 2000, 0), 2);
        Check.due("of day 1999", x.known(0, 1999, 0), 0);
        for (int what : new int[] {-1, 4, LEAST, MOST}) {
            Check.noArgument("feed " + what, () -> x.fed(0, 0, what));
        }
        for (int from : new int[] {-1, 2001, LEAST, MOST}) {
            Check.noArgument("from " + from, () -> x.fed(0, from, 3));
        }
        Check.due("three are told", x.count(8), 3);
        Check.due("none of the others is known", x.known(0, MOST, MOST), 2);
    }

    /** of a day D: for days from D or an earlier one on; 0 without one */
    private static void feedFromADayOn() {
        HamCellar x = new HamCellar();
        Check.due("nothing is told", x.known(0, 0, 0), 0);
        x.fed(0, 10, 3);
        Check.due("ahead of it", x.known(0, 9, 0), 0);
        Check.due("from it", x.known(0, 10, 0), 3);
        Check.due("behind it", x.known(0, 11, 0), 3);
        Check.due("far behind it", x.known(0, MOST, 0), 3);
        Check.due("far ahead of it", x.known(0, LEAST, 0), 0);
        Check.due("of another farm", x.known(1, 10, 0), 0);
        x.fed(0, 0, 1);
        Check.due("from day 0", x.known(0, 0, 0), 1);
        Check.due("ahead of day 0", x.known(0, -1, 0), 0);
        Check.due("that of the latest such day", x.known(0, 10, 0), 3);
    }

    /** as known at a day K: of what was told up to K */
    private static void feedAsKnown() {
        HamCellar x = new HamCellar();
        x.days(5);
        x.fed(0, 0, 1);
        x.days(5);
        x.fed(0, 0, 2);
        Check.due("ahead of all", x.known(0, 3, 4), 0);
        Check.due("on the day", x.known(0, 3, 5), 1);
        Check.due("a day ahead of the other", x.known(0, 3, 9), 1);
        Check.due("on the other's day", x.known(0, 3, 10), 2);
        Check.due("days to come", x.known(0, 3, MOST), 2);
        Check.due("ahead of day 0", x.known(0, 3, -1), 0);
        Check.due("far ahead", x.known(0, 3, LEAST), 0);
    }

    /** of several the one told last */
    private static void feedToldLast() {
        HamCellar x = new HamCellar();
        x.fed(0, 7, 3);
        x.fed(0, 7, 1);
        Check.due("told last on one day", x.known(0, 7, 0), 1);
        x.fed(0, 6, 2);
        Check.due("an earlier day's is told last, and does not count", x.known(0, 7, 0), 1);
        Check.due("it counts on its own day", x.known(0, 6, 0), 2);
        x.fed(1, 7, 3);
        Check.due("another farm's does not count", x.known(0, 7, 0), 1);
        x.days(1);
        x.fed(0, 7, 0);
        Check.due("told last on another day", x.known(0, 7, 1), 0);
    }

    /** (At most 60 are told.) NONE, and it is not told, if there are 60. */
    private static void sixtyFeeds() {
        HamCellar x = cellar(1, 5000);
        for (int i = 0; i < 60; i++) {
            Check.due("told", x.fed(i % 10, 0, 2), 0);
        }
        Check.rules(x, "feed 2");
        Check.due("sealed", x.seal(0), 0);
        Check.due("one more", x.fed(0, 0, 0), NONE);
        Check.due("sixty", x.count(8), 60);
        Check.due("not told", x.known(0, 0, 0), 2);
        Check.due("nothing is undone", x.look(0, 7), 1);
        Check.noIndex("a wrong farm still throws", () -> x.fed(10, 0, 0));
        Check.noArgument("a wrong feed still throws", () -> x.fed(0, 0, 4));
    }

    /** what is AGAINST it, the first that holds: 1 to 8 */
    private static void theFirstThatHolds() {
        HamCellar x = new HamCellar();
        x.leg(0, 0, 5000);
        x.hang(0, 1, 0);
        String[] told = {"days 1", "loss 1", "salt 1", "feed 1", "weight 15000"};
        for (int i = 0; i < 5; i++) {
            for (int j = i; j < 5; j++) {
                Check.rules(x, told[j] + ";" + told[i]);
                Check.due(told[i] + " ahead of " + told[j], x.seal(0), 4 + i);
            }
        }
        x.leg(0, 1, 6000);
        x.hang(1, 1, 1);
        Check.rules(x, "days 0");
        Check.due("0", x.seal(0), 0);
        x.seal(1);
        x.order(6000);
        Check.rules(x, "days 1;weight 15000");
        Check.due("sealed ahead of days", x.seal(0), 2);
        x.days(1);
        Check.due("sealed ahead of bad", x.look(0, 8) * 10 + x.seal(0), 12);
        Check.due("sold ahead of sealed", x.look(1, 7) * 10 + x.seal(1), 11);
        x.leg(0, 2, 5000);
        x.days(1);
        Check.rules(x, "days 2000;weight 15000");
        Check.due("bad ahead of days", x.seal(2), 3);
    }

    /** SEALED, by the RULES as they are then; UNDONE: for which feed of those RULES would be AGAINST it now */
    private static void undoneByTheirRules() {
        HamCellar x = cellar(4, 5000);
        x.fed(0, 0, 3);
        for (int feed = 0; feed <= 3; feed++) {
            Check.rules(x, "feed " + feed);
            x.seal(feed);
        }
        Check.rules(x, "feed 3;days 2000;weight 15000");
        Check.due("3 is still fed", x.fed(0, 0, 3), 0);
        Check.due("2 undoes that of 3", x.fed(0, 0, 2), 1);
        Check.due("it is undone once", x.fed(0, 0, 2), 0);
        Check.due("of another farm", x.fed(1, 0, 0), 0);
        Check.due("behind the day on which they begun", x.fed(0, 1, 0), 0);
        Check.due("0 undoes those of 1 and 2", x.fed(0, 0, 0), 2);
        Check.due("never that of 0", x.look(0, 7), 1);
        Check.due("those not", x.look(1, 7) + x.look(2, 7) + x.look(3, 7), 0);
        Check.due("one is sealed", x.count(3), 1);
        x.fed(0, 0, 3);
        Check.due("sealed no more, whatever is told", x.count(3), 1);
        Check.due("asked for again: by the rules now", x.seal(3), 4);
    }

    /** UNDONE: a SEALED LEG, not SOLD */
    private static void undoneOnlyIfNotSold() {
        HamCellar x = new HamCellar();
        x.fed(0, 0, 1);
        Check.rules(x, "feed 1");
        for (int i = 0; i < 3; i++) {
            x.leg(0, i, 5000 + i);
            x.hang(i, 1, i);
            x.seal(i);
        }
        x.order(5000);
        x.take(1);
        Check.due("on the table and on a hook", x.fed(0, 0, 0), 2);
        Check.due("the sold one stays sealed", x.look(0, 7), 1);
        Check.due("it is counted", x.count(3), 1);
        Check.due("nothing is left to sell", x.order(1), NONE);
    }

    // ---- 3: HOOKS TO BE

    /** of LEGS that hang it may be told (of whatever ROOM but 0, and of none in ROOM 0) */
    private static void toldOfLegsThatHang() {
        HamCellar x = sealed(5000, 6000);
        x.leg(0, 9, 5000);
        x.hang(2, 0, 0);
        Check.due("in room 0", x.should(2, 1, 5), false);
        x.take(2);
        Check.due("on the table", x.should(2, 1, 5), false);
        x.order(5000);
        Check.due("sold", x.should(0, 1, 5), false);
        Check.due("none is told", x.count(9), 0);
        Check.due("its hook is free to be told", x.should(1, 1, 5), true);
        Check.due("one is told", x.count(9), 1);
    }

    /** should hang on a HOOK of a ROOM (1 to 5) */
    private static void roomsToBe() {
        HamCellar x = sealed(5000);
        for (int room = 1; room <= 5; room++) {
            Check.due("first hook of " + room, x.should(0, room, 0), true);
            Check.due("last hook of " + room, x.should(0, room, 9), true);
        }
        Check.due("the latest counts", x.count(9), 1);
        for (int room : new int[] {-1, 0, 6, LEAST, MOST, WRAPPING_ROOM}) {
            Check.noIndex("room " + room, () -> x.should(0, room, 0));
        }
        for (int hook : new int[] {-1, 10, LEAST, MOST}) {
            Check.noIndex("hook " + hook, () -> x.should(0, 1, hook));
        }
        Check.due("told still", x.count(9), 1);
        Check.due("one move to the last", x.moves(), 1);
    }

    /** HOOKS told for two LEGS are refused; false, and it is not told, if that HOOK is told for another LEG */
    private static void hooksToldForTwo() {
        HamCellar x = sealed(5000, 5000);
        x.should(0, 3, 3);
        Check.due("refused", x.should(1, 3, 3), false);
        Check.due("not told", x.count(9), 1);
        Check.due("for itself it may be told again", x.should(0, 3, 3), true);
        x.should(1, 4, 4);
        Check.due("refused again", x.should(1, 3, 3), false);
        Check.due("two are told", x.count(9), 2);
        x.take(0);
        Check.due("though that one hangs no more", x.should(1, 3, 3), false);
        x.should(1, 4, 4);
        Check.due("what was told first stays: one move", x.moves(), 1);
        Check.due("free, as nothing is told any more", x.should(1, 3, 3), true);
    }

    /** those not told hang on HOOKS that are told for none (else none), and stay */
    private static void notToldInTheWay() {
        HamCellar x = sealed(5000, 5000, 5000);
        x.should(0, 1, 1);
        Check.due("one is in the way", x.moves(), NONE);
        x.should(0, 1, 1);
        x.should(1, 1, 1);
        Check.due("told for two is refused, so it is in the way", x.moves(), NONE);
        x.should(0, 1, 1);
        x.should(1, 1, 2);
        Check.due("in the way behind one that moves", x.moves(), NONE);
        x.should(0, 1, 1);
        x.should(1, 1, 3);
        Check.due("told to go", x.moves(), 2);
        x.should(0, 1, 0);
        x.should(1, 1, 1);
        Check.due("all hang where they should", x.moves(), 0);
    }

    /** (LEGS that hang there no more, or in ROOM 0, as it is asked, count for nothing.) */
    private static void hangThereNoMore() {
        HamCellar x = sealed(5000, 6000, 7000);
        x.should(0, 1, 1);
        x.take(0);
        Check.due("on the table, so that 1 is in nobody's way", x.moves(), 0);
        Check.due("told no more", x.count(9), 0);
        x.hang(0, 1, 0);
        x.should(0, 1, 1);
        x.hang(0, 0, 0);
        Check.due("in the salt", x.moves(), 0);
        x.hang(0, 1, 0);
        x.should(0, 1, 1);
        x.should(2, 4, 4);
        x.order(5000);
        Check.due("told still, though sold", x.count(9), 2);
        Check.due("sold: the other's move alone", x.moves(), 1);
        x.should(1, 1, 2);
        x.should(2, 1, 1);
        x.take(2);
        Check.due("the other half of a ring is gone", x.moves(), 1);
    }

    /** None, if no such row of moves is possible: all hooks but those of the salt are full */
    private static void fullRooms() {
        HamCellar x = cellar(50, 5000);
        for (int i = 0; i < 50; i++) {
            x.hang(i, 1 + i / 10, i % 10);
        }
        Check.due("nothing is told", x.moves(), 0);
        x.should(0, 1, 0);
        x.should(49, 5, 9);
        Check.due("all hang where they should", x.moves(), 0);
        x.should(0, 5, 9);
        x.should(49, 1, 0);
        Check.due("no empty hook", x.moves(), NONE);
        Check.due("nothing is told any more", x.count(9), 0);
        x.take(25);
        x.should(0, 5, 9);
        x.should(49, 1, 0);
        Check.due("one empty hook", x.moves(), 3);
    }

    /** to one that is empty just then, of whatever ROOM but 0 */
    private static void saltIsNoHelp() {
        HamCellar x = cellar(51, 5000);
        for (int i = 0; i < 50; i++) {
            x.hang(i, 1 + i / 10, i % 10);
        }
        x.should(0, 1, 1);
        x.should(1, 1, 0);
        Check.due("ten empty hooks in the salt", x.moves(), NONE);
        x.hang(50, 0, 0);
        x.should(0, 1, 1);
        x.should(1, 1, 0);
        Check.due("nine", x.moves(), NONE);
    }

    /** the least number of moves: one for each leg, and one more for each ring */
    private static void ringsAndRows() {
        HamCellar x = cellar(50, 5000);
        for (int i = 0; i < 49; i++) {
            x.hang(i, 1 + i / 10, i % 10);
        }
        for (int i = 0; i < 49; i++) {
            Check.due("a row", x.should(i, 1 + (i + 1) / 10, (i + 1) % 10), true);
        }
        Check.due("49 legs in a row", x.moves(), 49);
        for (int i = 0; i < 49; i++) {
            int next = (i + 1) % 49;
            x.should(i, 1 + next / 10, next % 10);
        }
        Check.due("49 legs in a ring", x.moves(), 50);
        for (int i = 0; i < 48; i++) {
            x.should(i, 1 + (i ^ 1) / 10, (i ^ 1) % 10);
        }
        Check.due("24 rings of two", x.moves(), 72);
    }

    // ---- 4: ORDERS

    /** at least GRAMS (1 to 200000); IllegalArgumentException: GRAMS are none */
    private static void gramsOfAnOrder() {
        HamCellar x = sealed(5000, 6000);
        for (int grams : new int[] {0, -1, 200001, LEAST, MOST}) {
            Check.noArgument("order " + grams, () -> x.order(grams));
        }
        Check.due("200000", x.order(200000), NONE);
        Check.due("none is sold", x.count(5), 0);
        Check.due("1", x.order(1), 1);
        Check.due("the lightest", sold(x), 1);
        Check.due("just so much", x.order(6000), 1);
        int[] heaviest = new int[14];
        java.util.Arrays.fill(heaviest, 15000);
        HamCellar y = sealed(heaviest);
        Check.due("200000 of 210000", y.order(200000), 14);
    }

    /** from SEALED LEGS on HOOKS that are not BAD */
    private static void sealedOnHooksAndGood() {
        HamCellar x = sealed(5000, 5100, 5200, 5300);
        x.leg(0, 10, 5000);
        x.hang(4, 2, 0);
        x.take(0);
        Check.due("not sealed, or on the table", x.order(1), 1);
        Check.due("the lightest else", sold(x), 2);
        x.hang(2, 0, 0);
        x.days(1);
        Check.due("the other is bad", x.look(3, 8), 1);
        Check.due("one is good, in the salt", x.order(1), 1);
        Check.due("that one", sold(x), 2 | 4);
        x.hang(0, 0, 1);
        Check.due("bad on the table, it stays bad", x.order(1), NONE);
        Check.due("off its hook", x.on(0, 0), NONE);
    }

    /** (the first 14 by numbers) */
    private static void theFirstFourteen() {
        int[] weights = new int[15];
        for (int i = 0; i < 15; i++) {
            weights[i] = 6000;
        }
        weights[14] = 5000;
        HamCellar x = sealed(weights);
        Check.due("15 are too many", x.order(84001), NONE);
        Check.due("the fifteenth is not among them", x.order(5000), 1);
        Check.due("the first", sold(x), 1);
        Check.due("it comes up", x.order(5000), 1);
        Check.due("now it is the fourteenth", sold(x), 1 | 1 << 14);
        HamCellar y = sealed(weights);
        Check.due("all 14", y.order(84000), 14);
        Check.due("14 bits", sold(y), (1 << 14) - 1);
        Check.due("the one that is left", y.order(5000), 1);
        Check.due("nothing", y.order(1), NONE);
    }

    /** of all such sets that of the least weight, of several that of the fewest LEGS, of these the least bits */
    private static void leastWeightThenFewestThenBits() {
        HamCellar x = sealed(9000, 5000, 5001);
        Check.due("two weigh less over 9001 than any other", x.order(9001), 2);
        Check.due("10001 of 5000 and 5001", sold(x), 6);
        HamCellar y = sealed(5000, 6000, 11000);
        Check.due("one is fewer than two", y.order(10500), 1);
        Check.due("11000", sold(y), 4);
        HamCellar z = sealed(5000, 6000, 5000, 6000);
        Check.due("of four alike", z.order(11000), 2);
        Check.due("the least bits", sold(z), 3);
        HamCellar w = sealed(5000, 6000, 8000, 9000);
        Check.due("14000 of bits 9, or of bits 6", w.order(14000), 2);
        Check.due("6 are less", sold(w), 6);
    }

    /** None, if all together weigh less. */
    private static void allTogetherWeighLess() {
        HamCellar x = new HamCellar();
        Check.due("no legs", x.order(1), NONE);
        HamCellar y = sealed(5000, 6000);
        Check.due("a gram more than all", y.order(11001), NONE);
        Check.due("nothing happens", y.count(2), 2);
        Check.due("just all", y.order(11000), 2);
        Check.due("weight of all sold", y.count(7), 11000);
        Check.due("none is left", y.order(1), NONE);
    }

    // ---- the sentences behind part 4

    /** Of several exceptions the one told first is thrown. */
    private static void theExceptionToldFirst() {
        HamCellar x = cellar(60, 5000);
        Check.noIndex("farm ahead of pig, weight, sixty", () -> x.leg(10, -1, 0));
        Check.noArgument("pig ahead of sixty", () -> x.leg(9, 10000, 5000));
        Check.noArgument("weight ahead of sixty", () -> x.leg(9, 9999, 15001));
        Check.thrown("sixty", UnsupportedOperationException.class, () -> x.leg(9, 9999, 15000));
        Check.noIndex("room ahead of warmth and damp", () -> x.air(6, 41, 101));
        Check.noIndex("farm ahead of feed and day", () -> x.fed(-1, -1, -1));
        Check.noIndex("leg ahead of what", () -> x.look(60, 12));
        Check.thrown("what", NoSuchElementException.class, () -> x.look(59, 12));
    }

    /** IndexOutOfBoundsException: there is no such LEG, FARM, ROOM, HOOK; also where room times ten wraps around. */
    private static void numbersThatWrapAround() {
        HamCellar x = sealed(5000);
        x.hang(0, 1, 4);
        for (int room : new int[] {WRAPPING_ROOM, 858993461, -858993458, LEAST, MOST}) {
            Check.noIndex("on", () -> x.on(room, 0));
            Check.noIndex("hang", () -> x.hang(0, room, 1));
            Check.noIndex("should", () -> x.should(0, room, 1));
            Check.noIndex("air", () -> x.air(room, 15, 60));
            Check.noIndex("open", () -> x.open(room, true));
        }
        for (int hook : new int[] {14, 10, -6, 1 << 30}) {
            Check.noIndex("hook of the room ahead or behind", () -> x.on(1, hook));
            Check.noIndex("hang there", () -> x.hang(0, 2, hook));
            Check.noIndex("should there", () -> x.should(0, 2, hook));
        }
        for (int leg : new int[] {1, -1, 60, 1 << 8, LEAST, MOST}) {
            Check.noIndex("hang", () -> x.hang(leg, 2, 2));
            Check.noIndex("take", () -> x.take(leg));
            Check.noIndex("seal", () -> x.seal(leg));
            Check.noIndex("look", () -> x.look(leg, 0));
            Check.noIndex("should", () -> x.should(leg, 2, 2));
        }
        Check.due("it hangs where it hung", x.on(1, 4), 0);
    }

    // ---- the promises

    /** how many it has; NONE, and none come, if it would have more than 400 */
    private static void bytesOfTheTape() {
        HamCellar x = new HamCellar();
        for (int bytes = 20; bytes <= 400; bytes += 20) {
            Check.due("feed", x.feed(0, 0, 0, 0, 0), bytes);
        }
        Check.due("420", x.feed(0, 0, 0, 0, 0), NONE);
        Check.due("none came", x.end(401), false);
        x.end(381);
        Check.due("401", x.feed(0, 0, 0, 0, 0), NONE);
        Check.due("not even some", x.end(382), false);
        x.end(380);
        Check.due("400", x.feed(LEAST, MOST, -1, 0, 1), 400);
        x.end(0);
        Check.due("from the begin", x.feed(0, 0, 0, 0, 0), 20);
    }

    /** Twenty bytes come behind the TAPE, of each number the highest first */
    private static void theHighestByteFirst() {
        HamCellar x = new HamCellar();
        String text = "days 0;feed 0;loss 0";
        for (int number = 0; number < 5; number++) {
            for (int of = 0; of < 4; of++) {
                int at = 4 * number + of;
                int[] numbers = {0x64617973, 0x20303b66, 0x65656420, 0x303b6c6f, 0x73732030};
                int shift = 24 - 8 * of;
                Check.due("byte " + at, numbers[number] >> shift & 255, text.charAt(at));
                numbers[number] = numbers[number] & ~(255 << shift) | 255 << shift;
                x.feed(numbers[0], numbers[1], numbers[2], numbers[3], numbers[4]);
                Check.noArgument("255 at " + at, x::rules);
                boolean endsAWord = text.charAt(at) >= 'a' && at > 0 && text.charAt(at - 1) >= 'a';
                int due = endsAWord ? text.lastIndexOf(';', at) + 1 : at;
                Check.due("fault of 255 at " + at, x.fault(), due);
            }
        }
        x.feed(0x64617973, 0x20303b66, 0x65656420, 0x303b6c6f, 0x73732030);
        Check.due("the text itself", x.rules(), 3);
    }

    /** The TAPE has its first n bytes alone: false, if it has fewer, or n is below 0. */
    private static void firstBytesAlone() {
        HamCellar x = new HamCellar();
        Check.due("0 of none", x.end(0), true);
        Check.due("1 of none", x.end(1), false);
        x.feed(0x64617973, 0x20303b66, 0x65656420, 0x303b6c6f, 0x73732030);
        for (int n : new int[] {-1, 21, LEAST, MOST}) {
            Check.due("end " + n, x.end(n), false);
        }
        Check.due("20 of 20", x.end(20), true);
        Check.due("13 of 20", x.end(13), true);
        Check.due("14 of 13", x.end(14), false);
        Check.due("the first two rules", x.rules(), 2);
        x.feed(0x64617973, 0x20303b66, 0x65656420, 0x303b6c6f, 0x73732030);
        x.end(6);
        x.feed(0x3b3b3b3b, 0, 0, 0, 0);
        x.end(8);
        Check.noArgument("others come behind what is left", x::rules);
        Check.due("there", x.fault(), 7);
    }

    /** Uses the TAPE up: also by one that is refused */
    private static void rulesUseTheTapeUp() {
        HamCellar x = cellar(1, 5000);
        Check.rules(x, "days 1");
        Check.due("used up", x.end(1), false);
        Check.noArgument("an empty text is none", x::rules);
        Check.refused(x, "days 0;day", 7);
        Check.due("used up, though refused", x.end(1), false);
        Check.due("all stays", x.seal(0), 4);
        Check.due("from the begin", x.feed(0, 0, 0, 0, 0), 20);
    }

    /** The first wrong byte of the latest rules(); NONE without one, and ahead of any. */
    private static void faultOfTheLatest() {
        HamCellar x = new HamCellar();
        Check.due("ahead of any", x.fault(), NONE);
        x.feed(0, 0, 0, 0, 0);
        Check.due("ahead of any, though fed", x.fault(), NONE);
        Check.noArgument("noughts", x::rules);
        Check.due("at 0", x.fault(), 0);
        Check.refused(x, "days 1;x", 7);
        x.feed(0, 0, 0, 0, 0);
        x.end(0);
        Check.due("as long as none is read", x.fault(), 7);
        Check.rules(x, "days 1");
        Check.due("without one", x.fault(), NONE);
    }

    /** whether they were otherwise */
    private static void openOtherwise() {
        HamCellar x = new HamCellar();
        Check.due("shut already", x.open(3, false), false);
        Check.due("opened", x.open(3, true), true);
        Check.due("open already", x.open(3, true), false);
        x.days(1);
        Check.due("open, also behind a day", x.open(3, true), false);
        Check.due("shut", x.open(3, false), true);
    }

    /** NoSuchElementException: another what */
    private static void lookAtAnotherWhat() {
        HamCellar x = sealed(5000);
        for (int what = 0; what <= 11; what++) {
            Check.due("what " + what, x.look(0, what) >= 0, true);
        }
        for (int what : new int[] {-1, 12, LEAST, MOST}) {
            Check.thrown("what " + what, NoSuchElementException.class, () -> x.look(0, what));
        }
    }

    /** NONE for another what; a new object has nothing to count */
    private static void countOfNothing() {
        HamCellar x = new HamCellar();
        for (int what = 0; what <= 9; what++) {
            Check.due("count " + what, x.count(what), 0);
        }
        for (int what : new int[] {-1, 10, LEAST, MOST}) {
            Check.due("count " + what, x.count(what), NONE);
        }
    }

    /** SEALED (SOLD ones, too); WEIGHT of all not SOLD, of all SOLD: with as many legs as there may be */
    private static void countOfAll() {
        HamCellar x = cellar(60, 15000);
        Check.due("weight of all", x.count(6), 900000);
        Check.due("of none sold", x.count(7), 0);
        for (int i = 0; i < 60; i++) {
            x.hang(i, i / 10, i % 10);
            x.seal(i);
        }
        Check.due("all hang", x.count(2), 60);
        for (int i = 0; i < 4; i++) {
            Check.due("14", x.order(196000), 14);
        }
        Check.due("the last four", x.order(60000), 4);
        int[] due = {0, 60, 0, 60, 0, 60, 0, 900000, 0, 0};
        for (int what = 0; what <= 9; what++) {
            Check.due("all are sold: count " + what, x.count(what), due[what]);
        }
    }
}
