import java.util.ArrayList;
import java.util.List;
import java.util.NoSuchElementException;
import java.util.function.Supplier;

/**
 * A call that is refused, or throws, changes nothing: of two cellars alike one is asked for it, and from then on
 * both must answer alike whatever they are asked.
 */
public final class RefusedTest {
    private static final int NONE = HamCellar.NONE;
    private static final int LEAST = Integer.MIN_VALUE;
    private static final int MOST = Integer.MAX_VALUE;
    /** Ten times this is 14 where numbers wrap around, as if it were room 1, hook 4. */
    private static final int WRAPPING_ROOM = 429496731;
    private static final int MOST_CALLS = 512;
    /** Those that make the fuller one of the two cellars, and those among the questions whose answers aren't kept. */
    private static final int CALLS_AHEAD = 160;
    private static final int CALLS_BETWEEN = 30;

    public static void main(String[] args) {
        theTwinsTellChanges();
        legs();
        hanging();
        rooms();
        days();
        tape();
        rules();
        feeds();
        seals();
        questions();
        should();
        moves();
        orders();
        Check.close("RefusedTest");
    }

    /** What a call answers; an exception answers its name. */
    interface Call {
        Object of(HamCellar x);
    }

    private static Object answer(HamCellar x, Call call) {
        try {
            return call.of(x);
        } catch (RuntimeException e) {
            return e.getClass().getSimpleName();
        }
    }

    // ---- cellars to be asked

    /** Eight legs: 0 and 1 hang sealed, 2 in the salt, 3 on the table, 4 sold, 5 bad, 6 and 7 told where to hang. */
    private static HamCellar busy() {
        HamCellar x = new HamCellar();
        int[] weights = {9100, 8200, 12000, 7000, 5000, 6000, 5500, 6500};
        for (int i = 0; i < weights.length; i++) {
            x.leg(i % 3, i / 2, weights[i]);
            if (i != 5) {
                x.hang(i, 0, i);
            }
        }
        x.air(0, 30, 10);
        x.air(2, 22, 35);
        x.open(1, true);
        x.days(12);
        x.take(3);
        x.hang(0, 1, 0);
        x.hang(1, 1, 1);
        x.hang(4, 2, 4);
        x.hang(6, 1, 6);
        x.hang(7, 1, 7);
        x.fed(0, 0, 2);
        x.fed(1, 0, 1);
        x.days(1);
        Check.rules(x, "feed 1;days 13");
        x.seal(0);
        x.seal(1);
        x.seal(4);
        x.seal(6);
        x.order(4000);
        x.should(6, 1, 7);
        x.should(7, 1, 6);
        Check.refused(x, "days 13;salt x", 13);
        Check.tape(x, "salt 12;weight 6000");
        return x;
    }

    /** Sixty legs of thirty pigs, sixty feeds, a full tape, the last day. */
    private static HamCellar full() {
        HamCellar x = new HamCellar();
        for (int i = 0; i < 60; i++) {
            x.leg(i % 10, i / 2, 5000 + i);
            x.fed(i % 10, i, i % 4);
        }
        x.hang(0, 1, 0);
        x.seal(0);
        for (int i = 0; i < 20; i++) {
            x.feed(0x64617973, 0x20203120, 0x3b736c74, 0x20202020, 0x20203120);
        }
        for (int i = 0; i < 10; i++) {
            x.days(200);
        }
        return x;
    }

    // ---- what they are asked

    private static List<Object> asked(HamCellar x, boolean ofTheTape) {
        List<Object> told = new ArrayList<>();
        if (ofTheTape) {
            told.add(x.fault());
        }
        counted(x, told);
        looked(x, told);
        for (int place = 0; place < 60; place++) {
            told.add(x.on(place / 10, place % 10));
        }
        for (int farm = 0; farm < 3; farm++) {
            told.add(x.known(farm, 0, 0));
            told.add(x.known(farm, 2000, MOST));
        }
        told.add(x.should(0, 1, 7));
        told.add(x.should(1, 1, 6));
        told.add(x.moves());
        told.add(answer(x, y -> y.seal(3)));
        told.add(answer(x, y -> y.seal(2)));
        if (ofTheTape) {
            told.add(x.feed(0x3b646179, 0x73203133, 0x20202020, 0x20202020, 0x20202020));
            told.add(answer(x, y -> y.rules()));
            told.add(x.fault());
        }
        askedLater(x, told);
        return told;
    }

    private static void askedLater(HamCellar x, List<Object> told) {
        for (int leg = 0; leg < 8; leg++) {
            int one = leg;
            told.add(answer(x, y -> y.hang(one, 1 + one % 5, 9)));
        }
        told.add(x.days(2));
        looked(x, told);
        for (int leg = 0; leg < 8; leg++) {
            int one = leg;
            told.add(answer(x, y -> y.seal(one)));
        }
        told.add(x.fed(0, 0, 0));
        told.add(x.order(6000));
        told.add(answer(x, y -> y.leg(9, 77, 7777)));
        for (int room = 1; room <= 5; room++) {
            told.add(x.open(room, true));
        }
        told.add(x.days(1));
        looked(x, told);
        counted(x, told);
    }

    private static void counted(HamCellar x, List<Object> told) {
        for (int what = 0; what <= 9; what++) {
            told.add(x.count(what));
        }
    }

    /** Legs 0 to 7 stand for all, so that an object is used for no more calls than are promised. */
    private static void looked(HamCellar x, List<Object> told) {
        for (int leg = 0; leg < 8 && leg < x.count(1); leg++) {
            for (int what : new int[] {0, 2, 3, 4, 5, 6, 7, 8}) {
                told.add(x.look(leg, what));
            }
        }
    }

    private static void same(String what, HamCellar one, HamCellar other, boolean ofTheTape) {
        Check.due(what + " changed what is answered", asked(one, ofTheTape).equals(asked(other, ofTheTape)), true);
    }

    private static void refused(Supplier<HamCellar> made, String what, Object want, Call call) {
        HamCellar one = made.get();
        Object got = answer(one, call);
        Check.due(what + " answered " + got + " (due " + want + ")", got.equals(want), true);
        same(what, one, made.get(), true);
    }

    private static void busy(String what, Object want, Call call) {
        refused(RefusedTest::busy, what, want, call);
    }

    private static void full(String what, Object want, Call call) {
        refused(RefusedTest::full, what, want, call);
    }

    private static void noIndex(String what, Call call) {
        busy(what, IndexOutOfBoundsException.class.getSimpleName(), call);
    }

    private static void noArgument(String what, Call call) {
        busy(what, IllegalArgumentException.class.getSimpleName(), call);
    }

    private static Object done(Runnable call) {
        call.run();
        return "done";
    }

    /** The questions are worth something only if each change that a call may make is seen in their answers. */
    private static void theTwinsTellChanges() {
        List<Object> before = asked(busy(), true);
        Call[] changes = {
            x -> x.end(18), x -> x.feed(0, 0, 0, 0, 0), x -> x.leg(0, 50, 5000), x -> x.hang(3, 5, 5), x -> x.take(0),
            x -> done(() -> x.air(2, 23, 35)), x -> done(() -> x.air(2, 22, 0)), x -> done(() -> x.air(0, 31, 10)),
            x -> x.open(1, false), x -> x.open(4, true), x -> x.days(1), x -> x.rules(), x -> x.fed(0, 0, 2),
            x -> x.seal(7), x -> x.should(0, 1, 8), x -> x.should(6, 1, 9), x -> x.moves(), x -> x.order(4000)};
        for (int i = 0; i < changes.length; i++) {
            HamCellar x = busy();
            answer(x, changes[i]);
            Check.due("change " + i + " is seen", asked(x, true).equals(before), false);
        }
        int most = CALLS_AHEAD + before.size() + CALLS_BETWEEN;
        Check.due("no more calls than are promised: " + most, most <= MOST_CALLS, true);
    }

    // ---- the calls

    /** NONE, and it does not come, if its PIG gave two; PIG or weight is none; there are 60. */
    private static void legs() {
        for (int farm : new int[] {-1, 10, LEAST, MOST}) {
            noIndex("leg of farm " + farm, x -> x.leg(farm, 50, 5000));
        }
        for (int pig : new int[] {-1, 10000, LEAST, MOST}) {
            noArgument("leg of pig " + pig, x -> x.leg(0, pig, 5000));
        }
        for (int weight : new int[] {4999, 15001, LEAST, MOST}) {
            noArgument("leg of weight " + weight, x -> x.leg(0, 50, weight));
        }
        busy("third leg of a pig", NONE, x -> x.leg(9, 0, 5000));
        busy("third leg of a pig, of which one is sold", NONE, x -> x.leg(9, 2, 5000));
        full("leg 61", UnsupportedOperationException.class.getSimpleName(), x -> x.leg(0, 50, 5000));
        full("leg 61, a third one", UnsupportedOperationException.class.getSimpleName(), x -> x.leg(0, 0, 5000));
        full("leg 61 of weight 4999", IllegalArgumentException.class.getSimpleName(), x -> x.leg(0, 50, 4999));
        full("leg 61 of farm 10", IndexOutOfBoundsException.class.getSimpleName(), x -> x.leg(10, 50, 4999));
    }

    /** false, and nothing happens, if that is not empty, or the LEG is SOLD */
    private static void hanging() {
        for (int leg : new int[] {-1, 8, 60, LEAST, MOST}) {
            noIndex("hang " + leg, x -> x.hang(leg, 3, 3));
            noIndex("take " + leg, x -> x.take(leg));
        }
        for (int room : new int[] {-1, 6, LEAST, MOST, WRAPPING_ROOM}) {
            noIndex("hang in room " + room, x -> x.hang(3, room, 0));
        }
        for (int hook : new int[] {-1, 10, LEAST, MOST}) {
            noIndex("hang on hook " + hook, x -> x.hang(3, 1, hook));
        }
        busy("hang where another hangs", false, x -> x.hang(3, 1, 0));
        busy("hang where another hangs, off a hook", false, x -> x.hang(1, 1, 0));
        busy("hang where it hangs", false, x -> x.hang(0, 1, 0));
        busy("hang where another lies in salt", false, x -> x.hang(0, 0, 2));
        busy("hang a sold one", false, x -> x.hang(4, 3, 3));
        busy("take one from the table", false, x -> x.take(3));
        busy("take a sold one", false, x -> x.take(4));
    }

    private static void rooms() {
        for (int room : new int[] {-1, 6, LEAST, MOST}) {
            noIndex("air of room " + room, x -> done(() -> x.air(room, 20, 20)));
            noIndex("windows of room " + room, x -> x.open(room, true));
        }
        noIndex("windows of the salt", x -> x.open(0, true));
        for (int room = 0; room <= 5; room++) {
            int told = room;
            noArgument("warmth -6 of " + room, x -> done(() -> x.air(told, -6, 20)));
            noArgument("warmth 41 of " + room, x -> done(() -> x.air(told, 41, 20)));
            noArgument("damp -1 of " + room, x -> done(() -> x.air(told, 20, -1)));
            noArgument("damp 101 of " + room, x -> done(() -> x.air(told, 20, 101)));
        }
        busy("open windows are open", false, x -> x.open(1, true));
        busy("shut windows are shut", false, x -> x.open(2, false));
    }

    private static void days() {
        for (int n : new int[] {-1, 201, LEAST, MOST}) {
            noArgument("days " + n, x -> x.days(n));
        }
        busy("days 0", 13, x -> x.days(0));
        full("days beyond the last", 2000, x -> x.days(200));
        full("days 201 at last", IllegalArgumentException.class.getSimpleName(), x -> x.days(201));
    }

    /** NONE, and none come, if it would have more than 400; false, and nothing happens, if it has fewer */
    private static void tape() {
        busy("end -1", false, x -> x.end(-1));
        busy("end least", false, x -> x.end(LEAST));
        busy("end beyond", false, x -> x.end(20));
        busy("end most", false, x -> x.end(MOST));
        busy("end of just so many", true, x -> x.end(19));
        full("feed to 420", NONE, x -> x.feed(1, 2, 3, 4, 5));
        full("end 401", false, x -> x.end(401));
        full("end 400", true, x -> x.end(400));
    }

    /** the text is wrong: all stays; but the TAPE, where it is used up, and fault() */
    private static void rules() {
        String[] wrong = {"", "days", "days 0;feed 4", "weight 1;loss 1;salt 1;feed 1;days 1;", "day 1", "loss 0 x"};
        int[] faults = {0, 4, 12, 37, 0, 7};
        for (int i = 0; i < wrong.length; i++) {
            HamCellar one = busy();
            one.end(0);
            Check.refused(one, wrong[i], faults[i]);
            Check.due("the tape is used up", one.end(1), false);
            HamCellar other = busy();
            other.end(0);
            same("rules of \"" + wrong[i] + "\"", one, other, false);
        }
    }

    /** NONE, and it is not told, if there are 60 */
    private static void feeds() {
        for (int farm : new int[] {-1, 10, LEAST, MOST}) {
            noIndex("feed of farm " + farm, x -> x.fed(farm, 0, 0));
        }
        for (int what : new int[] {-1, 4, LEAST, MOST}) {
            noArgument("feed " + what, x -> x.fed(0, 0, what));
        }
        for (int from : new int[] {-1, 2001, LEAST, MOST}) {
            noArgument("feed from " + from, x -> x.fed(0, from, 0));
        }
        full("feed 61", NONE, x -> x.fed(0, 0, 0));
        full("feed 61 of farm 10", IndexOutOfBoundsException.class.getSimpleName(), x -> x.fed(10, 0, 0));
        full("feed 61 of 4", IllegalArgumentException.class.getSimpleName(), x -> x.fed(0, 0, 4));
    }

    private static void seals() {
        for (int leg : new int[] {-1, 8, 60, LEAST, MOST}) {
            noIndex("seal " + leg, x -> x.seal(leg));
        }
        busy("seal a sold one", 1, x -> x.seal(4));
        busy("seal a sealed one", 2, x -> x.seal(0));
        busy("seal a bad one", 3, x -> x.seal(5));
        busy("seal one without feed", 7, x -> x.seal(2));
    }

    /** Those that ask alone change nothing, with whatever they are asked. */
    private static void questions() {
        noIndex("look at 8", x -> x.look(8, 0));
        busy("look 12", NoSuchElementException.class.getSimpleName(), x -> x.look(0, 12));
        busy("look -1", NoSuchElementException.class.getSimpleName(), x -> x.look(0, -1));
        noIndex("on room 6", x -> x.on(6, 0));
        noIndex("on hook 10", x -> x.on(0, 10));
        noIndex("known of farm 10", x -> x.known(10, 0, 0));
        busy("known", 2, x -> x.known(0, MOST, MOST));
        busy("count 10", NONE, x -> x.count(10));
        busy("count -1", NONE, x -> x.count(-1));
        busy("fault", 13, x -> x.fault());
    }

    /** false, and it is not told, if it does not hang so, or that HOOK is told for another LEG */
    private static void should() {
        for (int leg : new int[] {-1, 8, 60, LEAST, MOST}) {
            noIndex("should " + leg, x -> x.should(leg, 3, 3));
        }
        for (int room : new int[] {-1, 0, 6, LEAST, MOST, WRAPPING_ROOM}) {
            noIndex("should in room " + room, x -> x.should(0, room, 5));
        }
        for (int hook : new int[] {-1, 10, LEAST, MOST}) {
            noIndex("should on hook " + hook, x -> x.should(0, 1, hook));
        }
        busy("should on the table", false, x -> x.should(3, 3, 3));
        busy("should in the salt", false, x -> x.should(2, 3, 3));
        busy("should a sold one", false, x -> x.should(4, 3, 3));
        busy("should where another should", false, x -> x.should(0, 1, 7));
        busy("should where another should, told elsewhere", false, x -> x.should(6, 1, 6));
        busy("should again the same", true, x -> x.should(6, 1, 7));
    }

    /** No leg moves, though moves are told; nothing is told any more, also with NONE. */
    private static void moves() {
        HamCellar one = busy();
        one.should(6, 1, 0);
        Check.due("leg 0 is in the way", one.moves(), NONE);
        HamCellar other = busy();
        Check.due("over an empty hook", other.moves(), 3);
        same("moves", one, other, true);
        Check.due("nothing was told", one.moves(), 0);
    }

    /** NONE, and nothing happens, if it cannot be filled; GRAMS are none */
    private static void orders() {
        for (int grams : new int[] {0, -1, 200001, LEAST, MOST}) {
            noArgument("order " + grams, x -> x.order(grams));
        }
        busy("an order that cannot be filled", NONE, x -> x.order(100000));
        busy("the most", NONE, x -> x.order(200000));
        full("an order with none that is good", NONE, x -> x.order(1));
    }
}
