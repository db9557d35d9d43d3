import java.util.Arrays;
import java.util.NoSuchElementException;

/** Ham cellars: legs in salt and on hooks, seals by a region's rules, moves between hooks, and orders. */
public final class HamCellar {
    public static final int NONE = -1;

    private static final int MOST_LEGS = 60;
    private static final int MOST_FEEDS = 60;
    private static final int MOST_BYTES = 400;
    private static final int BYTES_A_CALL = 20;
    private static final int MOST_CHOICES = 14;

    private static final int FARMS = 10;
    private static final int PIGS = 10000;
    private static final int LEGS_A_PIG = 2;
    private static final int LEAST_FIRST = 5000;
    private static final int MOST_FIRST = 15000;
    private static final int MOST_FEED = 3;
    private static final int LAST_DAY = 2000;
    private static final int MOST_DAYS_A_CALL = 200;
    private static final int MOST_GRAMS = 200000;

    private static final int ROOMS = 6;
    private static final int SALT_ROOM = 0;
    private static final int OUTSIDE = 0;
    private static final int HOOKS_A_ROOM = 10;
    /** A place is a room and a hook in one number; those of the salt room come ahead of this one. */
    private static final int FIRST_AIRY_PLACE = HOOKS_A_ROOM;
    private static final int PLACES = ROOMS * HOOKS_A_ROOM;

    private static final int LEAST_WARMTH = -5;
    private static final int MOST_WARMTH = 40;
    private static final int FIRST_WARMTH = 15;
    private static final int MOST_DAMP = 100;
    private static final int FIRST_DAMP = 60;
    private static final int WARMTH_WITHOUT_HEAT = 12;
    private static final int HEAT_ON_TABLE = 8;
    private static final int HEAT_A_SALTED_DAY = 20;

    private static final int DAYS = 0;
    private static final int LOSS = 1;
    private static final int SALT = 2;
    private static final int FEED = 3;
    private static final int WEIGHT = 4;
    private static final int KINDS = 5;
    private static final int[] MOST_OF_KIND = {2000, 100, 99, 3, 15000};
    private static final int MOST_DIGITS = 5;

    private int today;
    private int legCount;
    private final Leg[] legs;
    private final Hooks hooks;
    private final Rooms rooms;
    private final Tape tape;
    private final RuleReader reader;
    private final int[] asked;
    private final FeedBook feeds;
    private final Choice choice;

    public HamCellar() {
        legs = new Leg[MOST_LEGS];
        hooks = new Hooks();
        rooms = new Rooms();
        tape = new Tape();
        reader = new RuleReader(tape);
        asked = new int[KINDS];
        feeds = new FeedBook();
        choice = new Choice();
    }

    public int feed(int a, int b, int c, int d, int e) {
        if (!tape.hasSpaceFor(BYTES_A_CALL)) {
            return NONE;
        }
        tape.append(a);
        tape.append(b);
        tape.append(c);
        tape.append(d);
        tape.append(e);
        return tape.size();
    }

    public boolean end(int n) {
        return tape.cutTo(n);
    }

    public int leg(int farm, int pig, int weight)
            throws IndexOutOfBoundsException, IllegalArgumentException, UnsupportedOperationException {
        needFarm(farm);
        if (!isWithin(pig, 0, PIGS - 1) || !isWithin(weight, LEAST_FIRST, MOST_FIRST)) {
            throw new IllegalArgumentException();
        }
        int number = legCount;
        if (number < 0 || number >= legs.length) {
            throw new UnsupportedOperationException();
        }
        if (legsOfPig(pig) >= LEGS_A_PIG) {
            return NONE;
        }
        legs[number] = new Leg(number, farm, pig, weight, today);
        legCount++;
        return number;
    }

    public boolean hang(int leg, int room, int hook) throws IndexOutOfBoundsException {
        Leg hung = needLeg(leg);
        int place = needPlace(SALT_ROOM, room, hook);
        if (hung.sold || hooks.legAt(place) != null) {
            return false;
        }
        hooks.takeOff(hung);
        hooks.put(hung, place);
        return true;
    }

    public boolean take(int leg) throws IndexOutOfBoundsException {
        Leg taken = needLeg(leg);
        boolean hung = taken.hangs();
        hooks.takeOff(taken);
        return hung;
    }

    public void air(int room, int warmth, int damp) throws IndexOutOfBoundsException, IllegalArgumentException {
        if (!isWithin(room, OUTSIDE, ROOMS - 1)) {
            throw new IndexOutOfBoundsException();
        }
        if (!isWithin(warmth, LEAST_WARMTH, MOST_WARMTH) || !isWithin(damp, 0, MOST_DAMP)) {
            throw new IllegalArgumentException();
        }
        rooms.setAir(room, warmth, damp);
    }

    public boolean open(int room, boolean is) throws IndexOutOfBoundsException {
        if (!isWithin(room, SALT_ROOM + 1, ROOMS - 1)) {
            throw new IndexOutOfBoundsException();
        }
        return rooms.setWindows(room, is);
    }

    public int days(int n) throws IllegalArgumentException {
        if (!isWithin(n, 0, MOST_DAYS_A_CALL)) {
            throw new IllegalArgumentException();
        }
        for (int i = 0; i < n && today < LAST_DAY; i++) {
            passDay();
        }
        return today;
    }

    public int rules() throws IllegalArgumentException {
        boolean right = reader.read();
        tape.clear();
        if (!right) {
            throw new IllegalArgumentException();
        }
        for (int kind = 0; kind < asked.length; kind++) {
            asked[kind] = reader.numberOf(kind);
        }
        return reader.told;
    }

    public int fault() {
        return reader.wrong;
    }

    public int fed(int farm, int from, int what) throws IndexOutOfBoundsException, IllegalArgumentException {
        needFarm(farm);
        if (!isWithin(what, 0, MOST_FEED) || !isWithin(from, 0, LAST_DAY)) {
            throw new IllegalArgumentException();
        }
        if (!feeds.write(farm, from, what, today)) {
            return NONE;
        }
        return undoSeals();
    }

    public int known(int farm, int day, int on) throws IndexOutOfBoundsException {
        needFarm(farm);
        return feeds.find(farm, day, on);
    }

    public int seal(int leg) throws IndexOutOfBoundsException {
        Leg one = needLeg(leg);
        int against = whatIsAgainst(one);
        if (against == 0) {
            one.sealed = true;
            one.feedAsked = askedOf(FEED);
        }
        return against;
    }

    public int look(int leg, int what) throws IndexOutOfBoundsException, NoSuchElementException {
        Leg one = needLeg(leg);
        switch (what) {
            case 0: return one.weight;
            case 1: return one.first;
            case 2: return one.salted;
            case 3: return one.heat;
            case 4: return one.sold ? 2 : oneIf(one.hangs());
            case 5: return one.room();
            case 6: return one.hook();
            case 7: return oneIf(one.sealed);
            case 8: return oneIf(one.bad);
            case 9: return one.farm;
            case 10: return one.pig;
            case 11: return one.begun;
            default: throw new NoSuchElementException();
        }
    }

    public int on(int room, int hook) throws IndexOutOfBoundsException {
        Leg hung = hooks.legAt(needPlace(SALT_ROOM, room, hook));
        return hung == null ? NONE : hung.number;
    }

    public boolean should(int leg, int room, int hook) throws IndexOutOfBoundsException {
        Leg told = needLeg(leg);
        int place = needPlace(SALT_ROOM + 1, room, hook);
        if (!told.hangsInAir() || isToldForAnother(told, place)) {
            return false;
        }
        told.target = place;
        return true;
    }

    public int moves() {
        int least = hooks.leastMoves();
        for (Leg leg : legs) {
            if (leg != null) {
                leg.target = NONE;
            }
        }
        return least;
    }

    public int order(int grams) throws IllegalArgumentException {
        if (!isWithin(grams, 1, MOST_GRAMS)) {
            throw new IllegalArgumentException();
        }
        choice.clear();
        for (Leg leg : legs) {
            if (leg != null && leg.sealed && leg.hangs() && !leg.bad) {
                choice.offer(leg);
            }
        }
        int set = choice.leastSet(grams);
        return set == 0 ? NONE : sell(set);
    }

    public int count(int what) {
        switch (what) {
            case 0: return today;
            case 1: return legCount;
            case 2:
            case 3:
            case 4:
            case 5:
            case 6:
            case 7:
            case 9: return sumOfLegs(what);
            case 8: return feeds.told;
            default: return NONE;
        }
    }

    private static boolean isWithin(int n, int least, int most) {
        return n >= least && n <= most;
    }

    private static int oneIf(boolean is) {
        return is ? 1 : 0;
    }

    private static void needFarm(int farm) {
        if (!isWithin(farm, 0, FARMS - 1)) {
            throw new IndexOutOfBoundsException();
        }
    }

    private Leg needLeg(int number) {
        Leg leg = number >= 0 && number < legs.length ? legs[number] : null;
        if (leg == null) {
            throw new IndexOutOfBoundsException();
        }
        return leg;
    }

    private static int needPlace(int leastRoom, int room, int hook) {
        if (!isWithin(room, leastRoom, ROOMS - 1) || !isWithin(hook, 0, HOOKS_A_ROOM - 1)) {
            throw new IndexOutOfBoundsException();
        }
        return room * HOOKS_A_ROOM + hook;
    }

    private int legsOfPig(int pig) {
        int found = 0;
        for (Leg leg : legs) {
            if (leg != null && leg.pig == pig) {
                found++;
            }
        }
        return found;
    }

    private int askedOf(int kind) {
        return kind >= 0 && kind < asked.length ? asked[kind] : 0;
    }

    private void passDay() {
        today++;
        rooms.letOutsideIn();
        for (Leg leg : legs) {
            if (leg != null && !leg.sold) {
                keepForADay(leg);
            }
        }
    }

    private void keepForADay(Leg leg) {
        int room = leg.room();
        if (room == SALT_ROOM) {
            leg.lieInSalt();
        } else if (room == NONE) {
            leg.gainHeat(HEAT_ON_TABLE);
        } else {
            int warmth = rooms.warmthOf(room);
            leg.dry(warmth, rooms.dampOf(room));
            leg.gainHeat(warmth - WARMTH_WITHOUT_HEAT);
        }
    }

    private int whatIsAgainst(Leg leg) {
        if (leg.sold) {
            return 1;
        }
        if (leg.sealed) {
            return 2;
        }
        if (leg.bad) {
            return 3;
        }
        if (today - leg.begun < askedOf(DAYS)) {
            return 4;
        }
        if (!leg.hasLost(askedOf(LOSS))) {
            return 5;
        }
        if (leg.salted < askedOf(SALT)) {
            return 6;
        }
        if (isFeedAgainst(leg, askedOf(FEED))) {
            return 7;
        }
        return leg.weight < askedOf(WEIGHT) ? 8 : 0;
    }

    private boolean isFeedAgainst(Leg leg, int least) {
        return feeds.find(leg.farm, leg.begun, today) < least;
    }

    private int undoSeals() {
        int undone = 0;
        for (Leg leg : legs) {
            if (leg != null && leg.sealed && !leg.sold && isFeedAgainst(leg, leg.feedAsked)) {
                leg.sealed = false;
                undone++;
            }
        }
        return undone;
    }

    /** A hook stays told for a leg that hangs no more, until the moves are asked for. */
    private boolean isToldForAnother(Leg told, int place) {
        for (Leg leg : legs) {
            if (leg != null && leg != told && leg.target == place) {
                return true;
            }
        }
        return false;
    }

    private int sell(int set) {
        int sold = 0;
        for (int bit = 0; bit < MOST_CHOICES; bit++) {
            Leg leg = (set >> bit & 1) == 1 ? choice.legAt(bit) : null;
            if (leg != null) {
                hooks.takeOff(leg);
                leg.sold = true;
                sold++;
            }
        }
        return sold;
    }

    private int sumOfLegs(int what) {
        int sum = 0;
        for (Leg leg : legs) {
            if (leg != null) {
                sum += shareOf(leg, what);
            }
        }
        return sum;
    }

    private static int shareOf(Leg leg, int what) {
        switch (what) {
            case 2: return oneIf(leg.hangs());
            case 3: return oneIf(leg.sealed);
            case 4: return oneIf(leg.bad);
            case 5: return oneIf(leg.sold);
            case 6: return leg.sold ? 0 : leg.weight;
            case 7: return leg.sold ? leg.weight : 0;
            case 9: return oneIf(leg.target != NONE);
            default: return 0;
        }
    }

    /** One leg: what it was at first, and what has become of it. */
    private static final class Leg {
        private final int number;
        private final int farm;
        private final int pig;
        private final int first;
        private final int begun;
        private int weight;
        private int salted;
        private int heat;
        private int place = NONE;
        private int target = NONE;
        private int feedAsked;
        private boolean sealed;
        private boolean bad;
        private boolean sold;

        Leg(int number, int farm, int pig, int first, int begun) {
            this.number = number;
            this.farm = farm;
            this.pig = pig;
            this.first = first;
            this.begun = begun;
            weight = first;
        }

        boolean hangs() {
            return place != NONE;
        }

        boolean hangsInAir() {
            return place >= FIRST_AIRY_PLACE;
        }

        int room() {
            return place == NONE ? NONE : place / HOOKS_A_ROOM;
        }

        int hook() {
            return place == NONE ? NONE : place % HOOKS_A_ROOM;
        }

        void lieInSalt() {
            salted++;
            weight -= weight / 1000;
        }

        void dry(int warmth, int damp) {
            int hundredThousandths = (100 - damp) * (5 + Math.max(warmth, 0)) / 10;
            weight -= weight * hundredThousandths / 100000;
        }

        void gainHeat(int more) {
            heat += Math.max(more, 0);
            if (heat > HEAT_A_SALTED_DAY * salted && salted < first / 1000) {
                bad = true;
            }
        }

        /** Each hundredth is itself rounded down, so the whole may be lost at fewer grams than it weighed. */
        boolean hasLost(int hundredths) {
            return first - weight >= hundredths * (first / 100);
        }
    }

    /** Which leg hangs at which place. */
    private static final class Hooks {
        private final Leg[] hung = new Leg[PLACES];

        Leg legAt(int place) {
            return place >= 0 && place < hung.length ? hung[place] : null;
        }

        void put(Leg leg, int place) {
            if (place >= 0 && place < hung.length) {
                hung[place] = leg;
                leg.place = place;
            }
        }

        void takeOff(Leg leg) {
            int place = leg.place;
            if (place >= 0 && place < hung.length) {
                hung[place] = null;
            }
            leg.place = NONE;
        }

        /** Each leg that hangs elsewhere moves once; a ring of legs needs one move more, over an empty hook. */
        int leastMoves() {
            int moves = 0;
            int rings = 0;
            int empty = 0;
            for (int place = FIRST_AIRY_PLACE; place < hung.length; place++) {
                Leg leg = hung[place];
                if (leg == null) {
                    empty++;
                } else if (leg.target != NONE && leg.target != place) {
                    if (isTargetKept(leg)) {
                        return NONE;
                    }
                    moves++;
                    rings += leadsRing(leg) ? 1 : 0;
                }
            }
            return rings > 0 && empty == 0 ? NONE : moves + rings;
        }

        private boolean isTargetKept(Leg leg) {
            Leg there = legAt(leg.target);
            return there != null && there.target == NONE;
        }

        /** Of each ring just the leg at the lowest place leads it, so that a ring is counted once. */
        private boolean leadsRing(Leg leg) {
            Leg next = legAt(leg.target);
            for (int step = 0; step < PLACES && next != null && next != leg; step++) {
                if (next.place < leg.place) {
                    return false;
                }
                next = legAt(next.target);
            }
            return next == leg;
        }
    }

    /** The air and the windows of each room; the air of outside stands where the salt room's would. */
    private static final class Rooms {
        private final int[] warmth = new int[ROOMS];
        private final int[] damp = new int[ROOMS];
        private final boolean[] windowsOpen = new boolean[ROOMS];

        Rooms() {
            Arrays.fill(warmth, FIRST_WARMTH);
            Arrays.fill(damp, FIRST_DAMP);
        }

        void setAir(int room, int newWarmth, int newDamp) {
            if (room >= 0 && room < ROOMS) {
                warmth[room] = newWarmth;
                damp[room] = newDamp;
            }
        }

        boolean setWindows(int room, boolean is) {
            if (room < 0 || room >= ROOMS || windowsOpen[room] == is) {
                return false;
            }
            windowsOpen[room] = is;
            return true;
        }

        void letOutsideIn() {
            for (int room = SALT_ROOM + 1; room < ROOMS; room++) {
                if (windowsOpen[room]) {
                    warmth[room] = warmth[OUTSIDE];
                    damp[room] = damp[OUTSIDE];
                }
            }
        }

        int warmthOf(int room) {
            return room >= 0 && room < ROOMS ? warmth[room] : 0;
        }

        int dampOf(int room) {
            return room >= 0 && room < ROOMS ? damp[room] : 0;
        }
    }

    /** The bytes that were fed and not yet used up. */
    private static final class Tape {
        private final byte[] bytes = new byte[MOST_BYTES];
        private int size;

        int size() {
            return size;
        }

        boolean hasSpaceFor(int more) {
            return size + more <= bytes.length;
        }

        void append(int number) {
            for (int shift = 24; shift >= 0; shift -= 8) {
                if (size >= 0 && size < bytes.length) {
                    bytes[size] = (byte) (number >> shift);
                    size++;
                }
            }
        }

        boolean cutTo(int n) {
            if (n < 0 || n > size) {
                return false;
            }
            size = n;
            return true;
        }

        void clear() {
            size = 0;
        }

        int byteAt(int at) {
            return at >= 0 && at < size && at < bytes.length ? bytes[at] & 255 : NONE;
        }
    }

    /** Reads the rules' text from the tape; what it read stands here until it is taken over. */
    private static final class RuleReader {
        private final Tape tape;
        private final int[] numbers = new int[KINDS];
        private int at;
        private int told;
        private int wrong = NONE;

        RuleReader(Tape tape) {
            this.tape = tape;
        }

        int numberOf(int kind) {
            return kind >= 0 && kind < numbers.length ? numbers[kind] : 0;
        }

        boolean read() {
            at = 0;
            told = 0;
            wrong = NONE;
            Arrays.fill(numbers, 0);
            for (int round = 0; round <= MOST_BYTES; round++) {
                if (!readRule()) {
                    return false;
                }
                skipBlanks();
                if (at >= tape.size()) {
                    return true;
                }
                if (tape.byteAt(at) != ';') {
                    return fail(at);
                }
                at++;
            }
            return fail(at);
        }

        private boolean fail(int where) {
            wrong = where;
            return false;
        }

        private boolean readRule() {
            skipBlanks();
            int wordBegin = at;
            int kind = readKind();
            if (kind < 0 || kind >= KINDS) {
                return fail(wordBegin);
            }
            skipBlanks();
            int numberBegin = at;
            int number = readNumber();
            if (number == NONE || number > MOST_OF_KIND[kind]) {
                return fail(numberBegin);
            }
            numbers[kind] = number;
            told++;
            return true;
        }

        private void skipBlanks() {
            while (at < tape.size() && tape.byteAt(at) == ' ') {
                at++;
            }
        }

        private int readKind() {
            int begin = at;
            while (at < tape.size() && isWithin(tape.byteAt(at), 'a', 'z')) {
                at++;
            }
            for (int kind = 0; kind < KINDS; kind++) {
                if (isWord(begin, at, wordOf(kind))) {
                    return kind;
                }
            }
            return NONE;
        }

        private boolean isWord(int begin, int end, String word) {
            if (end - begin != word.length()) {
                return false;
            }
            for (int i = 0; i < word.length(); i++) {
                if (tape.byteAt(begin + i) != word.charAt(i)) {
                    return false;
                }
            }
            return true;
        }

        private static String wordOf(int kind) {
            switch (kind) {
                case DAYS: return "days";
                case LOSS: return "loss";
                case SALT: return "salt";
                case FEED: return "feed";
                default: return "weight";
            }
        }

        /** NONE where no digit stands, or too many do; digits beyond the most are not added, lest they wrap. */
        private int readNumber() {
            int begin = at;
            int number = 0;
            while (at < tape.size() && isWithin(tape.byteAt(at), '0', '9')) {
                if (at - begin < MOST_DIGITS) {
                    number = number * 10 + tape.byteAt(at) - '0';
                }
                at++;
            }
            return isWithin(at - begin, 1, MOST_DIGITS) ? number : NONE;
        }
    }

    /** What was told of the farms' feed, in the order in which it was told. */
    private static final class FeedBook {
        private final int[] farms = new int[MOST_FEEDS];
        private final int[] froms = new int[MOST_FEEDS];
        private final int[] whats = new int[MOST_FEEDS];
        private final int[] toldOn = new int[MOST_FEEDS];
        private int told;

        boolean write(int farm, int from, int what, int day) {
            if (told < 0 || told >= MOST_FEEDS) {
                return false;
            }
            farms[told] = farm;
            froms[told] = from;
            whats[told] = what;
            toldOn[told] = day;
            told++;
            return true;
        }

        int find(int farm, int day, int on) {
            int latest = 0;
            int found = 0;
            for (int i = 0; i < told && i < MOST_FEEDS; i++) {
                boolean counts = farms[i] == farm && toldOn[i] <= on && froms[i] <= day;
                if (counts && froms[i] >= latest) {
                    latest = froms[i];
                    found = whats[i];
                }
            }
            return found;
        }
    }

    /** The legs that an order may take, and which of them it takes: a set has a bit for each, the first the lowest. */
    private static final class Choice {
        private final Leg[] offered = new Leg[MOST_CHOICES];
        private final int[] weights = new int[MOST_CHOICES];
        private final int[] weightsAhead = new int[MOST_CHOICES];
        private int size;
        private int total;

        void clear() {
            size = 0;
            total = 0;
        }

        void offer(Leg leg) {
            if (size >= 0 && size < MOST_CHOICES) {
                offered[size] = leg;
                weights[size] = leg.weight;
                weightsAhead[size] = total;
                total += leg.weight;
                size++;
            }
        }

        Leg legAt(int bit) {
            return bit >= 0 && bit < size && bit < MOST_CHOICES ? offered[bit] : null;
        }

        /** 0 if all together weigh less. Sets come by rising bits, so that the first of several alike is kept. */
        int leastSet(int grams) {
            int best = 0;
            int bestWeight = 0;
            int weight = 0;
            for (int set = 1; set < 1 << size && total >= grams; set++) {
                weight += changeOfWeight(set);
                boolean better = best == 0 || weight < bestWeight
                        || weight == bestWeight && Integer.bitCount(set) < Integer.bitCount(best);
                if (weight >= grams && better) {
                    best = set;
                    bestWeight = weight;
                }
            }
            return best;
        }

        /** From one set to the next its lowest bit comes, and all bits below that one go. */
        private int changeOfWeight(int set) {
            int low = 0;
            while (low < MOST_CHOICES - 1 && (set >> low & 1) == 0) {
                low++;
            }
            return weights[low] - weightsAhead[low];
        }
    }
}
