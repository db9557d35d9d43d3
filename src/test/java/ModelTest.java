import java.util.ArrayList;
import java.util.Arrays;
import java.util.HashMap;
import java.util.HashSet;
import java.util.List;
import java.util.Map;
import java.util.NoSuchElementException;
import java.util.Random;
import java.util.Set;
import java.util.TreeMap;
import java.util.regex.Matcher;
import java.util.regex.Pattern;

/** Random runs of at most 512 calls, each answer against a second, plain telling of the document. */
public final class ModelTest {
    private static final String[] CALLS = {"feed", "end", "leg", "hang", "take", "air", "open", "days", "rules", "fault",
        "fed", "known", "seal", "look", "on", "should", "moves", "order", "count", "text", "shelf", "swap"};
    private static final int[] EDGES = {Integer.MIN_VALUE, -1, 0, 1, Integer.MAX_VALUE, 60, 10, 6, 5, 9};

    public static void main(String[] args) {
        Map<String, Integer> seen = new TreeMap<>();
        for (int seed = 0; seed < 1500; seed++) {
            run(seed, seen);
        }
        for (String call : CALLS) {
            Check.due("calls of " + call, seen.getOrDefault(call, 0) > 100, true);
        }
        for (int against = 0; against <= 8; against++) {
            Check.due("seals answered " + against, seen.getOrDefault("seal=" + against, 0) > 20, true);
        }
        Check.due("seals undone", seen.getOrDefault("fed=1", 0) > 20, true);
        Check.due("no row of moves", seen.getOrDefault("moves=-1", 0) > 20, true);
        Check.due("a ring", seen.getOrDefault("moves=3", 0) > 20, true);
        Check.due("orders of three", seen.getOrDefault("order=3", 0) > 20, true);
        Check.close("ModelTest");
    }

    private static void run(int seed, Map<String, Integer> seen) {
        Random random = new Random(seed);
        HamCellar x = new HamCellar();
        Model m = new Model();
        StringBuilder told = new StringBuilder();
        int calls = 0;
        while (calls < 380) {
            String call = CALLS[random.nextInt(CALLS.length)];
            // Legs on the table are bad after a day, so that long runs of days leave little to seal.
            if (seed % 2 == 0 && call.equals("days") && random.nextInt(6) != 0) {
                call = "seal";
            }
            int[][] several = several(call, random);
            for (int[] a : several) {
                String name = several.length == 1 && !call.equals("text") ? call : NAMES[a[5]];
                String got = answer(name, () -> Model.ask(x, name, a));
                String want = answer(name, () -> m.ask(name, a));
                told.append(name).append(Arrays.toString(a)).append(' ').append(want).append('\n');
                seen.merge(name, 1, Integer::sum);
                seen.merge(name + "=" + want, 1, Integer::sum);
                seen.merge(call.equals(name) ? "" : call, 1, Integer::sum);
                calls++;
                if (!got.equals(want)) {
                    System.out.println(told);
                    Check.due("seed " + seed + ": got " + got + ", due is " + want, false, true);
                    Check.close("ModelTest");
                }
            }
        }
        for (int i = 0; i < 130; i++) {
            int[] a = {random.nextInt(12), random.nextInt(12), 0, 0, 0, 0};
            String name = new String[] {"look", "count", "on", "known"}[i % 4];
            a[2] = name.equals("known") ? random.nextInt(300) : 0;
            Check.due("seed " + seed + ": at last " + name + Arrays.toString(a),
                    answer(name, () -> Model.ask(x, name, a)).equals(answer(name, () -> m.ask(name, a))), true);
        }
    }

    private static final String[] NAMES = {"feed", "end", "rules", "leg", "hang", "should", "moves"};

    private static String answer(String name, java.util.function.IntSupplier call) {
        try {
            return Integer.toString(call.getAsInt());
        } catch (RuntimeException e) {
            return e.getClass().getSimpleName();
        }
    }

    private static int[][] several(String call, Random random) {
        switch (call) {
            case "text": return text(random);
            case "shelf": return shelf(random);
            case "swap": return swap(random);
            default: return new int[][] {one(call, random)};
        }
    }

    private static int[] one(String call, Random random) {
        int leg = random.nextInt(10);
        int room = random.nextInt(6);
        int hook = random.nextInt(10);
        int[] a;
        switch (call) {
            case "feed": a = new int[] {random.nextInt(), random.nextInt(), 0, 1, random.nextInt(), 0}; break;
            case "end": a = new int[] {random.nextInt(45), 0, 0, 0, 0, 0}; break;
            case "leg": a = new int[] {random.nextInt(3), random.nextInt(9), 5000 + random.nextInt(6) * 777, 0, 0, 0}; break;
            case "hang": a = new int[] {leg, random.nextInt(3), random.nextInt(4), 0, 0, 0}; break;
            case "air": a = new int[] {random.nextInt(3), random.nextInt(46) - 5, random.nextInt(101), 0, 0, 0}; break;
            case "open": a = new int[] {1 + random.nextInt(2), random.nextInt(2), 0, 0, 0, 0}; break;
            case "days": a = new int[] {random.nextInt(40) == 0 ? random.nextInt(201) : random.nextInt(4), 0, 0, 0, 0, 0}; break;
            case "fed": a = new int[] {random.nextInt(3), random.nextInt(3) * random.nextInt(30), random.nextInt(4), 0, 0, 0}; break;
            case "known": a = new int[] {random.nextInt(3), random.nextInt(60), random.nextInt(60), 0, 0, 0}; break;
            case "look": a = new int[] {leg, random.nextInt(12), 0, 0, 0, 0}; break;
            case "on": a = new int[] {room, hook, 0, 0, 0, 0}; break;
            case "should": a = new int[] {leg, 1 + random.nextInt(2), random.nextInt(4), 0, 0, 0}; break;
            case "order": a = new int[] {1 + random.nextInt(4) * 5500 + random.nextInt(1000), 0, 0, 0, 0, 0}; break;
            default: a = new int[] {leg, random.nextInt(10), hook, 0, 0, 0}; break;
        }
        if (random.nextInt(12) == 0) {
            a[random.nextInt(3)] = EDGES[random.nextInt(EDGES.length)];
        }
        return a;
    }

    /** A few legs, hung in a row. */
    private static int[][] shelf(Random random) {
        int[][] calls = new int[8][];
        for (int i = 0; i < 4; i++) {
            calls[2 * i] = new int[] {random.nextInt(3), random.nextInt(40), 5000 + random.nextInt(4) * 500, 0, 0, 3};
            calls[2 * i + 1] = new int[] {random.nextInt(10), random.nextInt(2), i, 0, 0, 4};
        }
        return calls;
    }

    /** Two places change their legs, as far as legs 0 to 9 hang there. */
    private static int[][] swap(Random random) {
        int a = random.nextInt(6);
        int b = random.nextInt(6);
        return new int[][] {{a, 1, 8, 0, 0, 4}, {b, 1, 9, 0, 0, 4}, {a, 1, 9, 0, 0, 5}, {b, 1, 8, 0, 0, 5}, {0, 0, 0, 0, 0, 6}};
    }

    private static int[][] text(Random random) {
        String[] pieces = {"days", "loss", "salt", "feed", "weight", "day", " ", "  ", ";", "1", "0", "x", "\t", "99999"};
        StringBuilder text = new StringBuilder();
        int rules = 1 + random.nextInt(2);
        for (int i = 0; i < rules; i++) {
            int kind = random.nextInt(3) == 0 ? 3 : random.nextInt(5);
            int[] most = {2, 2, 3, 3, 6000};
            text.append(i == 0 ? "" : random.nextBoolean() ? ";" : " ; ").append(pieces[kind]).append(' ');
            text.append(random.nextInt(3) == 0 ? 0 : random.nextInt(most[kind] + 1));
        }
        if (random.nextInt(3) == 0) {
            text.insert(random.nextInt(text.length() + 1), pieces[random.nextInt(pieces.length)]);
        }
        List<int[]> calls = new ArrayList<>();
        calls.add(new int[] {0, 0, 0, 0, 0, 1});
        for (int at = 0; at < text.length(); at += 20) {
            int[] a = new int[6];
            for (int i = 0; i < 20; i++) {
                a[i / 4] = a[i / 4] << 8 | (at + i < text.length() ? text.charAt(at + i) : 0);
            }
            calls.add(a);
        }
        calls.add(new int[] {text.length(), 0, 0, 0, 0, 1});
        calls.add(new int[] {0, 0, 0, 0, 0, 2});
        return calls.toArray(new int[0][]);
    }

    /** The document told a second time, with lists and maps and no care for speed. */
    private static final class Model {
        private final List<Map<String, Integer>> legs = new ArrayList<>();
        private final Map<Integer, Integer> should = new TreeMap<>();
        private final List<int[]> feeds = new ArrayList<>();
        private final int[][] air = new int[6][];
        private final Set<Integer> open = new HashSet<>();
        private Map<String, Integer> rules = new HashMap<>();
        private String tape = "";
        private int today;
        private int fault = -1;

        Model() {
            for (int i = 0; i < 6; i++) {
                air[i] = new int[] {15, 60};
            }
        }

        static int ask(HamCellar x, String name, int[] a) {
            switch (name) {
                case "feed": return x.feed(a[0], a[1], a[2], a[3], a[4]);
                case "end": return x.end(a[0]) ? 1 : 0;
                case "leg": return x.leg(a[0], a[1], a[2]);
                case "hang": return x.hang(a[0], a[1], a[2]) ? 1 : 0;
                case "take": return x.take(a[0]) ? 1 : 0;
                case "air": x.air(a[0], a[1], a[2]); return 0;
                case "open": return x.open(a[0], a[1] == 1) ? 1 : 0;
                case "days": return x.days(a[0]);
                case "rules": return x.rules();
                case "fault": return x.fault();
                case "fed": return x.fed(a[0], a[1], a[2]);
                case "known": return x.known(a[0], a[1], a[2]);
                case "seal": return x.seal(a[0]);
                case "look": return x.look(a[0], a[1]);
                case "on": return x.on(a[0], a[1]);
                case "should": return x.should(a[0], a[1], a[2]) ? 1 : 0;
                case "moves": return x.moves();
                case "order": return x.order(a[0]);
                default: return x.count(a[0]);
            }
        }

        int ask(String name, int[] a) {
            switch (name) {
                case "feed": return feed(a);
                case "end": return end(a[0]);
                case "leg": return leg(a[0], a[1], a[2]);
                case "hang": return hang(a[0], a[1], a[2]);
                case "take": return take(a[0]);
                case "air": return air(a[0], a[1], a[2]);
                case "open": return open(a[0], a[1] == 1);
                case "days": return days(a[0]);
                case "rules": return rules();
                case "fault": return fault;
                case "fed": return fed(a[0], a[1], a[2]);
                case "known": index(a[0], 0, 9); return known(a[0], a[1], a[2]);
                case "seal": return seal(a[0]);
                case "look": return look(a[0], a[1]);
                case "on": index(a[0], 0, 5); index(a[1], 0, 9); return on(a[0], a[1]);
                case "should": return should(a[0], a[1], a[2]);
                case "moves": return moves();
                case "order": return order(a[0]);
                default: return count(a[0]);
            }
        }

        private static void index(int n, int least, int most) {
            if (n < least || n > most) {
                throw new IndexOutOfBoundsException();
            }
        }

        private static void argument(int n, int least, int most) {
            if (n < least || n > most) {
                throw new IllegalArgumentException();
            }
        }

        private Map<String, Integer> of(int leg) {
            index(leg, 0, legs.size() - 1);
            return legs.get(leg);
        }

        private int feed(int[] a) {
            if (tape.length() > 380) {
                return -1;
            }
            for (int i = 0; i < 20; i++) {
                tape += (char) (a[i / 4] >>> 24 - i % 4 * 8 & 255);
            }
            return tape.length();
        }

        private int end(int n) {
            if (n < 0 || n > tape.length()) {
                return 0;
            }
            tape = tape.substring(0, n);
            return 1;
        }

        private int leg(int farm, int pig, int weight) {
            index(farm, 0, 9);
            argument(pig, 0, 9999);
            argument(weight, 5000, 15000);
            if (legs.size() == 60) {
                throw new UnsupportedOperationException();
            }
            if (legs.stream().filter(leg -> leg.get("pig") == pig).count() == 2) {
                return -1;
            }
            Map<String, Integer> leg = new HashMap<>(Map.of("farm", farm, "pig", pig, "weight", weight, "first", weight,
                    "begun", today, "salted", 0, "heat", 0, "state", 0, "room", -1, "hook", -1));
            leg.putAll(Map.of("sealed", 0, "bad", 0, "feed", 0));
            legs.add(leg);
            return legs.size() - 1;
        }

        private int on(int room, int hook) {
            for (int i = 0; i < legs.size(); i++) {
                if (legs.get(i).get("room") == room && legs.get(i).get("hook") == hook) {
                    return i;
                }
            }
            return -1;
        }

        private int hang(int leg, int room, int hook) {
            Map<String, Integer> l = of(leg);
            index(room, 0, 5);
            index(hook, 0, 9);
            if (on(room, hook) != -1 || l.get("state") == 2) {
                return 0;
            }
            l.putAll(Map.of("room", room, "hook", hook, "state", 1));
            return 1;
        }

        private int take(int leg) {
            Map<String, Integer> l = of(leg);
            if (l.get("state") != 1) {
                return 0;
            }
            l.putAll(Map.of("room", -1, "hook", -1, "state", 0));
            return 1;
        }

        private int air(int room, int warmth, int damp) {
            index(room, 0, 5);
            argument(warmth, -5, 40);
            argument(damp, 0, 100);
            air[room] = new int[] {warmth, damp};
            return 0;
        }

        private int open(int room, boolean is) {
            index(room, 1, 5);
            return (is ? open.add(room) : open.remove(room)) ? 1 : 0;
        }

        private int days(int n) {
            argument(n, 0, 200);
            for (int i = 0; i < n; i++) {
                if (today < 2000) {
                    day();
                }
            }
            return today;
        }

        private void day() {
            today++;
            for (int room : open) {
                air[room] = air[0];
            }
            for (Map<String, Integer> l : legs) {
                int room = l.get("room");
                int weight = l.get("weight");
                int more = 0;
                if (l.get("state") == 2) {
                    continue;
                }
                if (room == 0) {
                    l.merge("salted", 1, Integer::sum);
                    l.put("weight", weight - weight / 1000);
                    continue;
                }
                if (room == -1) {
                    more = 8;
                } else {
                    int warmth = air[room][0];
                    int by = (100 - air[room][1]) * (warmth < 0 ? 5 : 5 + warmth) / 10;
                    l.put("weight", weight - (int) ((long) weight * by / 100000));
                    more = warmth > 12 ? warmth - 12 : 0;
                }
                l.merge("heat", more, Integer::sum);
                if (l.get("heat") > 20 * l.get("salted") && l.get("salted") < l.get("first") / 1000) {
                    l.put("bad", 1);
                }
            }
        }

        private int rules() {
            String text = tape;
            tape = "";
            Map<String, Integer> read = new HashMap<>();
            int[] most = {2000, 100, 99, 3, 15000};
            List<String> words = List.of("days", "loss", "salt", "feed", "weight");
            Matcher thing = Pattern.compile("\\G *(?:([a-z]+)|([0-9]+)|(;)|(.))", Pattern.DOTALL).matcher(text);
            int at = 0;
            int n = 0;
            String word = "";
            fault = -1;
            while (fault < 0 && at <= text.length()) {
                boolean is = thing.find();
                if (!is || thing.group().isBlank() && thing.group().endsWith(" ")) {
                    fault = n % 3 == 2 ? -1 : text.length();
                    break;
                }
                int group = thing.group(1) != null ? 1 : thing.group(2) != null ? 2 : thing.group(3) != null ? 3 : 4;
                String it = thing.group(group);
                boolean right = group == n % 3 + 1;
                if (right && group == 1) {
                    right = words.contains(it);
                    word = it;
                } else if (right && group == 2) {
                    right = it.length() <= 5 && Integer.parseInt(it) <= most[words.indexOf(word)];
                    if (right) {
                        read.put(word, Integer.parseInt(it));
                    }
                }
                if (!right) {
                    fault = thing.start(group);
                }
                at = thing.end();
                n++;
            }
            if (fault >= 0) {
                throw new IllegalArgumentException();
            }
            rules = read;
            return (n + 1) / 3;
        }

        private int fed(int farm, int from, int what) {
            index(farm, 0, 9);
            argument(what, 0, 3);
            argument(from, 0, 2000);
            if (feeds.size() == 60) {
                return -1;
            }
            feeds.add(new int[] {farm, from, what, today});
            int undone = 0;
            for (Map<String, Integer> l : legs) {
                if (l.get("sealed") == 1 && l.get("state") != 2
                        && known(l.get("farm"), l.get("begun"), today) < l.get("feed")) {
                    l.put("sealed", 0);
                    undone++;
                }
            }
            return undone;
        }

        private int known(int farm, int day, int on) {
            return feeds.stream().filter(f -> f[0] == farm && f[3] <= on && f[1] <= day)
                    .reduce(new int[] {0, -1, 0, 0}, (a, b) -> b[1] >= a[1] ? b : a)[2];
        }

        private int rule(String word) {
            return rules.getOrDefault(word, 0);
        }

        private int seal(int leg) {
            Map<String, Integer> l = of(leg);
            int first = l.get("first");
            boolean[] against = {l.get("state") == 2, l.get("sealed") == 1, l.get("bad") == 1,
                today - l.get("begun") < rule("days"), (first - l.get("weight")) / (first / 100) < rule("loss"),
                l.get("salted") < rule("salt"), known(l.get("farm"), l.get("begun"), today) < rule("feed"),
                l.get("weight") < rule("weight")};
            for (int i = 0; i < against.length; i++) {
                if (against[i]) {
                    return i + 1;
                }
            }
            l.putAll(Map.of("sealed", 1, "feed", rule("feed")));
            return 0;
        }

        private int look(int leg, int what) {
            Map<String, Integer> l = of(leg);
            String[] names = {"weight", "first", "salted", "heat", "state", "room", "hook", "sealed", "bad", "farm", "pig", "begun"};
            if (what < 0 || what >= names.length) {
                throw new NoSuchElementException();
            }
            return l.get(names[what]);
        }

        private int should(int leg, int room, int hook) {
            Map<String, Integer> l = of(leg);
            index(room, 1, 5);
            index(hook, 0, 9);
            int place = room * 10 + hook;
            for (int other : should.keySet()) {
                if (other != leg && should.get(other) == place) {
                    return 0;
                }
            }
            if (l.get("room") < 1) {
                return 0;
            }
            should.put(leg, place);
            return 1;
        }

        private int moves() {
            Map<Integer, Integer> from = new HashMap<>();
            Set<Integer> told = new HashSet<>();
            int hanging = 0;
            for (int i = 0; i < legs.size(); i++) {
                if (legs.get(i).get("room") >= 1) {
                    hanging++;
                    if (should.containsKey(i)) {
                        from.put(legs.get(i).get("room") * 10 + legs.get(i).get("hook"), should.get(i));
                        told.add(should.get(i));
                    }
                }
            }
            should.clear();
            for (int place : told) {
                if (!from.containsKey(place) && on(place / 10, place % 10) != -1) {
                    return -1;
                }
            }
            int moves = 0;
            Set<Integer> seen = new HashSet<>();
            for (int start : from.keySet()) {
                moves += from.get(start) == start ? 0 : 1;
                int at = start;
                Set<Integer> way = new HashSet<>();
                while (from.containsKey(at) && seen.add(at)) {
                    way.add(at);
                    at = from.get(at);
                }
                if (way.size() > 1 && way.contains(at)) {
                    if (hanging == 50) {
                        return -1;
                    }
                    moves++;
                }
            }
            return moves;
        }

        private int order(int grams) {
            argument(grams, 1, 200000);
            List<Map<String, Integer>> of = new ArrayList<>();
            for (Map<String, Integer> l : legs) {
                if (l.get("sealed") == 1 && l.get("state") == 1 && l.get("bad") == 0 && of.size() < 14) {
                    of.add(l);
                }
            }
            int best = 0;
            long bestRank = Long.MAX_VALUE;
            for (int set = 1; set < 1 << of.size(); set++) {
                long weight = 0;
                for (int i = 0; i < of.size(); i++) {
                    weight += (set >> i & 1) * of.get(i).get("weight");
                }
                long rank = (weight * 16 + Integer.bitCount(set)) * 65536 + set;
                if (weight >= grams && rank < bestRank) {
                    best = set;
                    bestRank = rank;
                }
            }
            for (int i = 0; i < of.size(); i++) {
                if ((best >> i & 1) == 1) {
                    of.get(i).putAll(Map.of("state", 2, "room", -1, "hook", -1));
                }
            }
            return best == 0 ? -1 : Integer.bitCount(best);
        }

        private int count(int what) {
            switch (what) {
                case 0: return today;
                case 1: return legs.size();
                case 2: return (int) legs.stream().filter(l -> l.get("state") == 1).count();
                case 3: return (int) legs.stream().filter(l -> l.get("sealed") == 1).count();
                case 4: return (int) legs.stream().filter(l -> l.get("bad") == 1).count();
                case 5: return (int) legs.stream().filter(l -> l.get("state") == 2).count();
                case 6: return legs.stream().filter(l -> l.get("state") != 2).mapToInt(l -> l.get("weight")).sum();
                case 7: return legs.stream().filter(l -> l.get("state") == 2).mapToInt(l -> l.get("weight")).sum();
                case 8: return feeds.size();
                case 9: return should.size();
                default: return -1;
            }
        }
    }
}
