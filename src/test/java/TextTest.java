/**
 * All texts of up to five pieces: how many rules each tells, or where its first wrong byte is, against a reading that
 * takes the text apart into things first and looks at their order afterwards.
 */
public final class TextTest {
    /** Two pieces side by side may be one thing: "feed" and "feed" one word, 3 and 03000 one number. */
    private static final String[] PIECES =
            {"feed", "weight", "fee", "3", "4", "03000", "15001", ";", " ", "A", "\0"};
    private static final int MOST_PIECES = 5;
    /** A text is six calls at most: two feeds, an end, rules and its fault twice; so a cellar stays below 512. */
    private static final int TEXTS_A_CELLAR = 80;

    private static final String[] WORDS = {"days", "loss", "salt", "feed", "weight"};
    private static final int[] MOST = {2000, 100, 99, 3, 15000};

    private static HamCellar cellar;
    private static int texts = 0;
    private static int right = 0;

    public static void main(String[] args) {
        StringBuilder text = new StringBuilder();
        for (int pieces = 0; pieces <= MOST_PIECES; pieces++) {
            allOf(pieces, text);
        }
        Check.due("texts", texts, 1 + 11 + 121 + 1331 + 14641 + 161051);
        Check.due("some texts are right: " + right, right > 100, true);
        everyByte();
        Check.close("TextTest");
    }

    private static void allOf(int pieces, StringBuilder text) {
        if (pieces == 0) {
            ask(text.toString());
            return;
        }
        int length = text.length();
        for (String piece : PIECES) {
            allOf(pieces - 1, text.append(piece));
            text.setLength(length);
        }
    }

    /** Each byte at each end of each thing of a text. */
    private static void everyByte() {
        for (int b = 0; b < 256; b++) {
            for (int at = 0; at <= 7; at++) {
                ask(new StringBuilder("feed 3;").insert(at, (char) b) + "days 9");
            }
        }
    }

    private static void ask(String text) {
        if (texts % TEXTS_A_CELLAR == 0) {
            cellar = new HamCellar();
        }
        texts++;
        Check.tape(cellar, text);
        int got;
        try {
            got = cellar.rules();
        } catch (IllegalArgumentException e) {
            got = -1 - cellar.fault();
        }
        int want = read(text);
        right += want > 0 ? 1 : 0;
        Check.due("rules, or less than none by its fault, of \"" + text + "\"", got, want);
        Check.due("fault of \"" + text + "\"", cellar.fault(), want > 0 ? HamCellar.NONE : -1 - want);
    }

    /** How many rules; where it is wrong, as much below -1 as its fault. */
    private static int read(String text) {
        int things = 0;
        int kind = -1;
        int at = 0;
        while (at < text.length()) {
            int end = endOf(text, at);
            String thing = text.substring(at, end);
            if (!thing.equals(" ")) {
                int role = things % 3;
                if (role == 0) {
                    kind = kindOf(thing);
                }
                boolean stands = role == 0 ? kind >= 0 : role == 1 ? isNumber(thing, MOST[kind]) : thing.equals(";");
                if (!stands) {
                    return -1 - at;
                }
                things++;
            }
            at = end;
        }
        return things % 3 == 2 ? things / 3 + 1 : -1 - text.length();
    }

    private static int endOf(String text, int begin) {
        int end = begin + 1;
        int sort = sortOf(text.charAt(begin));
        while (sort != 0 && end < text.length() && sortOf(text.charAt(end)) == sort) {
            end++;
        }
        return end;
    }

    private static int sortOf(char sign) {
        return sign >= 'a' && sign <= 'z' ? 1 : sign >= '0' && sign <= '9' ? 2 : 0;
    }

    private static int kindOf(String thing) {
        for (int kind = 0; kind < WORDS.length; kind++) {
            if (WORDS[kind].equals(thing)) {
                return kind;
            }
        }
        return -1;
    }

    private static boolean isNumber(String thing, int most) {
        return sortOf(thing.charAt(0)) == 2 && thing.length() <= 5 && Integer.parseInt(thing) <= most;
    }
}
