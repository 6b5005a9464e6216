import java.nio.charset.StandardCharsets;

/** A house that is talked to in texts, and what is due of it. */
final class Talk {
    private static int wrong = 0;
    private static int looked = 0;

    final MatchHouse x = new MatchHouse();

    /** A house with a module. */
    static Talk of(String module) {
        Talk talk = new Talk();
        due("module " + module, talk.module(module), 0);
        return talk;
    }

    static void due(String what, long got, long want) {
        looked++;
        if (got != want) {
            wrong++;
            System.out.println(shortened(what) + ": " + got + ", due is " + want);
        }
    }

    private static String shortened(String what) {
        return what.length() <= 300 ? what : what.substring(0, 150) + " .. " + what.substring(what.length() - 150);
    }

    static void due(String what, String got, String want) {
        looked++;
        if (!got.equals(want)) {
            wrong++;
            System.out.println(shortened(what) + ": " + got + ", due is " + want);
        }
    }

    /** Ends the test: with 1 if an answer was not as due. */
    static void finish() {
        System.out.println(looked + " answers looked at, " + wrong + " not as due");
        if (wrong != 0) System.exit(1);
    }

    /** Puts a text behind the text. */
    void feed(String text) {
        byte[] bytes = text.getBytes(StandardCharsets.ISO_8859_1);
        for (int i = 0; i < bytes.length; i += 20) {
            int[] n = new int[5];
            int have = Math.min(20, bytes.length - i);
            for (int k = 0; k < 20; k++) {
                n[k / 4] = n[k / 4] << 8 | (k < have ? bytes[i + k] & 255 : ' ');
            }
            x.feed(n[0], n[1], n[2], n[3], n[4]);
            if (have < 20) x.end(have);
        }
    }

    int module(String text) {
        feed(text);
        return x.module();
    }

    int value(String text) {
        feed(text);
        return x.value();
    }

    int named(String text) {
        feed(text);
        return x.named();
    }

    /** A VALUE that is to be KEPT: its number. */
    int keep(String text) {
        int v = value(text);
        if (v < 0) due("value " + text, v, x.count(9) - 1);
        return v;
    }

    /** The text that a KEPT VALUE is told as. */
    String told(int v) {
        int size = x.tell(v);
        StringBuilder text = new StringBuilder();
        for (int i = 0; i < size; i++) text.append((char) x.letter(i));
        due("letter behind the text", x.letter(size), MatchHouse.NONE);
        return text.toString();
    }

    /** The bits of the row. */
    String row() {
        StringBuilder text = new StringBuilder();
        for (int i = 0; i < x.count(10); i++) text.append(x.bit(i));
        return text.toString();
    }

    /** Bits to the row, which is empty ahead of them. */
    void bits(String row) {
        x.noBits();
        for (int i = 0; i < row.length(); i++) {
            if (row.charAt(i) != ' ') x.bits(row.charAt(i) - '0', 1);
        }
    }

    /** A module with this fault at the first place of this mark (or at its end): the mark is no part of it. */
    static void fault(int fault, String marked) {
        Talk talk = new Talk();
        int place = marked.indexOf('^');
        String text = marked.substring(0, place) + marked.substring(place + 1);
        due("fault of " + marked, talk.module(text), fault);
        due("place in " + marked, talk.x.count(1), place);
        due("count(0) of " + marked, talk.x.count(0), fault);
        due("no module after " + marked, talk.x.value(), MatchHouse.BAD);
    }

    /** A text without a fault. */
    static void sound(String text) {
        Talk talk = new Talk();
        due("module " + text, talk.module(text), 0);
        due("place in " + text, talk.x.count(1), MatchHouse.BAD);
    }

    /** An exp with this fault at the mark. */
    void valueFault(int fault, String marked) {
        int place = marked.indexOf('^');
        int kept = x.count(9);
        due("value " + marked, value(marked.substring(0, place) + marked.substring(place + 1)), -10 - fault);
        due("place in value " + marked, x.count(1), place);
        due("kept after " + marked, x.count(9), kept);
        due("text after " + marked, x.count(2), 0);
    }

    /** An exp that is worked out as told. */
    void works(String exp, String want) {
        int v = value(exp);
        if (v < 0) {
            due("value " + exp, v, x.count(9));
            return;
        }
        due("value " + exp, told(v), want);
        x.drop();
    }

    /** An exp that is an ERROR. */
    void fails(String exp, int error) {
        due("value " + exp, value(exp), -20 - error);
    }

    static String times(String text, int n) {
        StringBuilder all = new StringBuilder();
        for (int i = 0; i < n; i++) all.append(text);
        return all.toString();
    }

    /** head + 0, 1, .. behind it, with , between. */
    static String numbered(String head, int n, String tail) {
        StringBuilder all = new StringBuilder();
        for (int i = 0; i < n; i++) all.append(i == 0 ? "" : ",").append(head).append(i).append(tail);
        return all.toString();
    }

    static String row(String part, int n) {
        StringBuilder all = new StringBuilder();
        for (int i = 0; i < n; i++) all.append(i == 0 ? "" : ",").append(part);
        return all.toString();
    }
}
