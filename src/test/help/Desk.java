import java.nio.charset.StandardCharsets;

/** What all tests share: texts go over the tape, answers are held against those that are due. */
final class Desk {
    private static int wrong = 0;
    private static int asked = 0;
    private static String sentence = "";

    private Desk() {
    }

    /** The sentence of the document that is asked for from here on; it is told with each wrong answer. */
    static void sentence(String words) {
        sentence = "[" + words + "] ";
    }

    static void due(String call, long got, long want) {
        asked++;
        if (got != want) {
            wrong++;
            System.out.println(sentence + call + " answered " + got + ", due is " + want);
        }
    }

    static void due(String call, boolean got, boolean want) {
        due(call, got ? 1 : 0, want ? 1 : 0);
    }

    static void due(String call, String got, String want) {
        asked++;
        if (!got.equals(want)) {
            wrong++;
            System.out.println(sentence + call + " answered '" + got + "', due is '" + want + "'");
        }
    }

    /** Puts a text on the tape. */
    static void feed(TalkHouse house, byte[] text) {
        for (int i = 0; i < text.length; i += 20) {
            int[] five = new int[5];
            for (int k = 0; k < 20; k++) {
                int sign = i + k < text.length ? text[i + k] & 255 : ' ';
                five[k / 4] = five[k / 4] << 8 | sign;
            }
            house.feed(five[0], five[1], five[2], five[3], five[4]);
        }
        house.end(text.length);
    }

    static int load(TalkHouse house, String text) {
        feed(house, text.getBytes(StandardCharsets.ISO_8859_1));
        return house.load();
    }

    /** A house with a text that must be taken. */
    static TalkHouse taken(String text) {
        TalkHouse house = new TalkHouse();
        int defs = load(house, text);
        if (defs < 1) {
            due("load of: " + text + " (fault " + house.fault(0) + " at " + house.fault(1) + ")", defs, 1);
        }
        due("fault(0) of: " + text, house.fault(0), 0);
        due("fault(1) of: " + text, house.fault(1), TalkHouse.NONE);
        return house;
    }

    /** A text that must be refused; the first sign ~ stands ahead of the place of the fault. */
    static void refused(int fault, String marked) {
        int place = marked.indexOf('~');
        String text = marked.substring(0, place) + marked.substring(place + 1);
        TalkHouse house = new TalkHouse();
        due("load of: " + marked, load(house, text), TalkHouse.NONE);
        due("fault(0) of: " + marked, house.fault(0), fault);
        due("fault(1) of: " + marked, house.fault(1), place);
    }

    static String out(TalkHouse house) {
        StringBuilder text = new StringBuilder();
        for (int i = 0; house.out(i) != TalkHouse.NONE; i++) {
            text.append((char) house.out(i));
        }
        return text.toString();
    }

    static String printed(TalkHouse house, int i, int k) {
        int length = house.print(i, k);
        if (length == TalkHouse.NONE) {
            return "NONE";
        }
        String text = out(house);
        due("length of " + text, length, text.length());
        return text;
    }

    static String times(int n, String part) {
        return part.repeat(n);
    }

    static void finish() {
        if (wrong != 0) {
            System.out.println(wrong + " of " + asked + " answers are not as due");
            System.exit(1);
        }
        System.out.println("all " + asked + " answers are as due");
    }
}
