import java.nio.charset.StandardCharsets;
import java.util.NoSuchElementException;

/** What all tests share: towns from texts, answers that are due, and the end with its exit code. */
final class Checks {
    private static int wrong = 0;
    private static int asked = 0;
    private static String sentence = "";

    private Checks() {
    }

    /** The document's words that the answers from here on hold to. */
    static void sentence(String words) {
        sentence = "\"" + words + "\": ";
    }

    static void due(String what, long got, long want) {
        asked++;
        if (got != want) {
            wrong++;
            System.out.println(sentence + what + " answered " + got + ", due is " + want);
        }
    }

    static void due(String what, boolean got, boolean want) {
        due(what, got ? 1 : 0, want ? 1 : 0);
    }

    static void noSuch(String what, Runnable call) {
        due(what + " throws (1 NoSuchElementException, 2 IllegalArgumentException)", thrown(call), 1);
    }

    static void badArgument(String what, Runnable call) {
        due(what + " throws (1 NoSuchElementException, 2 IllegalArgumentException)", thrown(call), 2);
    }

    private static int thrown(Runnable call) {
        try {
            call.run();
        } catch (NoSuchElementException e) {
            return 1;
        } catch (IllegalArgumentException e) {
            return 2;
        }
        return 0;
    }

    /** Feeds a text, blanks behind it, and tells what feed() answered last. */
    static int feed(StrangeKnives x, String text) {
        byte[] bytes = text.getBytes(StandardCharsets.ISO_8859_1);
        int answer = 0;
        for (int at = 0; at < bytes.length; at += 20) {
            int[] numbers = new int[5];
            for (int i = 0; i < 20; i++) {
                int b = at + i < bytes.length ? bytes[at + i] & 255 : ' ';
                numbers[i / 4] = numbers[i / 4] << 8 | b;
            }
            answer = x.feed(numbers[0], numbers[1], numbers[2], numbers[3], numbers[4]);
        }
        return answer;
    }

    static int tell(StrangeKnives x, String text) {
        feed(x, text);
        return x.town(text.length());
    }

    /** A town from a text without a fault. */
    static StrangeKnives town(String text) {
        StrangeKnives x = new StrangeKnives();
        due("town of " + text, tell(x, text), 0);
        return x;
    }

    static void fault(String text, int code, int place) {
        StrangeKnives x = new StrangeKnives();
        due("town of " + text, tell(x, text), code);
        due("fault of " + text, x.fault(), place);
        due("status of " + text, x.count(12), code == 0 ? 0 : 1);
    }

    /** A text with ~ where its fault is. */
    static void faultAtMark(String marked, int code) {
        int place = marked.indexOf('~');
        fault(marked.replace("~", ""), code, place);
    }

    static void finish() {
        System.out.println(asked + " answers, " + wrong + " wrong");
        if (wrong != 0) {
            System.exit(1);
        }
    }
}
