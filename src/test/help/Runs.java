import java.io.IOException;
import java.nio.file.Files;
import java.nio.file.Path;
import java.util.ArrayList;
import java.util.Arrays;
import java.util.HashMap;
import java.util.List;
import java.util.Map;
import java.util.Set;
import java.util.regex.Matcher;
import java.util.regex.Pattern;

/**
 * Plays runs of calls, told as text: "item(LETTER, 50, 0, 7) = 1; about(1, kind) = LETTER".
 *
 * Each run is played on a new object; then once more without its refused calls, which must not be missed; and behind
 * each refused call an object that had it and one that had it not are asked all there is to ask.
 */
final class Runs {
    private static final int MOST_CALLS = 512;
    private static final int NONE = -1;
    private static final int LATE = -105;
    private static final int FIRST_REFUSAL = -101;
    private static final Set<String> READINGS = Set.of("row", "octet", "aside");
    private static final Pattern CALL = Pattern.compile("(\\w+)\\(([^()]*)\\) = (\\S+)");
    private static final Map<String, Integer> WORDS = words();

    private record Call(String name, int[] args, int due, String text) {
        boolean isRefused() {
            return due <= FIRST_REFUSAL && due != LATE;
        }

        /** Refused, or late (which is counted, no more), or asked for what is not there. */
        boolean changesNothing() {
            return due <= FIRST_REFUSAL || due == NONE && READINGS.contains(name);
        }

        int play(ItemFacts x) {
            int[] a = args;
            switch (name) {
                case "item": return x.item(a[0], a[1], a[2], a[3]);
                case "service": return x.service(a[0], a[1]);
                case "event": return x.event(a[0], a[1]);
                case "address": return x.address(a[0], a[1], a[2]);
                case "abroad": return x.abroad(a[0], a[1]);
                case "contents": return x.contents(a[0], a[1], a[2]);
                case "join": return x.join(a[0], a[1], a[2] == 1);
                case "bulk": return x.bulk(a[0], a[1]);
                case "open": return x.open(a[0], a[1], a[2]);
                case "correct": return x.correct(a[0], a[1], a[2], a[3]);
                case "row": return x.row(a[0], a[1]);
                case "about": return x.about(a[0], a[1]);
                case "pack": return x.pack(a[0]);
                case "octet": return x.octet(a[0]);
                case "aside": return x.aside(a[0]);
                default: throw new IllegalArgumentException("no such call: " + text);
            }
        }
    }

    /** The document's text, or empty where it is not at hand: the runs are played then all the same. */
    private final String document;
    private final boolean[] quoted;
    private int runCount = 0;
    private int callCount = 0;
    private int refusedCount = 0;
    private int wrong = 0;

    Runs(Path path) throws IOException {
        document = Files.exists(path) ? Files.readString(path).replaceAll("\\s+", " ") : "";
        quoted = new boolean[document.length()];
    }

    private static Map<String, Integer> words() {
        Map<String, Integer> words = new HashMap<>();
        number(words, "LETTER LARGE PACKET PARCEL");
        number(words, "TOLD IN SORTED ON_ITS_WAY OUT DELIVERED HELD GOING_BACK DEAD LOST");
        number(words, "taken sorted sent office delivered unmet back damaged resealed dead lost");
        number(words, "state kind weight size services read settled land consignment bulk late harm sender openers");
        number(words, "false true");
        words.put("MIN", Integer.MIN_VALUE);
        words.put("MAX", Integer.MAX_VALUE);
        words.put("NONE", NONE);
        words.put("EXCLUDED", -200);
        String[] refusals = "UNKNOWN OUTSIDE STATE ROOM LATE LACKS WAITS ALONE HEAVY BULKY WANTED".split(" ");
        for (int k = 0; k < refusals.length; k++) {
            words.put(refusals[k], FIRST_REFUSAL - k);
        }
        return words;
    }

    private static void number(Map<String, Integer> words, String names) {
        int next = 0;
        for (String name : names.split(" ")) {
            if (words.put(name, next++) != null) {
                throw new IllegalArgumentException("a word with two meanings: " + name);
            }
        }
    }

    private static int value(String text) {
        String word = text.trim();
        int less = word.indexOf('-', 1);
        if (less > 0) {
            return value(word.substring(0, less)) - value(word.substring(less + 1));
        }
        Integer named = WORDS.get(word);
        return named != null ? named : Integer.parseInt(word);
    }

    private static Call call(String text) {
        Matcher parts = CALL.matcher(text);
        if (!parts.matches()) {
            throw new IllegalArgumentException("not a call with its answer: " + text);
        }
        int[] args = Arrays.stream(parts.group(2).split(",")).mapToInt(Runs::value).toArray();
        return new Call(parts.group(1), args, value(parts.group(3)), text);
    }

    /** The sentence must stand in the document, word for word, and each of the runs be answered as it says. */
    void hold(String sentence, String... runs) {
        int at = document.indexOf(sentence);
        if (at < 0 && !document.isEmpty()) {
            fail("the document does not say: " + sentence);
        }
        for (; at >= 0; at = document.indexOf(sentence, at + 1)) {
            Arrays.fill(quoted, at, at + sentence.length(), true);
        }
        for (String run : runs) {
            List<Call> calls = new ArrayList<>();
            for (String text : run.split(";")) {
                if (!text.isBlank()) {
                    calls.add(call(text.trim().replaceAll("\\s+", " ")));
                }
            }
            hold(sentence, calls);
        }
    }

    /** The least and the most number in place of $, each with its answer, and OUTSIDE on either side of them. */
    void edges(String sentence, String before, String call, int least, int most, String... answers) {
        hold(sentence,
            before + call.replace("$", Integer.toString(least)) + " = " + answers[0],
            before + call.replace("$", Integer.toString(most)) + " = " + answers[answers.length - 1]);
        // The last ones would be allowed again if only some of their bits were looked at.
        int[] beyond = {
            least - 1, most + 1, Integer.MIN_VALUE, Integer.MAX_VALUE, least + 32, least + 256, least + 65536,
            least + (1 << 24), least + Integer.MIN_VALUE,
        };
        for (int number : beyond) {
            if (number < least || number > most) {
                hold(sentence, before + call.replace("$", Integer.toString(number)) + " = OUTSIDE");
            }
        }
    }

    private void hold(String sentence, List<Call> calls) {
        if (calls.isEmpty() || calls.size() > MOST_CALLS) {
            fail("a run of " + calls.size() + " calls: " + sentence);
            return;
        }
        runCount++;
        callCount += calls.size();
        play(sentence, calls);
        List<Call> accepted = new ArrayList<>();
        for (Call each : calls) {
            if (each.changesNothing()) {
                leavesAll(sentence, accepted, each);
            }
            if (each.isRefused()) {
                refusedCount++;
            } else {
                accepted.add(each);
            }
        }
        if (accepted.size() < calls.size()) {
            play("without what is refused: " + sentence, accepted);
        }
    }

    private void play(String sentence, List<Call> calls) {
        ItemFacts x = new ItemFacts();
        for (int k = 0; k < calls.size(); k++) {
            int got = calls.get(k).play(x);
            if (got != calls.get(k).due()) {
                fail("\"" + sentence + "\", call " + (k + 1) + ": " + calls.get(k).text() + " is due, the answer was "
                    + got + ", behind " + last(calls, k));
                return;
            }
        }
    }

    private static String last(List<Call> calls, int k) {
        StringBuilder text = new StringBuilder(k > 12 ? ".. " : "");
        for (Call each : calls.subList(Math.max(0, k - 12), k)) {
            text.append(each.text()).append("; ");
        }
        return text.toString();
    }

    private void leavesAll(String sentence, List<Call> before, Call refused) {
        int room = MOST_CALLS - before.size() - 1;
        for (List<Call> questions : questions(before, refused)) {
            for (int from = 0; from < questions.size() && room > 0; from += room) {
                List<Call> some = questions.subList(from, Math.min(from + room, questions.size()));
                ItemFacts with = new ItemFacts();
                ItemFacts without = new ItemFacts();
                for (Call each : before) {
                    each.play(with);
                    each.play(without);
                }
                refused.play(with);
                if (!sameAnswers(sentence, refused, some, with, without)) {
                    return;
                }
            }
        }
    }

    private boolean sameAnswers(String sentence, Call refused, List<Call> questions, ItemFacts with,
            ItemFacts without) {
        for (Call each : questions) {
            int got = each.play(with);
            int want = each.play(without);
            if (got != want) {
                fail("\"" + sentence + "\": " + refused.text() + " is refused, yet then " + each.name()
                    + Arrays.toString(each.args()) + " answers " + got + ", and without it " + want);
                return false;
            }
        }
        return true;
    }

    /** Rows of questions; those of one row are asked of one object, as far as its 512 calls reach. */
    private static List<List<Call>> questions(List<Call> before, Call refused) {
        int items = 0;
        int rows = 0;
        for (Call each : before) {
            items += each.name().equals("item") ? 1 : 0;
            rows += each.name().equals("correct") ? 1 : 0;
        }
        List<List<Call>> all = new ArrayList<>();
        all.add(readings(items, rows, refused));
        for (int item = 1; item <= items; item++) {
            if (item <= 8 || item == items) {
                all.add(life(item));
            }
        }
        for (int number = 1; number <= 30; number++) {
            all.add(joining(items, number));
            // Where there is no room for new items, the last one may be free to join.
            all.add(belonging(items, number));
        }
        return all;
    }

    private static void add(List<Call> to, String name, int... args) {
        to.add(new Call(name, args, 0, name));
    }

    private static List<Call> readings(int items, int rows, Call refused) {
        List<Call> all = new ArrayList<>();
        for (int i = 0; i <= 31; i++) {
            add(all, "octet", i);
        }
        for (int i = 0; i <= items; i++) {
            add(all, "aside", i);
        }
        for (int i = 1; i <= items + 1; i++) {
            for (int what = 0; what <= 13; what++) {
                // A late event is counted, and changes nothing else.
                if (refused.due() != LATE || i != refused.args()[0] || what != 10) {
                    add(all, "about", i, what);
                }
            }
        }
        for (int i = 0; i <= rows; i++) {
            for (int what = 0; what <= 4; what++) {
                add(all, "row", i, what);
            }
        }
        return all;
    }

    /** What can still be done with the item, and its bytes before and then. */
    private static List<Call> life(int item) {
        List<Call> all = new ArrayList<>();
        bytes(all, item);
        add(all, "address", item, 0, 3);
        for (int s = 0; s <= 5; s++) {
            add(all, "service", item, s);
        }
        for (int event : new int[] {8, 0, 1, 2, 3, 5, 3, 4, 6, 1, 9}) {
            add(all, "event", item, event);
        }
        add(all, "open", item, 1, 2);
        add(all, "abroad", item, 3);
        for (int k = 0; k < 5; k++) {
            add(all, "contents", item, k, k);
        }
        add(all, "address", item, 1, 4);
        bytes(all, item);
        return all;
    }

    private static void bytes(List<Call> all, int item) {
        add(all, "pack", item);
        for (int i = 0; i <= 30; i++) {
            add(all, "octet", i);
        }
    }

    /** How many are in the consignment, and whether it waits. */
    private static List<Call> joining(int items, int consignment) {
        List<Call> all = new ArrayList<>();
        add(all, "item", 0, 1, 0, 0);
        add(all, "item", 0, 1, 0, 0);
        add(all, "join", items + 1, consignment, 0);
        add(all, "join", items + 2, consignment, 0);
        for (int event : new int[] {0, 1, 2, 3, 4}) {
            add(all, "event", items + 1, event);
        }
        add(all, "bulk", items + 1, consignment);
        add(all, "correct", items + 1, 3, 5, 1);
        return all;
    }

    private static List<Call> belonging(int item, int number) {
        List<Call> all = new ArrayList<>();
        add(all, "join", item, number, 0);
        add(all, "bulk", item, number);
        return all;
    }

    /** All that the document says from one heading up to another must have been quoted, but for signatures. */
    void allQuoted(String from, String to) {
        if (document.isEmpty()) {
            System.out.println("the document is not at hand, so the sentences were not looked up in it");
            return;
        }
        int first = document.indexOf(from);
        int last = document.indexOf(to);
        if (first < 0 || last < first) {
            fail("no such part of the document: " + from + " to " + to);
            return;
        }
        StringBuilder rest = new StringBuilder();
        for (int k = first; k < last; k++) {
            rest.append(quoted[k] ? '\n' : document.charAt(k));
        }
        // LanguageTest looks at the face.
        String bare = rest.toString().replaceAll("```java [^`]*```", "\n")
            .replaceAll("## (What it is|The public face|Terms|Promise \\d+: (A new object|\\w+))", "\n")
            .replaceAll("```(text)?", "\n").replaceAll("`(int )?\\w+\\([^()`]*\\)`", "\n");
        for (String piece : bare.split("\n")) {
            if (piece.matches(".*\\w.*")) {
                fail("said by the document, and no run is told for it: " + piece.trim());
            }
        }
    }

    void fail(String why) {
        wrong++;
        System.out.println(why);
    }

    /** Says how it went; whether all was as due. */
    boolean wentWell() {
        System.out.println(runCount + " runs, " + callCount + " calls, " + refusedCount + " of them refused; " + wrong
            + " not as due");
        return wrong == 0;
    }
}
