import java.util.ArrayList;
import java.util.HashMap;
import java.util.List;
import java.util.Map;
import java.util.Random;
import java.util.TreeMap;
import java.util.TreeSet;

/**
 * Runs of 512 mixed calls, each answered by the class and by a model that is written another way (maps of texts,
 * tables, no counters). The seeds are fixed, so that every run is the same each time.
 */
public final class ModelTest {
    private static final int RUNS = 3000;
    private static final int CALLS = 512;
    private static final String[] NAMES = {
        "item", "service", "event", "address", "abroad", "contents", "join", "bulk", "open", "correct", "row", "about",
        "pack", "octet", "aside",
    };
    /** How many arguments each call takes, and for each argument its least and most number. */
    private static final int[][] RANGES = {
        {0, 3, 1, 100000, 0, 9, 0, 99}, {1, 120, 0, 5}, {1, 120, 0, 10}, {1, 120, 0, 1, 0, 9999}, {1, 120, 1, 30},
        {1, 120, 0, 99, 0, 100000}, {1, 120, 1, 30, 0, 1}, {1, 120, 1, 20}, {1, 120, 0, 19, 0, 19},
        {1, 120, 0, 4, 0, 9999, 1, 9}, {0, 199, 0, 4}, {1, 120, 0, 13}, {1, 120}, {0, 30}, {0, 120},
    };
    private static final String[] FITTING = {"0", "1", "2", "3331", "4555566", "0", "33369", "1111499", "7", "0"};
    private static final int[] EDGES = {
        Integer.MIN_VALUE, -2, -1, 0, 1, 2, 3, 4, 49, 50, 51, 500, 501, 2000, 2001, 31500, 31501, 100000, 100001,
        9999, 10000, Integer.MAX_VALUE,
    };

    public static void main(String[] args) {
        int wrong = 0;
        int refused = 0;
        Map<Integer, Integer> answers = new TreeMap<>();
        for (int seed = 1; seed <= RUNS && wrong < 10; seed++) {
            Random random = new Random(seed);
            ItemFacts facts = new ItemFacts();
            Model model = new Model();
            List<String> told = new ArrayList<>();
            // Few items make long lives, many items fill the room.
            int items = 1 + random.nextInt(seed % 10 == 0 ? 125 : 5);
            int favourite = random.nextInt(NAMES.length);
            for (int k = 0; k < CALLS; k++) {
                int call = chooseCall(random, k, items, favourite);
                int[] a = arguments(random, call, items);
                if (call == 2 && random.nextInt(4) != 0) {
                    a[1] = fitting(random, model, a[0]);
                }
                int got = ask(facts, call, a);
                int want = model.ask(NAMES[call], a);
                told.add(NAMES[call] + java.util.Arrays.toString(a) + " = " + got);
                if (want < 0) {
                    refused++;
                    answers.merge(want, 1, Integer::sum);
                }
                if (got != want) {
                    wrong++;
                    System.out.println("seed " + seed + ", call " + k + ": " + told.get(k) + ", due is " + want);
                    break;
                }
            }
        }
        System.out.println(RUNS + " runs of " + CALLS + " calls, " + refused + " refused or none: " + answers);
        for (int due : new int[] {-1, -101, -102, -103, -104, -105, -106, -107, -108, -109, -110, -111, -201, -205}) {
            if (wrong == 0 && !answers.containsKey(due)) {
                wrong++;
                System.out.println("no run ever came to the answer " + due);
            }
        }
        if (wrong != 0) {
            System.exit(1);
        }
    }

    private static int chooseCall(Random random, int k, int items, int favourite) {
        if (k < items) {
            return 0;
        }
        int dice = random.nextInt(10);
        if (dice < 4) {
            return 2;
        }
        if (dice < 6) {
            return favourite;
        }
        return random.nextInt(NAMES.length);
    }

    private static int[] arguments(Random random, int call, int items) {
        int[] range = RANGES[call];
        int[] a = new int[range.length / 2];
        for (int k = 0; k < a.length; k++) {
            int least = range[2 * k];
            int most = range[2 * k + 1];
            if (random.nextInt(40) == 0) {
                a[k] = random.nextBoolean() ? EDGES[random.nextInt(EDGES.length)] : random.nextBoolean() ? least - 1 : most + 1;
            } else if (k == 0 && least == 1 && most == 120) {
                a[k] = 1 + random.nextInt(items);
            } else {
                a[k] = likely(random, least, most);
            }
        }
        if (call == 9 && a[1] <= 2 && random.nextInt(8) != 0) {
            a[2] = a[1] == 0 ? random.nextInt(4) : a[1] == 1 ? likely(random, 1, 100000) : random.nextInt(5);
        }
        if (call == 0 && random.nextInt(4) != 0) {
            a[1] = 1 + random.nextInt(random.nextBoolean() ? 600 : 31500);
            a[2] = random.nextInt(4);
        }
        if (call == 2 && a[1] == 10 && random.nextInt(10) != 0) {
            a[1] = random.nextInt(10);
        }
        return a;
    }

    /** An event that the item's state lets through, or a rare one: most items would be lost at once otherwise. */
    private static int fitting(Random random, Model model, int number) {
        int state = model.ask("about", new int[] {number, 0});
        if (state < 0) {
            return random.nextInt(11);
        }
        if (model.ask("about", new int[] {number, 11}) == 1) {
            return 8;
        }
        String events = FITTING[state];
        return random.nextInt(30) == 0 ? 7 : events.charAt(random.nextInt(events.length())) - '0';
    }

    private static int likely(Random random, int least, int most) {
        int dice = random.nextInt(4);
        if (dice == 0) {
            int edge = EDGES[random.nextInt(EDGES.length)];
            return edge < least || edge > most ? least : edge;
        }
        if (dice == 1) {
            return least + random.nextInt(Math.min(most - least + 1, 4));
        }
        return least + random.nextInt(most - least + 1);
    }

    private static int ask(ItemFacts x, int call, int[] a) {
        switch (NAMES[call]) {
            case "item": return x.item(a[0], a[1], a[2], a[3]);
            case "service": return x.service(a[0], a[1]);
            case "event": return x.event(a[0], a[1]);
            case "address": return x.address(a[0], a[1], a[2]);
            case "abroad": return x.abroad(a[0], a[1]);
            case "contents": return x.contents(a[0], a[1], a[2]);
            case "join": return x.join(a[0], a[1], a[2] == 1);
            case "bulk": return x.bulk(a[0], a[1]);
            case "open": return x.open(a[0], a[1], a[2]);
            case "correct": return x.correct(a[0], a[1], a[2], a[3]);
            case "row": return x.row(a[0], a[1]);
            case "about": return x.about(a[0], a[1]);
            case "pack": return x.pack(a[0]);
            case "octet": return x.octet(a[0]);
            default: return x.aside(a[0]);
        }
    }

    /** The document once more, by texts and maps. */
    private static final class Model {
        private static final int[] GRAMS = {50, 500, 2000, 31500};
        private static final String ENDS = "59";
        /** For each event the states that it may be in, and where it leads ('=' stays). */
        private static final String[] MOVES = {
            "0>1", "13>2 7>7", "2>3", "36>4", "47>5", "4>6", "46>7", "0123 4678>=", "", "67>8", "0123 4678>9",
        };
        private static final String[] FACTS = {
            "state", "kind", "weight", "size", "services", "read", "settled", "land", "consignment", "bulk", "late",
            "damaged", "sender", "openers",
        };
        private static final String[] CORRECTED = {"kind", "weight", "size", "read", "settled"};

        private final TreeMap<Integer, Map<String, Integer>> items = new TreeMap<>();
        private final Map<Integer, List<int[]>> contents = new HashMap<>();
        private final Map<Integer, Boolean> waits = new HashMap<>();
        private final List<int[]> rows = new ArrayList<>();
        private List<Integer> bytes = new ArrayList<>();

        int ask(String name, int[] a) {
            switch (name) {
                case "item": return newItem(a);
                case "row": return a[0] >= 0 && a[0] < rows.size() && a[1] >= 0 && a[1] < 5 ? rows.get(a[0])[a[1]] : -1;
                case "octet": return a[0] >= 0 && a[0] < bytes.size() ? bytes.get(a[0]) : -1;
                case "aside": return setAside(a[0]);
                default: break;
            }
            Map<String, Integer> it = items.get(a[0]);
            if (it == null) {
                return -101;
            }
            if (!name.equals("correct") && !name.equals("join")) {
                int[] range = range(name);
                for (int k = 1; k < a.length; k++) {
                    if (a[k] < range[2 * k] || a[k] > range[2 * k + 1]) {
                        return -102;
                    }
                }
            }
            switch (name) {
                case "service": return moreService(it, a[1]);
                case "event": return happens(a[0], it, a[1]);
                case "address": return toAddress(it, a[1] == 0 ? "read" : "settled", a[2]);
                case "abroad": return set(it, "land", a[1], it.get("land") != 0 || it.get("state") > 1, 1);
                case "contents": return moreContents(a, it);
                case "join": return joins(it, a[1], a[2] == 1);
                case "bulk": return set(it, "bulk", a[1], it.get("bulk") != 0, 1 + count("bulk", a[1]));
                case "open": return opens(it, a[1], a[2]);
                case "correct": return corrected(a, it);
                case "about": return it.get(FACTS[a[1]]);
                default: return packs(a[0], it);
            }
        }

        private static int[] range(String name) {
            for (int k = 0; k < NAMES.length; k++) {
                if (NAMES[k].equals(name)) {
                    return RANGES[k];
                }
            }
            throw new IllegalStateException(name);
        }

        private static boolean ended(Map<String, Integer> it) {
            return ENDS.indexOf('0' + it.get("state")) >= 0;
        }

        private int count(String key, int value) {
            return (int) items.values().stream().filter(each -> each.get(key) == value).count();
        }

        private static int set(Map<String, Integer> it, String key, int value, boolean refused, int answer) {
            if (refused) {
                return -103;
            }
            it.put(key, value);
            return answer;
        }

        private static int kindFor(int least, int weight, int size) {
            int kind = least;
            while (weight > GRAMS[kind] || size > kind) {
                kind++;
            }
            return kind;
        }

        private int newItem(int[] a) {
            for (int k = 0; k < 4; k++) {
                if (a[k] < RANGES[0][2 * k] || a[k] > RANGES[0][2 * k + 1]) {
                    return -102;
                }
            }
            if (items.size() == 120) {
                return -104;
            }
            if (a[1] > 31500) {
                return -109;
            }
            if (a[2] > 3) {
                return -110;
            }
            Map<String, Integer> it = new HashMap<>();
            for (String fact : FACTS) {
                it.put(fact, fact.equals("read") || fact.equals("settled") || fact.equals("openers") ? -1 : 0);
            }
            it.put("kind", kindFor(a[0], a[1], a[2]));
            it.put("weight", a[1]);
            it.put("size", a[2]);
            it.put("sender", a[3]);
            items.put(items.size() + 1, it);
            contents.put(items.size(), new ArrayList<>());
            return items.size();
        }

        private static int moreService(Map<String, Integer> it, int s) {
            TreeSet<Integer> has = new TreeSet<>();
            for (int k = 0; k < 6; k++) {
                if ((it.get("services") & 1 << k) != 0) {
                    has.add(k);
                }
            }
            if (has.contains(s) || ended(it)) {
                return -103;
            }
            for (int other : has) {
                String pair = "" + Math.min(s, other) + Math.max(s, other);
                if (List.of("23", "12", "45", "35").contains(pair)) {
                    return -200 - other;
                }
            }
            boolean wanted = List.of(1, 3, 4).contains(s) && !has.contains(0)
                    || s == 5 && !List.of(2, 3).contains(it.get("kind")) || s == 4 && it.get("kind") == 0;
            if (wanted) {
                return -111;
            }
            it.put("services", it.get("services") + (1 << s));
            return has.size() + 1;
        }

        private int happens(int number, Map<String, Integer> it, int event) {
            if (ended(it)) {
                it.merge("late", 1, Integer::sum);
                return -105;
            }
            int state = it.get("state");
            boolean damaged = it.get("damaged") == 1;
            int next = -1;
            for (String move : MOVES[event].replace("0123 4678", "01234678").split(" ")) {
                if (!move.isEmpty() && move.substring(0, move.indexOf('>')).indexOf('0' + state) >= 0) {
                    char to = move.charAt(move.length() - 1);
                    next = to == '=' ? state : to - '0';
                }
            }
            if (event == 8) {
                next = damaged ? state : -1;
            } else if (damaged && event != 10) {
                next = -1;
            }
            if (next < 0) {
                return -103;
            }
            if (event == 2 && it.get("land") > 0 && contents.get(number).isEmpty()) {
                return -106;
            }
            int consignment = it.get("consignment");
            if (event == 4 && state != 7 && consignment > 0 && waits.get(consignment)) {
                for (Map<String, Integer> each : items.values()) {
                    if (each.get("consignment") == consignment && "459".indexOf('0' + each.get("state")) < 0) {
                        return -107;
                    }
                }
            }
            it.put("state", next);
            it.put("damaged", event == 7 ? 1 : event == 8 ? 0 : it.get("damaged"));
            return next;
        }

        private static int toAddress(Map<String, Integer> it, String which, int entry) {
            if (ended(it) || it.get("settled") >= 0) {
                return -103;
            }
            return it.put(which, entry);
        }

        private int moreContents(int[] a, Map<String, Integer> it) {
            if (it.get("land") == 0 || ended(it)) {
                return -103;
            }
            List<int[]> has = contents.get(a[0]);
            if (has.size() == 4) {
                return -104;
            }
            has.add(new int[] {a[1], a[2]});
            return has.size();
        }

        private int joins(Map<String, Integer> it, int consignment, boolean all) {
            if (consignment < 1 || consignment > 30) {
                return -102;
            }
            if (it.get("consignment") != 0 || ended(it)) {
                return -103;
            }
            waits.putIfAbsent(consignment, all);
            it.put("consignment", consignment);
            return count("consignment", consignment);
        }

        private static int opens(Map<String, Integer> it, int a, int b) {
            if (it.get("state") != 8 || it.get("damaged") == 1) {
                return -103;
            }
            if (a == b) {
                return -108;
            }
            it.put("state", 1);
            it.put("settled", -1);
            it.put("openers", a * 100 + b);
            return 1;
        }

        private int corrected(int[] a, Map<String, Integer> it) {
            int[] least = {0, 1, 0, 0, 0};
            int[] most = {3, 100000, 9, 9999, 9999};
            if (a[1] < 0 || a[1] > 4 || a[2] < least[a[1]] || a[2] > most[a[1]] || a[3] < 1 || a[3] > 9) {
                return -102;
            }
            String what = CORRECTED[a[1]];
            int was = it.get(what);
            int is = a[1] == 0 ? kindFor(a[2], it.get("weight"), it.get("size")) : a[2];
            if (was == is) {
                return -103;
            }
            if (rows.size() == 200) {
                return -104;
            }
            if (a[1] == 1 && is > 31500) {
                return -109;
            }
            if (a[1] == 2 && is > 3) {
                return -110;
            }
            rows.add(new int[] {a[0], a[1], was, a[2], a[3]});
            it.put(what, is);
            it.put("kind", kindFor(it.get("kind"), it.get("weight"), it.get("size")));
            return rows.size();
        }

        private int packs(int number, Map<String, Integer> it) {
            StringBuilder hex = new StringBuilder();
            hex.append(String.format("%04x%x%x%04x", number, it.get("size"), it.get("kind"), it.get("weight")));
            hex.append(String.format("%02x%02x", it.get("services"), it.get("state") + 128 * it.get("damaged")));
            hex.append(String.format("%04x%04x", it.get("read") & 0xffff, it.get("settled") & 0xffff));
            hex.append(String.format("%02x%02x", it.get("land"), contents.get(number).size()));
            for (int[] each : contents.get(number)) {
                hex.append(String.format("%02x%06x", each[0], each[1]));
            }
            bytes = new ArrayList<>();
            int xor = 0;
            for (int k = 0; k < hex.length(); k += 2) {
                int octet = Integer.parseInt(hex.substring(k, k + 2), 16);
                bytes.add(octet);
                xor ^= octet;
            }
            bytes.add(xor);
            return bytes.size();
        }

        private int setAside(int i) {
            List<Integer> aside = new ArrayList<>();
            for (Map.Entry<Integer, Map<String, Integer>> each : items.entrySet()) {
                if (each.getValue().get("damaged") == 1 || each.getValue().get("state") == 8) {
                    aside.add(each.getKey());
                }
            }
            return i >= 0 && i < aside.size() ? aside.get(i) : -1;
        }
    }
}
