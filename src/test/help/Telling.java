import java.util.Arrays;

/** Pieces of runs, as text: how an item comes into a state, many items, a call for each of some numbers. */
class Telling {
    static final String[] STATES = {
        "TOLD", "IN", "SORTED", "ON_ITS_WAY", "OUT", "DELIVERED", "HELD", "GOING_BACK", "DEAD", "LOST",
    };
    static final String[] EVENTS = {
        "taken", "sorted", "sent", "office", "delivered", "unmet", "back", "damaged", "resealed", "dead", "lost",
    };
    /** How a new item comes into each state: events and what each leads to. */
    static final String[] WAYS = {
        "", "taken IN", "taken IN sorted SORTED", "taken IN sorted SORTED sent ON_ITS_WAY",
        "taken IN sorted SORTED sent ON_ITS_WAY office OUT",
        "taken IN sorted SORTED sent ON_ITS_WAY office OUT delivered DELIVERED",
        "taken IN sorted SORTED sent ON_ITS_WAY office OUT unmet HELD",
        "taken IN sorted SORTED sent ON_ITS_WAY office OUT back GOING_BACK",
        "taken IN sorted SORTED sent ON_ITS_WAY office OUT unmet HELD dead DEAD", "lost LOST",
    };
    /** One item that bears all services; too light and small to be TURNED. */
    static final String ONE = "item(PACKET, 100, 0, 7) = 1;";
    static final String LETTER = "item(LETTER, 1, 0, 0) = 1;";

    static boolean isEnd(String state) {
        return state.equals("DELIVERED") || state.equals("LOST");
    }

    /** The events that lead a new item into the state. */
    static String way(int item, String state) {
        String[] words = WAYS[Arrays.asList(STATES).indexOf(state)].split(" ");
        StringBuilder text = new StringBuilder();
        for (int k = 0; k + 1 < words.length; k += 2) {
            text.append("event(" + item + ", " + words[k] + ") = " + words[k + 1] + ";");
        }
        return text.toString();
    }

    static String in(String state) {
        return ONE + way(1, state);
    }

    static String letters(int from, int to) {
        return each(from, to, "item(LETTER, 1, 0, 0) = $;");
    }

    /** The call once for each number, in place of $. */
    static String each(int from, int to, String call) {
        StringBuilder text = new StringBuilder();
        for (int k = from; k <= to; k++) {
            text.append(call.replace("$", Integer.toString(k)));
        }
        return text.toString();
    }

    /** Item 1 is OUT, item 2 in the state; both are in consignment 5, and the first that joined says how. */
    static String two(boolean waits, String second) {
        return in("OUT") + "item(LETTER, 1, 0, 0) = 2; join(1, 5, " + waits + ") = 1; join(2, 5, " + !waits + ") = 2;"
            + way(2, second.equals("DELIVERED") ? "GOING_BACK" : second)
            + (second.equals("DELIVERED") ? "event(2, delivered) = DELIVERED;" : "");
    }
}
