import java.io.IOException;
import java.nio.file.Path;

/** The document, sentence by sentence: each that names a boundary case has runs of its own (Runs says how they go). */
public final class BoundariesTest extends Telling {
    private static final String DOCUMENT = "../shared/DOC.md";

    private static Runs runs;

    public static void main(String[] args) throws IOException {
        runs = new Runs(Path.of(DOCUMENT));
        whatItIs();
        items();
        kinds();
        services();
        states();
        damaged();
        late();
        abroad();
        consignments();
        bulk();
        opened();
        corrections();
        correctionsTurn();
        rows();
        setAside();
        packed();
        addresses();
        about();
        newObject();
        lastCall();
        laterCalls();
        refusals();
        runs.allQuoted("## What it is", "## Not promised");
        if (!runs.wentWell()) {
            System.exit(1);
        }
    }

    /** One life through all that the first sentence names, in its order. */
    private static void whatItIs() {
        runs.hold("What is known of a post's items: kinds by weight and size, services that go together or not, a state "
            + "that events move, addresses as read and as settled, contents for abroad, consignments that wait for all "
            + "of theirs, bulk, damage, dead letters that two open, corrections that lose nothing, rows of bytes.",
            "item(LETTER, 51, 0, 3) = 1; about(1, kind) = LARGE; item(LARGE, 500, 2, 4) = 2; about(2, kind) = PACKET;"
                + "service(1, 0) = 1; service(1, 1) = 2; service(1, 2) = EXCLUDED-1;"
                + "event(1, taken) = IN; about(1, state) = IN;"
                + "address(1, 0, 5) = NONE; address(1, 1, 6) = NONE; about(1, read) = 5; about(1, settled) = 6;"
                + "abroad(1, 7) = 1; contents(1, 8, 70000) = 1;"
                + "join(1, 9, true) = 1; join(2, 9, false) = 2; event(1, sorted) = SORTED; event(1, sent) = ON_ITS_WAY;"
                + "event(1, office) = OUT; event(1, delivered) = WAITS;"
                + "bulk(1, 10) = 1; about(1, bulk) = 10;"
                + "event(1, damaged) = OUT; aside(0) = 1; event(1, resealed) = OUT; aside(0) = NONE;"
                + "event(1, unmet) = HELD; event(1, dead) = DEAD; open(1, 11, 11) = ALONE; open(1, 11, 12) = 1;"
                + "about(1, openers) = 1112; about(1, settled) = NONE;"
                + "correct(1, 1, 52, 1) = 1; correct(1, 1, 53, 2) = 2; row(0, 2) = 51; row(0, 3) = 52; row(1, 2) = 52;"
                + "row(1, 3) = 53; about(1, weight) = 53;"
                + bytes(1, 0, 1, 1, 0, 53, 3, 1, 0, 5, 255, 255, 7, 1, 8, 1, 17, 112));
    }

    private static void items() {
        String sentence = "ITEMS are numbered 1, 2, .. (120 at most)";
        runs.hold(sentence,
            "about(1, state) = UNKNOWN; item(LETTER, 1, 0, 0) = 1; about(0, state) = UNKNOWN; about(1, state) = TOLD;"
                + "about(2, state) = UNKNOWN; item(LETTER, 1, 0, 0) = 2; about(2, state) = TOLD",
            letters(1, 119) + "about(120, state) = UNKNOWN; item(PARCEL, 31500, 3, 99) = 120; about(120, sender) = 99",
            letters(1, 120) + "item(LETTER, 1, 0, 0) = ROOM; about(121, state) = UNKNOWN; about(120, state) = TOLD;"
                + "about(1, state) = TOLD; item(PARCEL, 31500, 3, 99) = ROOM");
        runs.hold("An item: its number.",
            "item(LETTER, 1, 0, 0) = 1; item(LETTER, 1, 0, 0) = 2; item(PARCEL, 1, 0, 0) = 3",
            // What is refused takes no number, and items at an end keep theirs.
            "item(LETTER, 0, 0, 0) = OUTSIDE; item(LETTER, 31501, 0, 0) = HEAVY; item(LETTER, 1, 4, 0) = BULKY;"
                + "item(LETTER, 1, 0, 0) = 1; item(4, 1, 0, 0) = OUTSIDE; event(1, lost) = LOST;"
                + "item(LETTER, 1, 0, 0) = 2");
        runs.hold("ROOM, HEAVY, BULKY.",
            letters(1, 120) + "item(LETTER, 1, 0, 0) = ROOM; item(LETTER, 1, 0, 0) = ROOM",
            letters(1, 120) + way(1, "DELIVERED") + "event(2, lost) = LOST; item(LETTER, 1, 0, 0) = ROOM");
        runs.hold(": a KIND, a WEIGHT in grams, a SIZE, a",
            "item(PACKET, 1999, 1, 98) = 1; about(1, kind) = PACKET; about(1, weight) = 1999; about(1, size) = 1;"
                + "about(1, sender) = 98; about(1, state) = TOLD");
        String outside = "OUTSIDE (kind, weight 1 .. 100000, size 0 .. 9, sender)";
        runs.edges("sender 0 .. 99.", "", "item(LETTER, 1, 0, $)", 0, 99, "1");
        runs.hold("sender 0 .. 99.", "item(LETTER, 1, 0, 0) = 1; item(LETTER, 1, 0, 99) = 2; about(1, sender) = 0;"
            + "about(2, sender) = 99");
        runs.edges(outside, "", "item($, 1, 0, 0)", 0, 3, "1");
        // A weight or size that may be told is HEAVY or BULKY at worst.
        runs.edges(outside, "", "item(LETTER, $, 0, 0)", 1, 100000, "1", "HEAVY");
        runs.edges(outside, "", "item(PARCEL, $, 0, 0)", 1, 100000, "1", "HEAVY");
        runs.edges(outside, "", "item(LETTER, 1, $, 0)", 0, 9, "1", "BULKY");
        runs.edges(outside, "", "item(PARCEL, 1, $, 0)", 0, 9, "1", "BULKY");
    }

    /** An item that is told so, and the kind that it is then. */
    private static String told(String kind, int weight, int size, String then) {
        return "item(" + kind + ", " + weight + ", " + size + ", 0) = 1; about(1, kind) = " + then
            + "; about(1, weight) = " + weight + "; about(1, size) = " + size;
    }

    private static void kinds() {
        runs.hold("KINDS with their most weight and size: 0 LETTER 50, 0;",
            told("0", 1, 0, "0"), told("0", 50, 0, "0"), told("0", 51, 0, "1"), told("0", 50, 1, "1"));
        runs.hold("1 LARGE 500, 1;",
            told("1", 1, 0, "1"), told("1", 500, 1, "1"), told("1", 501, 1, "2"), told("1", 500, 2, "2"));
        runs.hold("2 PACKET 2000, 2;",
            told("2", 1, 0, "2"), told("2", 2000, 2, "2"), told("2", 2001, 2, "3"), told("2", 2000, 3, "3"));
        runs.hold("3 PARCEL 31500, 3.",
            told("3", 1, 0, "3"), told("3", 31500, 3, "3"), "item(3, 31501, 3, 0) = HEAVY",
            "item(3, 31500, 4, 0) = BULKY");
        runs.hold("An item that has more than its kind may is TURNED into the least kind above that bears it;",
            told("0", 500, 0, "1"), told("0", 501, 0, "2"), told("0", 2000, 0, "2"), told("0", 2001, 0, "3"),
            told("0", 31500, 0, "3"), told("0", 1, 1, "1"), told("0", 1, 2, "2"), told("0", 1, 3, "3"),
            told("0", 500, 2, "2"), told("0", 501, 1, "2"), told("0", 2000, 3, "3"), told("0", 2001, 2, "3"),
            told("0", 31500, 3, "3"), told("1", 2000, 1, "2"), told("1", 2001, 1, "3"), told("1", 1, 3, "3"),
            told("1", 31500, 0, "3"), told("2", 31500, 2, "3"),
            // None is turned that has no more than its kind may, though a kind below would bear it.
            told("1", 50, 0, "1"), told("2", 500, 1, "2"), told("3", 2000, 2, "3"));
        for (String kind : new String[] {"LETTER", "LARGE", "PACKET", "PARCEL"}) {
            runs.hold("above all of them it is refused (HEAVY, or else BULKY).",
                "item(" + kind + ", 31501, 0, 0) = HEAVY; about(1, state) = UNKNOWN",
                "item(" + kind + ", 100000, 3, 0) = HEAVY; about(1, state) = UNKNOWN",
                "item(" + kind + ", 1, 4, 0) = BULKY; about(1, state) = UNKNOWN",
                "item(" + kind + ", 31500, 9, 0) = BULKY; about(1, state) = UNKNOWN",
                "item(" + kind + ", 31501, 4, 0) = HEAVY; about(1, state) = UNKNOWN");
        }
    }

    private static void services() {
        runs.edges("SERVICES: 0 registered, 1 return slip, 2 by day, 3 by hand, 4 insured, 5 cold.",
            "item(PARCEL, 1, 0, 0) = 1;", "service(1, $)", 0, 5, "1");
        String excluded = "EXCLUDED are 2 with 3, 1 with 2, 4 with 5, and 5 with 3 (either way).";
        String registered = ONE + "service(1, 0) = 1;";
        for (int had = 1; had <= 5; had++) {
            for (int more = 1; more <= 5; more++) {
                boolean bars = "2-3 3-2 1-2 2-1 4-5 5-4 5-3 3-5".contains(had + "-" + more);
                String then = had == more ? "STATE" : bars ? "EXCLUDED-" + had : "3";
                int bits = 1 | 1 << had | (bars ? 0 : 1 << more);
                runs.hold(excluded, registered + "service(1, " + had + ") = 2; service(1, " + more + ") = " + then
                    + "; about(1, services) = " + bits);
            }
            boolean wants = had == 1 || had == 3 || had == 4;
            if (!wants) {
                runs.hold(excluded, ONE + "service(1, " + had + ") = 1; service(1, 0) = 2");
            }
        }
        runs.hold("A service more: how many it has.",
            ONE + "about(1, services) = 0; service(1, 0) = 1; service(1, 1) = 2; service(1, 3) = 3; service(1, 4) = 4;"
                + "about(1, services) = 27",
            ONE + "service(1, 2) = 1; service(1, 5) = 2; service(1, 0) = 3; about(1, services) = 37",
            // What is refused is not one of those that it has, and bars none.
            ONE + "service(1, 3) = WANTED; service(1, 2) = 1; service(1, 3) = EXCLUDED-2; service(1, 5) = 2",
            ONE + "item(PACKET, 1, 0, 0) = 2; service(1, 2) = 1; service(2, 0) = 1; service(2, 3) = 2");
        runs.hold("EXCLUDED less the least one that it has and that excludes it,",
            registered + "service(1, 1) = 2; service(1, 3) = 3; service(1, 2) = EXCLUDED-1",
            registered + "service(1, 3) = 2; service(1, 1) = 3; service(1, 2) = EXCLUDED-1",
            registered + "service(1, 3) = 2; service(1, 2) = EXCLUDED-3",
            registered + "service(1, 4) = 2; service(1, 3) = 3; service(1, 5) = EXCLUDED-3",
            registered + "service(1, 1) = 2; service(1, 4) = 3; service(1, 5) = EXCLUDED-4",
            registered + "service(1, 5) = 2; service(1, 2) = 3; service(1, 3) = EXCLUDED-2",
            registered + "service(1, 5) = 2; service(1, 1) = 3; service(1, 3) = EXCLUDED-5");
        runs.hold("The constants: `EXCLUDED = -200`, `NONE = -1`: Less a service that excludes.",
            registered + "service(1, 1) = 2; service(1, 2) = -201", ONE + "service(1, 2) = 1; service(1, 3) = -202",
            registered + "service(1, 3) = 2; service(1, 5) = -203", registered + "service(1, 4) = 2;"
                + "service(1, 5) = -204",
            ONE + "service(1, 5) = 1; service(1, 4) = -205", ONE + "about(1, read) = -1");
        wanted();
        for (String state : STATES) {
            runs.hold("STATE (it has it, or is at an end), EXCLUDED", isEnd(state)
                ? ONE + "service(1, 2) = 1;" + way(1, state) + "service(1, 0) = STATE; about(1, services) = 4"
                : ONE + "service(1, 2) = 1;" + way(1, state) + "service(1, 2) = STATE; service(1, 0) = 2;"
                    + "service(1, 0) = STATE; about(1, services) = 5");
        }
        runs.hold("STATE (it has it, or is at an end), EXCLUDED",
            in("IN") + "event(1, damaged) = IN; service(1, 0) = 1; service(1, 0) = STATE");
    }

    private static void wanted() {
        String registered = "WANTED: for 1, 3 and 4 that it is registered already;";
        for (int s : new int[] {1, 3, 4}) {
            String call = "service(1, " + s + ")";
            runs.hold(registered, ONE + call + " = WANTED; about(1, services) = 0; service(1, 0) = 1;" + call + " = 2");
            runs.hold(registered, "item(PARCEL, 1, 0, 0) = 1; item(PARCEL, 1, 0, 0) = 2; service(2, 0) = 1;" + call
                + " = WANTED");
        }
        runs.hold(registered, ONE + "service(1, 2) = 1", ONE + "service(1, 5) = 1", ONE + "service(1, 0) = 1");
        String cold = "for 5 that the kind is 2 or 3;";
        String insured = "for 4 that it is no LETTER.";
        String[] kinds = {"LETTER", "LARGE", "PACKET", "PARCEL"};
        for (int kind = 0; kind < kinds.length; kind++) {
            String item = "item(" + kinds[kind] + ", 1, 0, 0) = 1;";
            runs.hold(cold, item + "service(1, 5) = " + (kind < 2 ? "WANTED" : "1"),
                item + "service(1, 0) = 1; service(1, 5) = " + (kind < 2 ? "WANTED" : "2"));
            runs.hold(insured, item + "service(1, 0) = 1; service(1, 4) = " + (kind == 0 ? "WANTED" : "2"));
        }
        // The kind is the one that it was TURNED into or corrected to.
        runs.hold(cold, "item(LETTER, 501, 0, 0) = 1; service(1, 5) = 1", "item(LARGE, 500, 0, 0) = 1;"
            + "service(1, 5) = WANTED; correct(1, 0, PACKET, 1) = 1; service(1, 5) = 1",
            ONE + "correct(1, 0, LARGE, 1) = 1; service(1, 5) = WANTED");
        runs.hold(insured, "item(LETTER, 51, 0, 0) = 1; service(1, 0) = 1; service(1, 4) = 2",
            LETTER + "service(1, 0) = 1; service(1, 4) = WANTED; correct(1, 2, 1, 1) = 1; service(1, 4) = 2");
        runs.hold(", WANTED.", ONE + "service(1, 1) = WANTED; service(1, 1) = WANTED; about(1, services) = 0");
    }

    /** The event in each state that is no end: where it leads from those that are named, and STATE from all others. */
    private static void moves(String sentence, String event, String... pairs) {
        for (String state : STATES) {
            if (isEnd(state)) {
                continue;
            }
            String then = "STATE";
            for (String pair : pairs) {
                String[] fromTo = pair.split(">");
                if (fromTo[0].equals(state) || fromTo[0].equals("any")) {
                    then = fromTo[1].equals("same") ? state : fromTo[1];
                }
            }
            String after = then.equals("STATE") ? state : then;
            runs.hold(sentence, in(state) + "event(1, " + event + ") = " + then + "; about(1, state) = " + after
                + "; about(1, late) = 0");
        }
    }

    private static void states() {
        runs.hold("STATES: 0 TOLD, 1 IN, 2 SORTED, 3 ON ITS WAY, 4 OUT, 5 DELIVERED, 6 HELD, 7 GOING BACK, 8 DEAD, "
            + "9 LOST.",
            ONE + "about(1, state) = 0; event(1, 0) = 1; event(1, 1) = 2; event(1, 2) = 3; event(1, 3) = 4;"
                + "event(1, 5) = 6; event(1, 3) = 4; event(1, 6) = 7; event(1, 9) = 8; event(1, 10) = 9",
            in("OUT") + "event(1, 4) = 5; about(1, state) = 5");
        moves("EVENTS and what they lead to: 0 taken in: TOLD to IN.", "taken", "TOLD>IN");
        moves("1 sorted: IN, ON ITS WAY to SORTED; GOING BACK stays so.", "sorted", "IN>SORTED", "ON_ITS_WAY>SORTED",
            "GOING_BACK>GOING_BACK");
        moves("2 sent on: SORTED to ON ITS WAY.", "sent", "SORTED>ON_ITS_WAY");
        moves("3 at the office: ON ITS WAY, HELD to OUT.", "office", "ON_ITS_WAY>OUT", "HELD>OUT");
        moves("4 delivered: OUT, GOING BACK to DELIVERED.", "delivered", "OUT>DELIVERED", "GOING_BACK>DELIVERED");
        moves("5 not met: OUT to HELD.", "unmet", "OUT>HELD");
        moves("6 sent back: OUT, HELD to GOING BACK.", "back", "OUT>GOING_BACK", "HELD>GOING_BACK");
        moves("7 damaged: any state but an end stays, the item is DAMAGED.", "damaged", "any>same");
        moves("8 resealed: a damaged one in such a state is so no more (of another one it is STATE).", "resealed");
        moves("9 dead: GOING BACK, HELD to DEAD.", "dead", "GOING_BACK>DEAD", "HELD>DEAD");
        moves("10 lost: any but an end to LOST.", "lost", "any>LOST");
        runs.hold("(Others are STATE.)",
            ONE + "event(1, sorted) = STATE; event(1, sent) = STATE; event(1, dead) = STATE; about(1, late) = 0",
            in("SORTED") + "event(1, sorted) = STATE; event(1, taken) = STATE; event(1, office) = STATE");
        for (String end : new String[] {"DELIVERED", "LOST"}) {
            for (String event : EVENTS) {
                runs.hold("Ends are DELIVERED and LOST.", in(end) + "event(1, " + event + ") = LATE; about(1, state) = "
                    + end + "; about(1, harm) = 0");
            }
        }
        runs.hold("An event: the state then.",
            ONE + "item(LETTER, 1, 0, 0) = 2; event(2, taken) = IN; about(1, state) = TOLD; about(2, state) = IN",
            // Round and round: neither a way nor a stop in between is told to end.
            in("SORTED") + each(1, 60, "event(1, sent) = ON_ITS_WAY; event(1, sorted) = SORTED; about(1, late) = 0;"),
            in("OUT") + each(1, 60, "event(1, unmet) = HELD; event(1, office) = OUT;") + "event(1, delivered) = "
                + "DELIVERED",
            in("GOING_BACK") + each(1, 60, "event(1, sorted) = GOING_BACK;") + "event(1, dead) = DEAD");
        runs.edges("OUTSIDE (0 .. 10)", ONE, "event(1, $)", 0, 10, "IN", "LOST");
    }

    private static void damaged() {
        String reseal = "8 resealed: a damaged one in such a state is so no more (of another one it is STATE).";
        for (String state : STATES) {
            if (isEnd(state)) {
                continue;
            }
            String harmed = in(state) + "event(1, damaged) = " + state + "; about(1, harm) = 1;";
            runs.hold("7 damaged: any state but an end stays, the item is DAMAGED.",
                in(state) + "about(1, harm) = 0; event(1, damaged) = " + state + "; about(1, harm) = 1;"
                    + "about(1, state) = "
                    + state);
            runs.hold(reseal,
                harmed + "event(1, resealed) = " + state + "; about(1, harm) = 0; about(1, state) = " + state,
                harmed + "event(1, resealed) = " + state + "; event(1, resealed) = STATE; about(1, harm) = 0",
                harmed + "event(1, resealed) = " + state + "; event(1, damaged) = " + state + "; about(1, harm) = 1");
            for (String event : EVENTS) {
                boolean takes = event.equals("resealed") || event.equals("lost");
                String then = event.equals("lost") ? "LOST" : state;
                runs.hold("A damaged item takes 8 and 10 alone.", harmed + "event(1, " + event + ") = "
                    + (takes ? then : "STATE") + "; about(1, state) = " + then + "; about(1, harm) = "
                    + (event.equals("resealed") ? "0" : "1") + "; about(1, late) = 0");
            }
        }
        runs.hold(reseal, in("OUT") + "event(1, damaged) = OUT; event(1, delivered) = STATE; event(1, resealed) = OUT;"
            + "event(1, delivered) = DELIVERED");
    }

    private static void late() {
        String sentence = "An event behind an end is LATE, whatever it is (of a damaged item, too; STATE is not looked"
            + " at then): it is counted, the state stays.";
        String harmed = in("SORTED") + "event(1, damaged) = SORTED; event(1, lost) = LOST;";
        for (int event = 0; event <= 10; event++) {
            String call = "event(1, " + event + ") = LATE;";
            runs.hold(sentence,
                in("DELIVERED") + "about(1, late) = 0;" + call + "about(1, late) = 1; about(1, state) = DELIVERED;"
                    + call + "about(1, late) = 2",
                in("LOST") + call + "about(1, late) = 1; about(1, state) = LOST; about(1, harm) = 0",
                harmed + call + "about(1, late) = 1; about(1, state) = LOST; about(1, harm) = 1");
        }
        runs.hold(sentence,
            in("LOST") + each(0, 10, "event(1, $) = LATE;") + "about(1, late) = 11",
            in("LOST") + each(1, 509, "event(1, lost) = LATE;") + "about(1, late) = 509",
            in("LOST") + "item(LETTER, 1, 0, 0) = 2; event(1, taken) = LATE; about(2, late) = 0; about(1, late) = 1",
            // Refusals of other kinds, and STATE before an end, are not counted.
            in("LOST") + "event(1, 11) = OUTSIDE; event(1, -1) = OUTSIDE; service(1, 0) = STATE; about(1, late) = 0",
            in("IN") + "event(1, taken) = STATE; about(1, late) = 0; event(1, lost) = LOST; about(1, late) = 0");
        runs.hold("UNKNOWN, OUTSIDE (0 .. 10), STATE, LATE, LACKS (contents), WAITS.",
            in("LOST") + "event(1, resealed) = LATE; event(1, 10) = LATE; event(1, 11) = OUTSIDE;"
                + "event(2, 11) = UNKNOWN");
    }

    private static void abroad() {
        runs.edges("ABROAD: an item may go to a land 1 .. 30;", ONE, "abroad(1, $)", 1, 30, "1");
        runs.hold("An item goes abroad: 1.", ONE + "about(1, land) = 0; abroad(1, 30) = 1; about(1, land) = 30",
            ONE + "item(LETTER, 1, 0, 0) = 2; abroad(2, 1) = 1; about(1, land) = 0; about(2, land) = 1;"
                + "abroad(1, 1) = 1");
        for (String state : STATES) {
            boolean may = state.equals("TOLD") || state.equals("IN");
            runs.hold("STATE (it does already, or is neither TOLD nor IN).",
                in(state) + "abroad(1, 2) = " + (may ? "1" : "STATE") + "; about(1, land) = " + (may ? "2" : "0")
                    + "; abroad(1, 3) = STATE; about(1, land) = " + (may ? "2" : "0"));
        }
        runs.hold("STATE (it does already, or is neither TOLD nor IN).",
            ONE + "abroad(1, 2) = 1; abroad(1, 2) = STATE; abroad(1, 3) = STATE; about(1, land) = 2",
            ONE + "event(1, damaged) = TOLD; abroad(1, 2) = 1; abroad(1, 2) = STATE",
            // IN again behind an opening.
            in("DEAD") + "abroad(1, 2) = STATE; open(1, 0, 1) = 1; abroad(1, 2) = 1; abroad(1, 2) = STATE");
        String lacks = "then it is sent on only when it has a row of CONTENTS";
        String sorted = ONE + "abroad(1, 1) = 1;" + way(1, "SORTED");
        runs.hold(lacks,
            sorted + "event(1, sent) = LACKS; about(1, state) = SORTED; event(1, sent) = LACKS; about(1, late) = 0",
            sorted + "contents(1, 0, 0) = 1; event(1, sent) = ON_ITS_WAY",
            sorted + "contents(1, 100, 0) = OUTSIDE; event(1, sent) = LACKS; contents(1, 99, 0) = 1;"
                + "event(1, sent) = ON_ITS_WAY; event(1, sorted) = SORTED; event(1, sent) = ON_ITS_WAY",
            in("SORTED") + "event(1, sent) = ON_ITS_WAY",
            // Another's contents are not its own.
            sorted + "item(LETTER, 1, 0, 0) = 2; abroad(2, 1) = 1; contents(2, 0, 0) = 1; event(1, sent) = LACKS");
        runs.hold("LACKS (contents)", sorted + "event(1, sent) = LACKS; event(1, lost) = LOST",
            // No other event asks for contents.
            sorted + "event(1, damaged) = SORTED; event(1, resealed) = SORTED; event(1, lost) = LOST",
            in("DEAD") + "open(1, 0, 1) = 1; abroad(1, 1) = 1; event(1, sorted) = SORTED; event(1, sent) = LACKS");
        contents();
    }

    private static void contents() {
        String going = ONE + "abroad(1, 1) = 1;";
        String limits = "(what 0 .. 99, cents 0 .. 100000; 4 rows at most).";
        runs.edges(limits, going, "contents(1, $, 0)", 0, 99, "1");
        runs.edges(limits, going, "contents(1, 0, $)", 0, 100000, "1");
        String four = "contents(1, 1, 1) = 1; contents(1, 1, 1) = 2; contents(1, 99, 100000) = 3;"
            + "contents(1, 0, 0) = 4;";
        runs.hold(limits, going + four + "contents(1, 0, 0) = ROOM; pack(1) = 30; octet(12) = 4",
            going + four + "item(LETTER, 1, 0, 0) = 2; abroad(2, 30) = 1; contents(2, 5, 5) = 1;"
                + "contents(1, 5, 5) = ROOM");
        runs.hold("A row of CONTENTS: how many.", going + four + "about(1, state) = TOLD",
            going + "contents(1, 7, 8) = 1; contents(1, 100, 8) = OUTSIDE; contents(1, 7, 100001) = OUTSIDE;"
                + "contents(1, 7, 8) = 2");
        String state = "STATE (it does not go abroad, or is at an end), ROOM.";
        runs.hold(state, ONE + "contents(1, 0, 0) = STATE; abroad(1, 1) = 1; contents(1, 0, 0) = 1",
            ONE + "abroad(1, 0) = OUTSIDE; contents(1, 0, 0) = STATE",
            going + four + "contents(1, 0, 0) = ROOM; contents(1, 0, 0) = ROOM",
            going + "event(1, damaged) = TOLD; contents(1, 0, 0) = 1");
        for (String each : STATES) {
            runs.hold(state,
                going + "contents(1, 1, 1) = 1;" + way(1, each) + "contents(1, 2, 2) "
                    + "= " + (isEnd(each) ? "STATE" : "2"),
                in(each) + "contents(1, 2, 2) = STATE");
        }
    }

    private static void consignments() {
        runs.edges("CONSIGNMENTS 1 .. 30:", ONE, "join(1, $, true)", 1, 30, "1");
        runs.edges("CONSIGNMENTS 1 .. 30:", ONE, "join(1, $, false)", 1, 30, "1");
        String none = "then none of its items is delivered (but what goes back) while one of them is not OUT or at "
            + "an end.";
        for (String second : STATES) {
            boolean ready = second.equals("OUT") || isEnd(second);
            runs.hold(none, two(true, second) + "event(1, delivered) = " + (ready ? "DELIVERED" : "WAITS")
                + "; about(1, state) = " + (ready ? "DELIVERED" : "OUT") + "; about(1, late) = 0");
            runs.hold(none, two(false, second) + "event(1, delivered) = DELIVERED");
            // What goes back is delivered, whatever the other is.
            runs.hold(none, two(true, second) + "event(1, back) = GOING_BACK; event(1, delivered) = DELIVERED");
        }
        runs.hold(none,
            two(true, "ON_ITS_WAY") + "event(1, delivered) = WAITS; event(2, office) = OUT;"
                + "event(1, delivered) = DELIVERED; event(2, delivered) = DELIVERED",
            two(true, "OUT") + "event(2, unmet) = HELD; event(1, delivered) = WAITS; event(2, lost) = LOST;"
                + "event(1, delivered) = DELIVERED",
            two(true, "TOLD") + "event(1, unmet) = HELD; event(1, office) = OUT; event(1, delivered) = WAITS",
            // Only this consignment's, and only while they are in it.
            two(true, "OUT") + "item(LETTER, 1, 0, 0) = 3; item(LETTER, 1, 0, 0) = 4; join(4, 6, true) = 1;"
                + "event(1, delivered) = DELIVERED",
            two(true, "OUT") + "item(LETTER, 1, 0, 0) = 3; join(3, 5, false) = 3; event(1, delivered) = WAITS;"
                + "event(3, lost) = LOST; event(1, delivered) = DELIVERED",
            in("OUT") + "join(1, 30, true) = 1; event(1, delivered) = DELIVERED",
            in("OUT") + "item(LETTER, 1, 0, 0) = 2; event(1, delivered) = DELIVERED",
            two(true, "DEAD") + "event(1, delivered) = WAITS; open(2, 0, 1) = 1; event(1, delivered) = WAITS",
            two(true, "OUT") + "event(2, damaged) = OUT; event(1, delivered) = DELIVERED");
        // The object is full, and all are in one consignment: the first waits for the last.
        runs.hold(none,
            letters(1, 120) + each(1, 120, "join($, 30, true) = $;") + way(1, "OUT") + each(2, 119, "event($, lost) "
                + "= LOST;")
                + "event(1, delivered) = WAITS; event(120, lost) = LOST; event(1, delivered) = DELIVERED",
            letters(1, 120) + each(1, 120, "join($, 1, true) = $;") + way(120, "OUT")
                + each(2, 119, "event($, lost) = LOST;")
                + "event(120, delivered) = WAITS; event(1, lost) = LOST; event(120, delivered) = DELIVERED");
        joining();
    }

    private static void joining() {
        String first = "the first item that joins one says whether it WAITS for all:";
        runs.hold(first,
            two(true, "TOLD") + "event(1, delivered) = WAITS", two(false, "TOLD") + "event(1, delivered) = DELIVERED",
            // Each consignment has a first one of its own.
            two(false, "TOLD") + "item(LETTER, 1, 0, 0) = 3; item(LETTER, 1, 0, 0) = 4; join(3, 6, true) = 1;"
                + "join(4, 6, false) = 2;" + way(3, "OUT") + "event(3, delivered) = WAITS;"
                + "event(1, delivered) = DELIVERED",
            // One that is refused was not the first, even if it is the first that asked.
            in("OUT") + "item(LETTER, 1, 0, 0) = 2; item(LETTER, 1, 0, 0) = 3; event(3, lost) = LOST;"
                + "join(3, 5, true) = STATE; join(1, 5, false) = 1; join(2, 5, true) = 2;"
                + "event(1, delivered) = DELIVERED",
            in("OUT") + "item(LETTER, 1, 0, 0) = 2; item(LETTER, 1, 0, 0) = 3; join(3, 4, true) = 1;"
                + "join(3, 5, false) = STATE; join(1, 5, true) = 1; join(2, 5, false) = 2; event(1, delivered) = WAITS",
            // Behind an end it is the first one still.
            ONE + "join(1, 5, true) = 1; event(1, lost) = LOST; item(LETTER, 1, 0, 0) = 2; item(LETTER, 1, 0, 0) = 3;"
                + "join(2, 5, false) = 2; join(3, 5, false) = 3;" + way(2, "OUT") + "event(2, delivered) = WAITS");
        runs.hold("An item joins a consignment: how many are in it.",
            ONE + "about(1, consignment) = 0; join(1, 30, true) = 1; about(1, consignment) = 30;"
                + "item(LETTER, 1, 0, 0) = 2; join(2, 29, true) = 1; item(LETTER, 1, 0, 0) = 3; join(3, 30, false) = 2;"
                + "about(3, consignment) = 30",
            letters(1, 120) + each(1, 120, "join($, 30, false) = $;") + "about(120, consignment) = 30",
            letters(1, 30) + each(1, 30, "join($, $, true) = 1;") + each(1, 30, "about($, consignment) = $;"));
        String state = "STATE (it is in one, or at an end).";
        runs.hold(state,
            ONE + "join(1, 1, true) = 1; join(1, 1, true) = STATE; join(1, 2, true) = STATE; about(1, consignment) = 1",
            ONE + "join(1, 31, true) = OUTSIDE; join(1, 0, true) = OUTSIDE; about(1, consignment) = 0;"
                + "join(1, 1, true) = 1");
        for (String each : STATES) {
            runs.hold(state, in(each) + "join(1, 3, true) = " + (isEnd(each) ? "STATE" : "1") + "; about(1, "
                + "consignment) = "
                + (isEnd(each) ? "0" : "3"));
        }
        runs.hold(state, ONE + "event(1, damaged) = TOLD; join(1, 3, true) = 1");
    }

    private static void bulk() {
        runs.edges("BULK 1 .. 20: an item belongs to one, perhaps.", ONE, "bulk(1, $)", 1, 20, "1");
        runs.hold("BULK 1 .. 20: an item belongs to one, perhaps.",
            ONE + "about(1, bulk) = 0; bulk(1, 20) = 1; about(1, bulk) = 20");
        runs.hold("An item belongs to a bulk: how many do.",
            letters(1, 3) + "bulk(1, 1) = 1; bulk(2, 2) = 1; bulk(3, 1) = 2; about(3, bulk) = 1; about(2, bulk) = 2",
            letters(1, 120) + each(1, 120, "bulk($, 20) = $;") + "about(120, bulk) = 20",
            letters(1, 20) + each(1, 20, "bulk($, $) = 1;") + each(1, 20, "about($, bulk) = $;"));
        String state = "STATE (it belongs to one).";
        runs.hold(state,
            ONE + "bulk(1, 1) = 1; bulk(1, 1) = STATE; bulk(1, 2) = STATE; about(1, bulk) = 1;"
                + "item(LETTER, 1, 0, 0) = 2; bulk(2, 1) = 2; item(LETTER, 1, 0, 0) = 3; bulk(3, 2) = 1");
        for (String each : STATES) {
            runs.hold(state, in(each) + "bulk(1, 20) = 1; bulk(1, 20) = STATE");
        }
        runs.hold(state, ONE + "event(1, damaged) = TOLD; bulk(1, 20) = 1");
    }

    private static void opened() {
        String opened = "A DEAD item is OPENED by two different persons 0 .. 19: it is IN again; its address as"
            + " settled is gone.";
        runs.edges(opened, in("DEAD"), "open(1, $, 10)", 0, 19, "1");
        runs.edges(opened, in("DEAD"), "open(1, 10, $)", 0, 19, "1");
        String settled = ONE + "address(1, 0, 0) = NONE; address(1, 1, 0) = NONE;" + way(1, "DEAD");
        runs.hold(opened,
            settled + "about(1, settled) = 0; open(1, 0, 19) = 1; about(1, state) = IN; about(1, settled) = NONE;"
                + "about(1, read) = 0; event(1, sorted) = SORTED",
            settled + "address(1, 0, 5) = STATE; open(1, 19, 0) = 1; address(1, 0, 5) = 0; address(1, 1, 6) = NONE",
            in("DEAD") + "open(1, 1, 2) = 1; about(1, read) = NONE; about(1, settled) = NONE; aside(0) = NONE");
        for (int person = 0; person <= 19; person++) {
            runs.hold(opened, in("DEAD") + "open(1, " + person + ", " + person + ") = ALONE; about(1, state) = DEAD;"
                + "about(1, openers) = NONE");
        }
        runs.hold("A DEAD item is OPENED: 1.", in("DEAD") + "open(1, 3, 4) = 1; open(1, 3, 4) = STATE",
            in("GOING_BACK") + "event(1, dead) = DEAD; open(1, 3, 4) = 1");
        runs.hold("OUTSIDE (persons)",
            in("DEAD") + "open(1, 20, 0) = OUTSIDE; open(1, 0, 20) = OUTSIDE; open(1, -1, 0) = OUTSIDE;"
                + "open(1, 0, -1) = OUTSIDE; open(1, 20, 20) = OUTSIDE; about(1, state) = DEAD");
        String state = "STATE (it is not DEAD, or damaged), ALONE (both are one).";
        for (String each : STATES) {
            if (!each.equals("DEAD")) {
                runs.hold(state, in(each) + "open(1, 0, 1) = STATE; about(1, state) = " + each
                    + "; about(1, openers) = NONE");
            }
        }
        runs.hold(state,
            in("DEAD") + "event(1, damaged) = DEAD; open(1, 0, 1) = STATE; event(1, resealed) = DEAD;"
                + "open(1, 0, 1) = 1",
            settled + "open(1, 7, 7) = ALONE; about(1, state) = DEAD; about(1, settled) = 0; open(1, 7, 8) = 1");
        runs.hold("13 persons who opened it last (100 times the first and the second), or NONE.",
            in("DEAD") + "about(1, openers) = NONE; open(1, 0, 1) = 1; about(1, openers) = 1",
            in("DEAD") + "open(1, 1, 0) = 1; about(1, openers) = 100",
            in("DEAD") + "open(1, 19, 18) = 1; about(1, openers) = 1918; event(1, sorted) = SORTED;"
                + "event(1, sent) = ON_ITS_WAY; event(1, office) = OUT; event(1, unmet) = HELD; event(1, dead) = DEAD;"
                + "about(1, openers) = 1918; open(1, 5, 5) = ALONE; about(1, openers) = 1918; open(1, 0, 19) = 1;"
                + "about(1, openers) = 19",
            letters(1, 2) + way(1, "DEAD") + way(2, "DEAD") + "open(2, 2, 3) = 1; about(1, openers) = NONE");
    }

    private static void corrections() {
        String limits = "A CORRECTION has a reason 1 .. 9; it is a ROW with what was and what is (200 rows at most;"
            + " they stay).";
        runs.edges(limits, ONE, "correct(1, 1, 101, $)", 1, 9, "1");
        String rows = each(1, 200, "correct(1, 3, $, 9) = $;");
        runs.hold(limits,
            ONE + rows + "correct(1, 3, 201, 9) = ROOM; correct(1, 4, 1, 9) = ROOM; about(1, read) = 200;"
                + "about(1, settled) = NONE; row(0, 3) = 1; row(0, 2) = NONE; row(199, 3) = 200; row(199, 2) = 199;"
                + "row(200, 0) = NONE",
            ONE + each(1, 199, "correct(1, 3, $, 9) = $;") + "row(199, 0) = NONE; correct(1, 0, 3, 1) = 200;"
                + "row(199, 0) = 1; row(199, 1) = 0; correct(1, 0, 2, 1) = ROOM; about(1, kind) = PARCEL",
            // They stay when what they tell of is corrected once more, or the item is at an end.
            ONE + "correct(1, 1, 5, 2) = 1; correct(1, 1, 100, 3) = 2; event(1, lost) = LOST; row(0, 2) = 100;"
                + "row(0, 3) = 5; row(1, 2) = 5; row(1, 3) = 100",
            // Full of rows, it takes all else as before.
            ONE + rows + "item(LETTER, 1, 0, 0) = 2; address(1, 0, 7) = 200; address(1, 1, 8) = NONE;"
                + "event(1, taken) = IN; correct(2, 1, 2, 1) = ROOM; about(2, weight) = 1");
        String what = "A CORRECTION of what = 0 kind, 1 weight, 2 size, 3 address as read, 4 as settled (likewise 0 "
            + ".. 9999): how many rows there are.";
        runs.edges(what, "item(LARGE, 2, 1, 0) = 1;", "correct(1, 1, $, 1)", 1, 100000, "1", "HEAVY");
        runs.edges(what, "item(LARGE, 2, 1, 0) = 1;", "correct(1, 2, $, 1)", 0, 9, "1", "BULKY");
        runs.edges(what, "item(LARGE, 2, 0, 0) = 1;", "correct(1, 0, $, 1)", 0, 3, "1");
        runs.edges(what, ONE, "correct(1, 3, $, 1)", 0, 9999, "1");
        runs.edges(what, ONE, "correct(1, 4, $, 1)", 0, 9999, "1");
        runs.edges("OUTSIDE (also another what, reason), STATE", ONE, "correct(1, $, 3, 1)", 0, 4, "1");
        runs.hold("OUTSIDE (also another what, reason), STATE",
            ONE + "correct(1, 5, 0, 1) = OUTSIDE; correct(1, -1, 0, 1) = OUTSIDE; correct(1, 1, 5, 0) = OUTSIDE;"
                + "correct(1, 1, 5, 10) = OUTSIDE; row(0, 0) = NONE; correct(1, 1, 5, 1) = 1");
        runs.hold(what,
            ONE + "correct(1, 0, PARCEL, 1) = 1; correct(1, 1, 5, 2) = 2; correct(1, 2, 3, 3) = 3;"
                + "correct(1, 3, 0, 4) = 4;"
                + "correct(1, 4, 9999, 5) = 5; about(1, kind) = PARCEL; about(1, weight) = 5; about(1, size) = 3;"
                + "about(1, read) = 0; about(1, settled) = 9999",
            // Rows are those of all items.
            letters(1, 120) + "correct(120, 1, 2, 1) = 1; correct(1, 1, 2, 1) = 2; about(120, weight) = 2;"
                + "about(2, weight) = 1; row(0, 0) = 120; row(1, 0) = 1",
            // A correction settles, and is not stopped by it.
            ONE + "correct(1, 4, 0, 1) = 1; address(1, 0, 3) = STATE; address(1, 1, 3) = STATE;"
                + "correct(1, 3, 3, 1) = 2; correct(1, 4, 3, 1) = 3; about(1, read) = 3; about(1, settled) = 3");
        String asItIs = "STATE (it is as it would be; of kinds when it would be TURNED into the one that it has)";
        runs.hold(asItIs,
            ONE + "correct(1, 1, 100, 1) = STATE; correct(1, 2, 0, 1) = STATE; correct(1, 0, PACKET, 1) = STATE;"
                + "row(0, 0) = NONE; correct(1, 1, 99, 1) = 1",
            ONE + "correct(1, 3, 0, 1) = 1; correct(1, 3, 0, 1) = STATE; correct(1, 4, 0, 1) = 2;"
                + "correct(1, 4, 0, 1) = STATE",
            ONE + "address(1, 0, 9999) = NONE; correct(1, 3, 9999, 1) = STATE; address(1, 1, 5) = NONE;"
                + "correct(1, 4, 5, 1) = STATE; correct(1, 4, 9999, 1) = 1",
            "item(LARGE, 51, 0, 0) = 1; correct(1, 0, LETTER, 1) = STATE; about(1, kind) = LARGE; row(0, 0) = NONE",
            "item(PACKET, 1, 2, 0) = 1; correct(1, 0, LETTER, 1) = STATE; correct(1, 0, LARGE, 1) = STATE;"
                + "correct(1, 0, PACKET, 1) = STATE; correct(1, 0, PARCEL, 1) = 1; correct(1, 0, LETTER, 1) = 2;"
                + "about(1, kind) = PACKET; correct(1, 0, LETTER, 1) = STATE",
            "item(PARCEL, 2001, 0, 0) = 1; correct(1, 0, LETTER, 1) = STATE; correct(1, 0, LARGE, 1) = STATE;"
                + "correct(1, 0, PACKET, 1) = STATE; correct(1, 0, PARCEL, 1) = STATE");
        runs.hold("TURNED into the one that it has), ROOM, HEAVY, BULKY.",
            ONE + "correct(1, 1, 31500, 1) = 1; correct(1, 1, 31501, 1) = HEAVY; correct(1, 1, 100000, 1) = HEAVY;"
                + "about(1, weight) = 31500",
            ONE + "correct(1, 2, 3, 1) = 1; correct(1, 2, 4, 1) = BULKY; correct(1, 2, 9, 1) = BULKY;"
                + "about(1, size) = 3",
            "item(PARCEL, 31500, 3, 0) = 1; correct(1, 1, 31501, 1) = HEAVY; correct(1, 2, 4, 1) = BULKY;"
                + "row(0, 0) = NONE",
            ONE + rows + "correct(1, 3, 0, 1) = ROOM");
    }

    private static void correctionsTurn() {
        String turned = "(Behind 0, 1, 2 it is TURNED if need be, in the same row; services stay as they are.";
        String[] kinds = {"LETTER", "LARGE", "PACKET", "PARCEL"};
        int[] grams = {50, 500, 2000, 31500};
        for (int kind = 0; kind < 3; kind++) {
            String item = "item(" + kinds[kind] + ", 1, 0, 0) = 1;";
            runs.hold(turned,
                item + "correct(1, 1, " + grams[kind] + ", 1) = 1; about(1, kind) = " + kinds[kind],
                item + "correct(1, 1, " + (grams[kind] + 1) + ", 1) = 1; about(1, kind) = " + kinds[kind + 1]
                    + "; row(0, 1) = 1; row(1, 0) = NONE",
                item + "correct(1, 2, " + (kind + 1) + ", 1) = 1; about(1, kind) = " + kinds[kind + 1]
                    + "; row(0, 1) = 2; row(1, 0) = NONE",
                item + "correct(1, 1, 31500, 1) = 1; about(1, kind) = PARCEL",
                item + "correct(1, 2, 3, 1) = 1; about(1, kind) = PARCEL",
                item + "correct(1, 3, 3, 1) = 1; correct(1, 4, 3, 1) = 2; about(1, kind) = " + kinds[kind]);
        }
        runs.hold(turned,
            // There is no need to turn it downwards.
            "item(LETTER, 51, 0, 0) = 1; correct(1, 1, 50, 1) = 1; about(1, kind) = LARGE;"
                + "correct(1, 0, LETTER, 1) = 2; about(1, kind) = LETTER",
            "item(LETTER, 1, 3, 0) = 1; correct(1, 2, 0, 1) = 1; about(1, kind) = PARCEL; correct(1, 0, LARGE, 1) = 2;"
                + "about(1, kind) = LARGE",
            // A kind that is told too small.
            "item(PARCEL, 501, 0, 0) = 1; correct(1, 0, LETTER, 1) = 1; about(1, kind) = PACKET; row(1, 0) = NONE",
            "item(PARCEL, 1, 1, 0) = 1; correct(1, 0, LETTER, 1) = 1; about(1, kind) = LARGE",
            // Services that this kind would not have let in.
            "item(PACKET, 1, 0, 0) = 1; service(1, 0) = 1; service(1, 5) = 2; correct(1, 0, LETTER, 1) = 1;"
                + "about(1, services) = 33; service(1, 5) = STATE",
            "item(LARGE, 1, 0, 0) = 1; service(1, 0) = 1; service(1, 4) = 2; correct(1, 0, LETTER, 1) = 1;"
                + "about(1, services) = 17; service(1, 4) = STATE",
            "item(LETTER, 1, 0, 0) = 1; service(1, 0) = 1; service(1, 3) = 2; correct(1, 1, 31500, 1) = 1;"
                + "about(1, services) = 9");
        String all = "Items at an end and damaged ones are corrected, too.)";
        for (String state : STATES) {
            runs.hold(all, in(state) + "correct(1, 0, PARCEL, 1) = 1; correct(1, 1, 5, 1) = 2; correct(1, 2, 1, 1) = 3;"
                + "correct(1, 3, 6, 1) = 4; correct(1, 4, 7, 1) = 5; about(1, state) = " + state
                + "; about(1, weight) = 5; about(1, settled) = 7");
            if (!isEnd(state)) {
                runs.hold(all, in(state) + "event(1, damaged) = " + state + "; correct(1, 0, PARCEL, 1) = 1;"
                    + "correct(1, 1, 5, 1) = 2; correct(1, 2, 1, 1) = 3; correct(1, 3, 6, 1) = 4;"
                    + "correct(1, 4, 7, 1) = 5;"
                    + "about(1, harm) = 1; about(1, kind) = PARCEL; about(1, state) = " + state);
            }
        }
    }

    private static void rows() {
        String parts = "Row i (0 the first) of the corrections: what = 0 the item, 1 what was corrected, 2 what it "
            + "was (NONE:"
            + " no address), 3 what it was to be (a kind as it was told, also when it is TURNED then), 4 the reason.";
        runs.hold(parts,
            ONE + "correct(1, 0, PARCEL, 9) = 1; row(0, 0) = 1; row(0, 1) = 0; row(0, 2) = 2; row(0, 3) = 3;"
                + "row(0, 4) = 9",
            ONE + "correct(1, 1, 31500, 8) = 1; row(0, 0) = 1; row(0, 1) = 1; row(0, 2) = 100; row(0, 3) = 31500;"
                + "row(0, 4) = 8",
            ONE + "correct(1, 2, 3, 1) = 1; row(0, 0) = 1; row(0, 1) = 2; row(0, 2) = 0; row(0, 3) = 3; row(0, 4) = 1",
            ONE + "correct(1, 3, 0, 2) = 1; row(0, 0) = 1; row(0, 1) = 3; row(0, 2) = NONE; row(0, 3) = 0;"
                + "row(0, 4) = 2;"
                + "correct(1, 3, 9999, 3) = 2; row(1, 2) = 0; row(1, 3) = 9999; row(0, 3) = 0; row(0, 4) = 2",
            ONE + "correct(1, 4, 9999, 4) = 1; row(0, 0) = 1; row(0, 1) = 4; row(0, 2) = NONE; row(0, 3) = 9999;"
                + "row(0, 4) = 4; correct(1, 4, 0, 5) = 2; row(1, 2) = 9999; row(1, 3) = 0",
            // The address that was is gone behind an opening.
            ONE + "address(1, 1, 5) = NONE;" + way(1, "DEAD") + "open(1, 0, 1) = 1; correct(1, 4, 5, 1) = 1;"
                + "row(0, 2) = NONE",
            // A kind as it was told.
            "item(PARCEL, 501, 0, 0) = 1; correct(1, 0, LETTER, 1) = 1; row(0, 2) = 3; row(0, 3) = 0;"
                + "about(1, kind) = 2",
            // The kind that a weight or a size TURNS it into is not in the row.
            "item(LETTER, 1, 0, 0) = 1; correct(1, 1, 501, 1) = 1; row(0, 1) = 1; row(0, 2) = 1; row(0, 3) = 501",
            letters(1, 120) + each(1, 120, "correct($, 3, $, 1) = $;") + "row(0, 0) = 1; row(119, 0) = 120;"
                + "row(119, 3) = 120; row(120, 0) = NONE");
        String none = "NONE when there is none such.";
        runs.hold(none,
            "row(0, 0) = NONE; row(-1, 0) = NONE; row(199, 4) = NONE; row(MIN, MIN) = NONE; row(MAX, MAX) = NONE",
            ONE + each(0, 4, "row(0, $) = NONE;") + "correct(1, 1, 5, 1) = 1; row(0, 3) = 5;" + each(0, 4, "row(1, "
                + "$) = NONE;")
                + each(0, 4, "row(-1, $) = NONE;") + "row(0, -1) = NONE; row(0, 5) = NONE; row(0, MIN) = NONE;"
                + "row(0, MAX) = NONE; row(MIN, 0) = NONE; row(MAX, 0) = NONE; row(1, 5) = NONE; row(-1, -1) = NONE",
            ONE + each(1, 200, "correct(1, 3, $, 1) = $;") + "row(199, 3) = 200; row(199, 5) = NONE;"
                + "row(200, 3) = NONE; row(201, 3) = NONE; row(MAX, 3) = NONE; row(MIN, 3) = NONE; row(-1, 3) = NONE");
    }

    private static void setAside() {
        String sentence = "SET ASIDE are items that are damaged or DEAD.";
        for (String state : STATES) {
            runs.hold(sentence, in(state) + "aside(0) = " + (state.equals("DEAD") ? "1" : "NONE") + "; aside(1) = "
                + "NONE");
            if (!isEnd(state)) {
                runs.hold(sentence, in(state) + "event(1, damaged) = " + state + "; aside(0) = 1; aside(1) = NONE;"
                    + "event(1, resealed) = " + state + "; aside(0) = " + (state.equals("DEAD") ? "1" : "NONE"));
                runs.hold(sentence, in(state) + "event(1, damaged) = " + state + "; event(1, lost) = LOST;"
                    + "aside(0) = 1");
            }
        }
        runs.hold(sentence, in("DEAD") + "open(1, 0, 1) = 1; aside(0) = NONE", in("DEAD") + "open(1, 0, 0) = ALONE;"
            + "aside(0) = 1",
            in("DEAD") + "event(1, lost) = LOST; aside(0) = NONE");
        String ith = "The i-th item (0 first, by numbers) that is SET ASIDE; NONE.";
        runs.hold(ith,
            "aside(0) = NONE; aside(-1) = NONE; aside(MIN) = NONE; aside(MAX) = NONE", letters(1, 3) + "aside(0) = "
                + "NONE",
            // By their numbers, not by when they came to be so.
            letters(1, 5) + "event(5, damaged) = TOLD; aside(0) = 5;" + way(3, "DEAD") + "aside(0) = 3; aside(1) = 5;"
                + "event(1, damaged) = TOLD; aside(0) = 1; aside(1) = 3; aside(2) = 5; aside(3) = NONE;"
                + "aside(-1) = NONE;"
                + "event(3, damaged) = DEAD; aside(1) = 3; aside(2) = 5; aside(3) = NONE; event(1, resealed) = TOLD;"
                + "aside(0) = 3; aside(1) = 5; aside(2) = NONE",
            letters(1, 120) + "event(120, damaged) = TOLD; aside(0) = 120; aside(1) = NONE; aside(119) = NONE",
            letters(1, 120) + each(1, 120, "event($, damaged) = TOLD;") + "aside(0) = 1; aside(60) = 61;"
                + "aside(118) = 119;"
                + "aside(119) = 120; aside(120) = NONE; aside(121) = NONE; aside(-1) = NONE; aside(MIN) = NONE;"
                + "aside(MAX) = NONE");
    }

    /** The item is packed into these bytes; the xor of all of them is the one behind. */
    private static String bytes(int item, int... bytes) {
        StringBuilder text = new StringBuilder("pack(" + item + ") = " + (bytes.length + 1) + ";");
        int xor = 0;
        for (int k = 0; k < bytes.length; k++) {
            text.append("octet(" + k + ") = " + bytes[k] + ";");
            xor ^= bytes[k];
        }
        text.append("octet(" + bytes.length + ") = " + xor + ";");
        return text.append("octet(" + (bytes.length + 1) + ") = NONE;").toString();
    }

    private static void packed() {
        runs.hold("PACKED an item is bytes: its number (2, the higher first),",
            LETTER + bytes(1, 0, 1, 0, 0, 1, 0, 0, 255, 255, 255, 255, 0, 0),
            letters(1, 120) + bytes(120, 0, 120, 0, 0, 1, 0, 0, 255, 255, 255, 255, 0, 0));
        runs.hold("its kind and 16 times its size,",
            "item(PARCEL, 1, 0, 0) = 1; pack(1) = 14; octet(2) = 3", "item(PARCEL, 1, 3, 0) = 1; pack(1) = 14;"
                + "octet(2) = 51",
            "item(LARGE, 1, 1, 0) = 1; pack(1) = 14; octet(2) = 17", "item(LETTER, 1, 2, 0) = 1; pack(1) = 14;"
                + "octet(2) = 34",
            LETTER + "correct(1, 0, PACKET, 1) = 1; correct(1, 2, 1, 1) = 2; pack(1) = 14; octet(2) = 18");
        runs.hold("its weight (2),",
            "item(LETTER, 255, 0, 0) = 1; pack(1) = 14; octet(3) = 0; octet(4) = 255",
            "item(LETTER, 256, 0, 0) = 1; pack(1) = 14; octet(3) = 1; octet(4) = 0",
            "item(LETTER, 31500, 0, 0) = 1; pack(1) = 14; octet(3) = 123; octet(4) = 12",
            "item(LETTER, 31500, 0, 0) = 1; correct(1, 1, 1, 1) = 1; pack(1) = 14; octet(3) = 0; octet(4) = 1");
        runs.hold("services as bits,",
            ONE + "pack(1) = 14; octet(5) = 0; service(1, 0) = 1; pack(1) = 14; octet(5) = 1",
            ONE + "service(1, 5) = 1; pack(1) = 14; octet(5) = 32; service(1, 2) = 2; service(1, 0) = 3; pack(1) = 14;"
                + "octet(5) = 37",
            ONE + "service(1, 0) = 1; service(1, 1) = 2; service(1, 3) = 3; service(1, 4) = 4; pack(1) = 14;"
                + "octet(5) = 27");
        for (int state = 0; state < STATES.length; state++) {
            runs.hold("its state and 128 if it is damaged,", in(STATES[state]) + "pack(1) = 14; octet(6) = " + state);
            if (!isEnd(STATES[state])) {
                runs.hold("its state and 128 if it is damaged,", in(STATES[state]) + "event(1, damaged) "
                    + "= " + STATES[state]
                    + "; pack(1) = 14; octet(6) = " + (128 + state) + "; event(1, lost) = LOST; pack(1) = 14;"
                    + "octet(6) = 137");
            }
        }
        String addresses = "addresses as read and as settled (2 each; 255, 255 without),";
        runs.hold(addresses,
            LETTER + "address(1, 0, 9999) = NONE;" + bytes(1, 0, 1, 0, 0, 1, 0, 0, 39, 15, 255, 255, 0, 0),
            LETTER + "address(1, 1, 9999) = NONE;" + bytes(1, 0, 1, 0, 0, 1, 0, 0, 255, 255, 39, 15, 0, 0),
            LETTER + "address(1, 0, 255) = NONE; address(1, 1, 256) = NONE;"
                + bytes(1, 0, 1, 0, 0, 1, 0, 0, 0, 255, 1, 0, 0, 0),
            LETTER + "address(1, 0, 0) = NONE; address(1, 1, 0) = NONE;"
                + bytes(1, 0, 1, 0, 0, 1, 0, 0, 0, 0, 0, 0, 0, 0),
            LETTER + "address(1, 0, 1) = NONE; address(1, 1, 2) = NONE;" + way(1, "DEAD") + "open(1, 0, 1) = 1;"
                + bytes(1, 0, 1, 0, 0, 1, 0, 1, 0, 1, 255, 255, 0, 0));
        runs.hold("the land (0 without),", LETTER + "pack(1) = 14; octet(11) = 0; abroad(1, 30) = 1; pack(1) = 14;"
            + "octet(11) = 30", LETTER + "abroad(1, 1) = 1; pack(1) = 14; octet(11) = 1; octet(12) = 0");
        String contents = "how many rows of contents, for each its what and its cents (3);";
        String going = LETTER + "abroad(1, 2) = 1;";
        runs.hold(contents,
            going + bytes(1, 0, 1, 0, 0, 1, 0, 0, 255, 255, 255, 255, 2, 0),
            going + "contents(1, 99, 100000) = 1;"
                + bytes(1, 0, 1, 0, 0, 1, 0, 0, 255, 255, 255, 255, 2, 1, 99, 1, 134, 160),
            going + "contents(1, 0, 0) = 1; contents(1, 1, 255) = 2; contents(1, 2, 256) = 3;"
                + "contents(1, 3, 65535) = 4;"
                + bytes(1, 0, 1, 0, 0, 1, 0, 0, 255, 255, 255, 255, 2, 4, 0, 0, 0, 0, 1, 0, 0, 255, 2, 0, 1, 0, 3, 0,
                255, 255),
            going + "contents(1, 9, 65536) = 1; contents(1, 8, 65537) = 2;"
                + bytes(1, 0, 1, 0, 0, 1, 0, 0, 255, 255, 255, 255, 2, 2, 9, 1, 0, 0, 8, 1, 0, 1));
        runs.hold("and the xor of all these.",
            LETTER + "pack(1) = 14; octet(13) = 0", LETTER + "address(1, 0, 0) = NONE; pack(1) = 14; octet(13) = 0",
            LETTER + "address(1, 0, 1) = NONE; pack(1) = 14; octet(13) = 1",
            going + "contents(1, 99, 100000) = 1; pack(1) = 18; octet(17) = 71",
            "item(PARCEL, 31500, 3, 0) = 1; event(1, damaged) = TOLD; pack(1) = 14; octet(13) = 197");
        packing();
    }

    private static void packing() {
        String going = LETTER + "abroad(1, 2) = 1;";
        String rows = "";
        for (int k = 1; k <= 4; k++) {
            rows += "contents(1, " + k + ", 0) = " + k + ";";
            runs.hold("An item is PACKED, in place of what was: how many bytes.",
                going + rows + "pack(1) = " + (14 + 4 * k) + "; octet(12) = " + k + "; octet(" + (14 + 4 * k) + ") "
                    + "= NONE");
        }
        runs.hold("An item is PACKED, in place of what was: how many bytes.",
            // A shorter one behind a longer one leaves nothing of it.
            going + rows + "item(LARGE, 60, 1, 0) = 2; pack(1) = 30; octet(29) = 2; octet(30) = NONE;"
                + bytes(2, 0, 2, 17, 0, 60, 0, 0, 255, 255, 255, 255, 0, 0) + each(14, 31, "octet($) = NONE;"),
            LETTER + "pack(1) = 14; octet(6) = 0; event(1, taken) = IN; pack(1) = 14; octet(6) = 1");
        runs.hold("how many bytes. UNKNOWN.", "pack(1) = UNKNOWN; octet(0) = NONE", LETTER + "pack(2) = UNKNOWN;"
            + "octet(0) = NONE",
            LETTER + "pack(1) = 14; pack(2) = UNKNOWN; pack(0) = UNKNOWN; octet(1) = 1; octet(13) = 0;"
                + "octet(14) = NONE",
            letters(1, 120) + "pack(120) = 14; pack(121) = UNKNOWN; octet(1) = 120");
        String octet = "Byte i of what was packed; NONE.";
        runs.hold(octet,
            "octet(0) = NONE; octet(-1) = NONE; octet(MIN) = NONE; octet(MAX) = NONE", LETTER + "octet(0) = NONE",
            LETTER + "pack(1) = 14; octet(0) = 0; octet(13) = 0; octet(14) = NONE; octet(-1) = NONE; octet(MIN) = NONE;"
                + "octet(MAX) = NONE; octet(29) = NONE; octet(30) = NONE",
            going + rows + "pack(1) = 30; octet(28) = 0; octet(29) = 2; octet(30) = NONE; octet(31) = NONE;"
                + "octet(-1) = NONE; octet(MIN) = NONE; octet(MAX) = NONE",
            // What was packed stays as it was, though the item does not.
            LETTER + "pack(1) = 14; event(1, damaged) = TOLD; address(1, 0, 5) = NONE; abroad(1, 7) = 1; octet(6) = 0;"
                + "octet(7) = 255; octet(8) = 255; octet(11) = 0; octet(13) = 0; octet(14) = NONE");
    }

    private static void addresses() {
        String sentence = "The address as read (which = 0) or as settled (1) is an entry 0 .. 9999: what it was, or "
            + "NONE.";
        runs.edges(sentence, ONE, "address(1, $, 5)", 0, 1, "NONE");
        runs.edges(sentence, ONE, "address(1, 0, $)", 0, 9999, "NONE");
        runs.edges(sentence, ONE, "address(1, 1, $)", 0, 9999, "NONE");
        runs.edges(sentence, ONE + "address(1, 0, 0) = NONE;", "address(1, 0, $)", 0, 9999, "0");
        runs.hold(sentence,
            ONE + "about(1, read) = NONE; address(1, 0, 0) = NONE; about(1, read) = 0; address(1, 0, 9999) = 0;"
                + "address(1, 0, 9999) = 9999; about(1, read) = 9999; about(1, settled) = NONE",
            ONE + "about(1, settled) = NONE; address(1, 1, 0) = NONE; about(1, settled) = 0; about(1, read) = NONE",
            letters(1, 2) + "address(1, 0, 5) = NONE; address(2, 0, 6) = NONE; about(1, read) = 5;"
                + "address(2, 1, 7) = NONE; address(1, 0, 8) = 5");
        String state = "STATE (it is at an end, or settled already, be which 0 or 1).";
        runs.hold(state,
            ONE + "address(1, 0, 5) = NONE; address(1, 1, 0) = NONE; address(1, 0, 6) = STATE;"
                + "address(1, 1, 6) = STATE; about(1, read) = 5; about(1, settled) = 0",
            ONE + "address(1, 1, 9999) = NONE; address(1, 1, 9999) = STATE; address(1, 0, 0) = STATE;"
                + "about(1, read) = NONE",
            ONE + "event(1, damaged) = TOLD; address(1, 0, 5) = NONE; address(1, 1, 5) = NONE;"
                + "address(1, 1, 5) = STATE");
        for (String each : STATES) {
            String answer = isEnd(each) ? "STATE" : "NONE";
            String entry = isEnd(each) ? "NONE" : "5";
            runs.hold(state, in(each) + "address(1, 0, 5) = " + answer + "; about(1, read) = " + entry,
                in(each) + "address(1, 1, 5) = " + answer + "; about(1, settled) = " + entry,
                ONE + "address(1, 1, 0) = NONE;" + way(1, each) + "address(1, 0, 5) = STATE; address(1, 1, 5) = STATE");
        }
    }

    private static String facts(int item, String... facts) {
        StringBuilder text = new StringBuilder();
        for (int what = 0; what < facts.length; what++) {
            text.append("about(" + item + ", " + what + ") = " + facts[what] + ";");
        }
        return text.toString();
    }

    private static void about() {
        String sentence = "Of an item: what = 0 its state, 1 kind, 2 weight, 3 size, 4 services as bits, 5 address "
            + "as read, 6 as"
            + " settled (NONE), 7 land (0), 8 consignment (0), 9 bulk (0), 10 LATE events, 11 whether it is damaged "
            + "(1, 0), 12 sender, 13 persons who opened it last (100 times the first and the second), or NONE.";
        String fresh = "item(PACKET, 1999, 1, 98) = 1;";
        String whole = "service(1, 0) = 1; service(1, 4) = 2; address(1, 0, 21) = NONE; abroad(1, 22) = 1;"
            + "contents(1, 0, 0) = 1; join(1, 23, true) = 1; bulk(1, 14) = 1;" + way(1, "DEAD") + "open(1, 6, 7) = 1;"
            + "address(1, 1, 24) = NONE;"
            + "event(1, damaged) = IN; event(1, lost) = LOST; event(1, lost) = LATE; event(1, taken) = LATE;";
        runs.hold(sentence,
            fresh + facts(1, "0", "2", "1999", "1", "0", "NONE", "NONE", "0", "0", "0", "0", "0", "98", "NONE"),
            fresh + whole + facts(1, "9", "2", "1999", "1", "17", "21", "24", "22", "23", "14", "2", "1", "98", "607"),
            fresh + letters(2, 3) + whole + facts(2, "0", "0", "1", "0", "0", "NONE", "NONE", "0", "0", "0", "0", "0",
                "0", "NONE"));
        runs.edges("or NONE. UNKNOWN, OUTSIDE.", fresh, "about(1, $)", 0, 13, "TOLD", "NONE");
    }

    private static void newObject() {
        runs.hold("No items.",
            "about(0, 0) = UNKNOWN; about(1, 0) = UNKNOWN; about(120, 0) = UNKNOWN; pack(1) = UNKNOWN; octet(0) = NONE;"
                + "row(0, 0) = NONE; aside(0) = NONE; service(1, 0) = UNKNOWN; event(1, 0) = UNKNOWN;"
                + "address(1, 0, 0) = UNKNOWN;"
                + "abroad(1, 1) = UNKNOWN; contents(1, 0, 0) = UNKNOWN; join(1, 1, true) = UNKNOWN;"
                + "bulk(1, 1) = UNKNOWN;"
                + "open(1, 0, 1) = UNKNOWN; correct(1, 1, 1, 1) = UNKNOWN; item(LETTER, 1, 0, 0) = 1");
        ItemFacts used = new ItemFacts();
        used.item(3, 1, 0, 0);
        used.item(3, 1, 0, 0);
        used.join(1, 1, true);
        used.bulk(1, 1);
        used.event(2, 7);
        used.correct(1, 1, 5, 1);
        used.pack(1);
        ItemFacts other = new ItemFacts();
        int[] answers = {other.about(1, 0), other.row(0, 0), other.octet(0), other.aside(0), other.item(0, 1, 0, 0),
            other.join(1, 1, false), other.bulk(1, 1), other.correct(1, 1, 5, 1), used.about(1, 8), used.item(0, 1, 0,
                0)};
        int[] due = {-101, -1, -1, -1, 1, 1, 1, 1, 1, 3};
        for (int k = 0; k < due.length; k++) {
            if (answers[k] != due[k]) {
                runs.fail("two objects share nothing, answer " + k + ": " + answers[k] + ", due is " + due[k]);
            }
        }
    }

    private static void lastCall() {
        runs.hold("An object is used for at most 512 calls after it has been made;",
            letters(1, 120) + each(1, 120, "join($, 7, true) = $;") + each(1, 120, "bulk($, 7) = $;")
                + each(1, 120, "event($, damaged) = TOLD;") + each(1, 30, "correct($, 1, 2, 1) = $;") + "pack(120) "
                + "= 14; aside(119) = 120",
            letters(1, 120) + each(1, 120, "abroad($, 30) = 1;") + each(1, 120, "contents($, 1, 1) = 1;")
                + each(1, 120, "service($, 0) = 1;") + each(1, 30, "contents($, 2, 2) = 2;") + "pack(30) = 22;"
                + "octet(21) = 2");
    }

    /** Their answers are free, but they must have one: LANGUAGE.md lets no call throw, in any state. */
    private static void laterCalls() {
        runs.hold("what later calls answer is free.");
        ItemFacts x = new ItemFacts();
        for (int k = 0; k < 200_000; k++) {
            x.item(k & 3, 1 + k % 2000, k & 1, 0);
            int item = k % 122;
            x.correct(item, k % 6, k % 40, 1 + k % 9);
            x.service(item, k % 7);
            x.join(item, k % 32, true);
            x.bulk(item, k % 22);
            x.abroad(item, k % 32);
            x.contents(item, k % 101, k);
            x.address(item, k & 1, k);
            x.event(item, k / 122 % 11);
            x.open(item, k % 21, k % 20);
            x.pack(item);
            x.row(k % 202, k % 6);
            x.octet(k % 32);
            x.about(item, k % 15);
            x.aside(k % 121);
        }
    }

    /** RefusalsTest has the runs for these. */
    private static void refusals() {
        runs.hold("REFUSALS are answers, of several the first one here: UNKNOWN (no such item), OUTSIDE (a number "
            + "is not as said), STATE, ROOM, then what else is named. A call that is refused changes nothing.");
        runs.hold("UNKNOWN, OUTSIDE");
    }
}
