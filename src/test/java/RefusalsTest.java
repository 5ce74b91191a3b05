import java.io.IOException;
import java.nio.file.Path;

/** Refusals: no such item, numbers that are OUTSIDE, which of several comes first, and that nothing is changed. */
public final class RefusalsTest extends Telling {
    private static final String DOCUMENT = "../shared/DOC.md";
    private static final String[] NO_ITEM = {"MIN", "-1", "0", "2", "120", "121", "MAX"};

    private static Runs runs;

    public static void main(String[] args) throws IOException {
        runs = new Runs(Path.of(DOCUMENT));
        unknown();
        outside();
        firstOfSeveral();
        refusedChangesNothing();
        if (!runs.wentWell()) {
            System.exit(1);
        }
    }

    /** Every call that asks for an item, with what else it is told right and wrong. */
    private static void unknown() {
        String sentence = "UNKNOWN (no such item), OUTSIDE (a number is not as said), STATE, ROOM, then what else "
            + "is named.";
        String[] calls = {
            "service($, 0)", "service($, 6)", "event($, 0)", "event($, 11)", "address($, 0, 0)", "address($, 2, 10000)",
            "abroad($, 1)", "abroad($, 31)", "contents($, 0, 0)", "contents($, 100, 100001)", "join($, 1, true)",
            "join($, 31, false)", "bulk($, 1)", "bulk($, 21)", "open($, 0, 1)", "open($, 20, 20)", "open($, 3, 3)",
            "correct($, 1, 5, 1)", "correct($, 5, -1, 10)", "correct($, 1, 31501, 1)", "correct($, 2, 9, "
                + "1)", "about($, 0)",
            "about($, 14)", "pack($)",
        };
        for (String call : calls) {
            for (String number : NO_ITEM) {
                runs.hold(sentence, LETTER + "pack(1) = 14;" + call.replace("$", number) + " = UNKNOWN");
            }
            runs.hold(sentence, letters(1, 120) + call.replace("$", "121") + " = "
                + "UNKNOWN", call.replace("$", "1") + " = UNKNOWN",
                ONE + each(1, 200, "correct(1, 3, $, 1) = $;") + call.replace("$", "2") + " = UNKNOWN");
        }
    }

    /** Each number that is OUTSIDE, by itself, on an item that takes all else. */
    private static void outside() {
        String sentence = "UNKNOWN, OUTSIDE, STATE";
        runs.edges(sentence, "item(PARCEL, 1, 0, 0) = 1;", "service(1, $)", 0, 5, "1");
        runs.edges(sentence, ONE + "abroad(1, 1) = 1; contents(1, 1, 1) = 1;", "contents(1, 1, $)", 0, 100000, "2");
        runs.edges(sentence, letters(1, 120), "abroad(120, $)", 1, 30, "1");
        runs.edges(sentence, letters(1, 120), "join(120, $, true)", 1, 30, "1");
        runs.edges(sentence, letters(1, 120), "bulk(120, $)", 1, 20, "1");
        runs.edges("UNKNOWN, OUTSIDE (persons), STATE", letters(1, 120) + way(120, "DEAD"), "open(120, $, "
            + "1)", 0, 19, "1");
        runs.edges("UNKNOWN, OUTSIDE (also", letters(1, 120), "correct(120, 4, $, 9)", 0, 9999, "1");
    }

    /** Each pair of refusals that can come together, by the order that the promises give. */
    private static void firstOfSeveral() {
        itemInOrder();
        serviceInOrder();
        eventInOrder();
        addressInOrder();
        abroadInOrder();
        contentsInOrder();
        joinInOrder();
        bulkInOrder();
        openInOrder();
        correctInOrder();
        runs.hold("or NONE. UNKNOWN, OUTSIDE.", "about(1, 14) = UNKNOWN",
            LETTER + "about(2, 14) = UNKNOWN; about(1, 14) = OUTSIDE; about(2, 0) = UNKNOWN");
        runs.hold("REFUSALS are answers, of several the first one here:",
            ONE + "abroad(1, 1) = 1;" + each(1, 4, "contents(1, 0, 0) = $;") + "contents(2, 100, 0) = UNKNOWN;"
                + "contents(1, 100, 0) = OUTSIDE; contents(1, 0, 0) = ROOM; event(1, lost) = LOST;"
                + "contents(2, 100, 0) = UNKNOWN; contents(1, 100, 0) = OUTSIDE; contents(1, 0, 0) = STATE");
    }

    private static void itemInOrder() {
        String full = letters(1, 120);
        runs.hold("OUTSIDE (kind, weight 1 .. 100000, size 0 .. 9, sender), ROOM, HEAVY, BULKY.",
            full + "item(4, 1, 0, 0) = OUTSIDE; item(0, 0, 0, 0) = OUTSIDE; item(0, 1, 10, 0) = OUTSIDE;"
            + "item(0, 1, 0, 100) = OUTSIDE; item(0, 100001, 0, 0) = OUTSIDE; item(0, 1, 0, -1) = OUTSIDE",
            "item(4, 31501, 0, 0) = OUTSIDE; item(0, 31501, 0, 100) = OUTSIDE; item(0, 31501, 10, 0) = OUTSIDE",
            "item(4, 1, 4, 0) = OUTSIDE; item(0, 0, 4, 0) = OUTSIDE; item(0, 1, 4, 100) = OUTSIDE",
            full + "item(0, 31501, 0, 0) = ROOM; item(0, 1, 4, 0) = ROOM; item(0, 31501, 4, 0) = ROOM",
            "item(0, 31501, 4, 0) = HEAVY; item(3, 100000, 9, 99) = HEAVY",
            full + "item(0, 31501, 4, 100) = OUTSIDE");
    }

    private static void serviceInOrder() {
        runs.hold("UNKNOWN, OUTSIDE, STATE (it has it, or is at an end), EXCLUDED less the least one that it has"
            + " and that excludes it, WANTED.",
            in("LOST") + "service(1, 6) = OUTSIDE; service(1, -1) = OUTSIDE",
            in("DELIVERED") + "service(1, 6) = OUTSIDE; service(1, 1) = STATE; service(1, 3) = STATE",
            ONE + "service(1, 2) = 1;" + way(1, "LOST") + "service(1, 1) = STATE; service(1, 3) = STATE",
            ONE + "service(1, 2) = 1; service(1, 1) = EXCLUDED-2; service(1, 3) = EXCLUDED-2",
            ONE + "service(1, 5) = 1; service(1, 3) = EXCLUDED-5; service(1, 4) = EXCLUDED-5",
            LETTER + "service(1, 0) = 1; service(1, 3) = 2; service(1, 5) = EXCLUDED-3; service(1, 4) = WANTED",
            "item(LARGE, 1, 0, 0) = 1; service(1, 0) = 1; service(1, 4) = 2; service(1, 5) = EXCLUDED-4;"
            + "correct(1, 0, LETTER, 1) = 1; service(1, 4) = STATE; service(1, 5) = EXCLUDED-4",
            ONE + "service(1, 5) = 1; correct(1, 0, LETTER, 1) = 1; service(1, 5) = STATE; service(1, 4) = EXCLUDED-5",
            LETTER + "event(1, lost) = LOST; service(1, 5) = STATE; service(1, 4) = STATE");
    }

    private static void eventInOrder() {
        runs.hold("UNKNOWN, OUTSIDE (0 .. 10), STATE, LATE, LACKS (contents), WAITS.",
            in("LOST") + "event(1, 11) = OUTSIDE; event(1, -1) = OUTSIDE; about(1, late) = 0",
            ONE + "event(1, damaged) = TOLD; event(1, 11) = OUTSIDE",
            ONE + "abroad(1, 1) = 1; event(1, sent) = STATE; event(1, taken) = IN; event(1, sent) = STATE;"
            + "event(1, sorted) = SORTED; event(1, sent) = LACKS; event(1, 11) = OUTSIDE; event(1, damaged) = SORTED;"
            + "event(1, sent) = STATE; event(1, lost) = LOST; event(1, sent) = LATE",
            two(true, "TOLD") + "event(2, delivered) = STATE; event(1, delivered) = WAITS; event(1, 11) = OUTSIDE;"
            + "event(1, damaged) = OUT; event(1, delivered) = STATE; event(1, lost) = LOST;"
            + "event(1, delivered) = LATE");
    }

    private static void addressInOrder() {
        runs.hold("UNKNOWN, OUTSIDE, STATE (it is at an end, or settled already, be which 0 or 1).",
            in("LOST") + "address(1, 2, 0) = OUTSIDE; address(1, 0, 10000) = OUTSIDE; address(1, 1, -1) = OUTSIDE",
            ONE + "address(1, 1, 0) = NONE; address(1, 2, 0) = OUTSIDE; address(1, -1, 0) = OUTSIDE;"
            + "address(1, 0, 10000) = OUTSIDE; address(1, 1, 10000) = OUTSIDE");
    }

    private static void abroadInOrder() {
        runs.hold("UNKNOWN, OUTSIDE, STATE (it does already, or is neither TOLD nor IN).",
            in("SORTED") + "abroad(1, 0) = OUTSIDE; abroad(1, 31) = OUTSIDE; abroad(1, 30) = STATE",
            ONE + "abroad(1, 1) = 1; abroad(1, 0) = OUTSIDE; abroad(1, 31) = OUTSIDE; abroad(1, 30) = STATE");
    }

    private static void contentsInOrder() {
        String four = ONE + "abroad(1, 1) = 1;" + each(1, 4, "contents(1, 0, 0) = $;");
        runs.hold("UNKNOWN, OUTSIDE, STATE (it does not go abroad, or is at an end), ROOM.",
            ONE + "contents(1, 100, 0) = OUTSIDE; contents(1, 0, 100001) = OUTSIDE; contents(1, 0, 0) = STATE",
            ONE + "abroad(1, 1) = 1; event(1, lost) = LOST; contents(1, -1, 0) = OUTSIDE;"
            + "contents(1, 0, -1) = OUTSIDE; contents(1, 0, 0) = STATE",
            four + "contents(1, 100, 0) = OUTSIDE; contents(1, 0, 100001) = OUTSIDE; contents(1, 0, 0) = ROOM;"
            + "event(1, lost) = LOST; contents(1, 100, 0) = OUTSIDE; contents(1, 0, 0) = STATE");
    }

    private static void joinInOrder() {
        runs.hold("UNKNOWN, OUTSIDE, STATE (it is in one, or at an end).",
            in("LOST") + "join(1, 0, true) = OUTSIDE; join(1, 31, true) = OUTSIDE; join(1, 1, true) = STATE",
            ONE + "join(1, 1, true) = 1; join(1, 0, true) = OUTSIDE; join(1, 31, true) = OUTSIDE;"
                + "join(1, 2, true) = STATE");
    }

    private static void bulkInOrder() {
        runs.hold("UNKNOWN, OUTSIDE, STATE (it belongs to one).",
            ONE + "bulk(1, 1) = 1; bulk(1, 0) = OUTSIDE; bulk(1, 21) = OUTSIDE; bulk(1, 20) = STATE");
    }

    private static void openInOrder() {
        runs.hold("UNKNOWN, OUTSIDE (persons), STATE (it is not DEAD, or damaged), ALONE (both are one).",
            ONE + "open(1, 20, 0) = OUTSIDE; open(1, 0, -1) = OUTSIDE; open(1, 20, 20) = OUTSIDE;"
                + "open(1, 0, 0) = STATE",
            in("DEAD") + "open(1, 20, 20) = OUTSIDE; open(1, -1, -1) = OUTSIDE; open(1, 0, 0) = ALONE;"
            + "event(1, damaged) = DEAD; open(1, 20, 0) = OUTSIDE; open(1, 20, 20) = OUTSIDE; open(1, 0, 0) = STATE");
    }

    private static void correctInOrder() {
        String rows = each(1, 200, "correct(1, 3, $, 1) = $;");
        runs.hold("UNKNOWN, OUTSIDE (also another what, reason), STATE (it is as it would be; of kinds when it"
            + " would be TURNED into the one that it has), ROOM, HEAVY, BULKY.",
            ONE + "correct(1, 1, 100, 0) = OUTSIDE; correct(1, 1, 100, 10) = OUTSIDE;"
                + "correct(1, 0, PACKET, 0) = OUTSIDE;"
            + "correct(1, 2, 0, 10) = OUTSIDE; correct(1, 1, 31501, 0) = OUTSIDE; correct(1, 2, 4, 10) = OUTSIDE;"
            + "correct(1, 3, -1, 1) = OUTSIDE; correct(1, 4, -1, 1) = OUTSIDE",
            ONE + rows + "correct(1, 5, 0, 1) = OUTSIDE; correct(1, 3, 1, 0) = OUTSIDE;"
                + "correct(1, 3, 10000, 1) = OUTSIDE;"
            + "correct(1, 3, 200, 1) = STATE; correct(1, 1, 100, 1) = STATE; correct(1, 2, 0, 1) = STATE;"
            + "correct(1, 0, PACKET, 1) = STATE; correct(1, 1, 31501, 1) = ROOM; correct(1, 2, 4, 1) = ROOM;"
            + "correct(1, 0, PARCEL, 1) = ROOM; correct(1, 4, 1, 1) = ROOM; correct(1, 1, 31501, 10) = OUTSIDE",
            "item(PARCEL, 2001, 0, 0) = 1;" + rows + "correct(1, 0, LETTER, 1) = STATE; correct(1, 1, 2000, 1) = ROOM");
    }

    /** Eight items, of which all but the last have all there is to have, in different states; rows; bytes. */
    private static String world() {
        return "item(PACKET, 100, 1, 7) = 1; item(LETTER, 20, 0, 8) = 2; item(PARCEL, 30000, 3, 9) = 3;"
            + "item(PARCEL, 4, 0, 10) = 4; item(LARGE, 51, 1, 11) = 5; item(PACKET, 600, 2, 12) = 6;"
            + "item(PACKET, 700, 2, 13) = 7; item(LETTER, 1, 0, 0) = 8;"
            + each(1, 7, "service($, 0) = 1; address($, 0, 1$) = NONE; address($, 1, 2$) = NONE;")
            + each(1, 7, "bulk($, 3) = $; join($, 5, true) = $;") + "join(8, 6, false) = 1;"
            + "service(1, 3) = 2; service(4, 4) = 2; service(7, 5) = 2;" + each(1, 6, "abroad($, 1$) = 1;")
            + "contents(1, 1, 70000) = 1; contents(2, 2, 1) = 1; contents(3, 3, 0) = 1; contents(6, 99, 100000) = 1;"
            + each(1, 4, "contents(4, $, $) = $;") + way(1, "SORTED") + way(2, "IN") + way(3, "OUT") + way(4, "DEAD")
            + way(5, "SORTED") + "event(6, damaged) = TOLD; event(6, lost) = LOST;" + way(7, "IN")
            + "correct(2, 1, 30, 9) = 1; correct(6, 3, 99, 8) = 2; pack(4) = 30;";
    }

    /** Every call with every refusal that it has, asked of that world; what is read and not there is among them. */
    private static void refusedChangesNothing() {
        String[] refused = {
            "item(4, 1, 0, 0) = OUTSIDE; item(0, 0, 0, 0) = OUTSIDE; item(0, 1, 10, 0) = OUTSIDE;"
                + "item(0, 1, 0, -1) = OUTSIDE",
            "item(0, 31501, 0, 0) = HEAVY; item(0, 1, 4, 0) = BULKY",
            "service(9, 0) = UNKNOWN; service(1, 6) = OUTSIDE; service(8, -1) = OUTSIDE; service(1, 0) = STATE;"
                + "service(6, 2) = STATE; service(1, 2) = EXCLUDED-3; service(1, 5) = EXCLUDED-3;"
                + "service(7, 4) = EXCLUDED-5",
            "service(2, 4) = WANTED; service(2, 5) = WANTED; service(5, 5) = WANTED; service(8, 1) = WANTED",
            "event(9, taken) = UNKNOWN; event(1, 11) = OUTSIDE; event(6, -1) = OUTSIDE; event(1, taken) = STATE;"
                + "event(1, resealed) = STATE; event(4, sorted) = STATE; event(3, dead) = STATE",
            "event(6, lost) = LATE", "event(6, resealed) = LATE", "event(6, damaged) = LATE", "event(6, taken) = LATE",
            "event(5, sent) = LACKS; event(3, delivered) = WAITS",
            "address(9, 0, 0) = UNKNOWN; address(1, 2, 0) = OUTSIDE; address(1, 0, 10000) = OUTSIDE;"
                + "address(8, 1, -1) = OUTSIDE;"
                + "address(1, 0, 1) = STATE; address(1, 1, 1) = STATE; address(6, 0, 1) = STATE",
            "abroad(9, 1) = UNKNOWN; abroad(1, 31) = OUTSIDE; abroad(7, 0) = OUTSIDE; abroad(2, 3) = STATE;"
                + "abroad(6, 1) = STATE; abroad(4, 1) = STATE",
            "contents(9, 0, 0) = UNKNOWN; contents(1, 100, 0) = OUTSIDE; contents(1, 0, 100001) = OUTSIDE;"
                + "contents(7, 0, 0) = STATE; contents(6, 0, 0) = STATE; contents(4, 0, 0) = ROOM",
            "join(9, 5, false) = UNKNOWN; join(1, 31, false) = OUTSIDE; join(7, 0, false) = OUTSIDE;"
                + "join(1, 6, true) = STATE; join(8, 5, false) = STATE; join(6, 9, true) = STATE",
            "bulk(9, 3) = UNKNOWN; bulk(1, 21) = OUTSIDE; bulk(8, 0) = OUTSIDE; bulk(1, 3) = STATE; bulk(7, 4) = STATE",
            "open(9, 0, 1) = UNKNOWN; open(4, 20, 0) = OUTSIDE; open(4, 0, -1) = OUTSIDE; open(4, 3, 3) = ALONE;"
                + "open(1, 0, 1) = STATE; open(6, 0, 1) = STATE",
            "correct(9, 1, 5, 1) = UNKNOWN; correct(1, 5, 0, 1) = OUTSIDE; correct(1, 1, 101, 0) = OUTSIDE;"
                + "correct(1, 1, 100001, 1) = OUTSIDE; correct(1, 1, 100, 1) = STATE; correct(3, 0, LETTER, 1) = STATE;"
                + "correct(1, 4, 21, 1) = STATE; correct(1, 1, 31501, 1) = HEAVY; correct(1, 2, 4, 1) = BULKY",
            "about(9, 0) = UNKNOWN; about(1, 14) = OUTSIDE; about(1, -1) = OUTSIDE; pack(9) = UNKNOWN;"
                + "pack(0) = UNKNOWN",
            "row(2, 0) = NONE; row(0, 5) = NONE; row(-1, 0) = NONE; octet(30) = NONE; octet(-1) = NONE;"
                + "aside(2) = NONE; aside(-1) = NONE",
        };
        String sentence = "A call that is refused changes nothing.";
        StringBuilder all = new StringBuilder();
        for (String each : refused) {
            runs.hold(sentence, world() + each);
            all.append(each).append(';');
        }
        runs.hold(sentence,
            world() + all + all + "about(6, late) = 8; octet(0) = 0; octet(1) = 4; octet(29) = 6;"
                + "item(LETTER, 1, 0, 0) = 9;"
                + "join(9, 5, false) = 8; bulk(9, 3) = 8; service(1, 4) = 3; contents(1, 1, 1) = 2;"
                + "contents(5, 1, 1) = 1;"
                + "event(5, sent) = ON_ITS_WAY; correct(2, 3, 9, 9) = 3; open(4, 5, 6) = 1; address(8, 0, 3) = NONE",
            world() + letters(9, 120) + "item(LETTER, 1, 0, 0) = ROOM; item(PARCEL, 1, 0, 0) = ROOM; pack(120) = 14",
            world() + each(3, 200, "correct(8, 3, $, 1) = $;") + "correct(1, 0, PARCEL, 1) = ROOM;"
                + "correct(1, 1, 2001, 1) = ROOM;"
                + "correct(1, 2, 3, 1) = ROOM; correct(1, 3, 5, 1) = ROOM; correct(1, 4, 5, 1) = ROOM;"
                + "correct(8, 3, 201, 1) = ROOM;"
                + "about(1, kind) = PACKET; about(1, weight) = 100; about(1, size) = 1; about(1, read) = 11;"
                + "about(1, settled) = 21; about(8, read) = 200; row(199, 3) = 200");
    }
}
