/** What is known of a post's items; the document's promises say what each call answers. */
public final class ItemFacts {
    public static final int UNKNOWN = -101, OUTSIDE = -102, STATE = -103, ROOM = -104, LATE = -105, LACKS = -106,
            WAITS = -107, ALONE = -108, HEAVY = -109, BULKY = -110, WANTED = -111;
    public static final int EXCLUDED = -200;
    public static final int NONE = -1;

    private static final int MOST_ITEMS = 120;
    private static final int MOST_ROWS = 200;
    private static final int MOST_CONTENTS = 4;
    private static final int MOST_SENDER = 99;
    private static final int MOST_ENTRY = 9999;
    private static final int MOST_LAND = 30;
    private static final int MOST_WHAT = 99;
    private static final int MOST_CENTS = 100000;
    private static final int MOST_CONSIGNMENT = 30;
    private static final int MOST_BULK = 20;
    private static final int MOST_PERSON = 19;
    private static final int MOST_REASON = 9;
    private static final int MOST_TOLD_WEIGHT = 100000;
    private static final int MOST_TOLD_SIZE = 9;

    private static final int LETTER = 0, PACKET = 2, PARCEL = 3;
    private static final int[] BEARS_WEIGHT = {50, 500, 2000, 31500};
    private static final int[] BEARS_SIZE = {0, 1, 2, 3};

    private static final int REGISTERED = 0, RETURN_SLIP = 1, BY_HAND = 3, INSURED = 4, COLD = 5;
    private static final int SERVICES = 6;
    /** For each service, as bits, those that do not go with it. */
    private static final int[] EXCLUDES = {0b000000, 0b000100, 0b001010, 0b100100, 0b100000, 0b011000};

    private static final int TOLD = 0, IN = 1, SORTED = 2, ON_ITS_WAY = 3, OUT = 4, DELIVERED = 5, HELD = 6,
            GOING_BACK = 7, DEAD = 8, LOST = 9;

    private static final int TAKE_IN = 0, SORT = 1, SEND_ON = 2, REACH_OFFICE = 3, DELIVER = 4, NOT_MEET = 5,
            SEND_BACK = 6, DAMAGE = 7, RESEAL = 8, GIVE_UP = 9, LOSE = 10;

    private static final int OF_KIND = 0, OF_WEIGHT = 1, OF_SIZE = 2, OF_READ = 3, OF_SETTLED = 4;

    private static final int READ = 0, SETTLED = 1;

    private static final int LAST_FACT = 13;

    private final Item[] items;
    private int itemCount;
    private final Correction[] corrections;
    private int correctionCount;
    private final int[] joined;
    private final boolean[] waiting;
    private final int[] bulked;
    private final Packed packed;

    public ItemFacts() {
        items = new Item[MOST_ITEMS];
        itemCount = 0;
        corrections = new Correction[MOST_ROWS];
        correctionCount = 0;
        joined = new int[MOST_CONSIGNMENT + 1];
        waiting = new boolean[MOST_CONSIGNMENT + 1];
        bulked = new int[MOST_BULK + 1];
        packed = new Packed();
    }

    public int item(int kind, int weight, int size, int sender) {
        if (!within(kind, LETTER, PARCEL) || !within(weight, 1, MOST_TOLD_WEIGHT)
                || !within(size, 0, MOST_TOLD_SIZE) || !within(sender, 0, MOST_SENDER)) {
            return OUTSIDE;
        }
        if (itemCount >= MOST_ITEMS) {
            return ROOM;
        }
        if (weight > BEARS_WEIGHT[PARCEL]) {
            return HEAVY;
        }
        if (size > BEARS_SIZE[PARCEL]) {
            return BULKY;
        }
        items[itemCount] = new Item(turned(kind, weight, size), weight, size, sender);
        itemCount++;
        return itemCount;
    }

    public int service(int item, int s) {
        Item found = find(item);
        if (found == null) {
            return UNKNOWN;
        }
        if (!within(s, 0, SERVICES - 1)) {
            return OUTSIDE;
        }
        if (found.has(s) || found.isAtEnd()) {
            return STATE;
        }
        int excluding = found.leastExcluding(s);
        if (excluding != NONE) {
            return EXCLUDED - excluding;
        }
        if (found.lacksWhatIsWanted(s)) {
            return WANTED;
        }
        found.services |= 1 << s;
        return Integer.bitCount(found.services);
    }

    public int event(int item, int kind) {
        Item found = find(item);
        if (found == null) {
            return UNKNOWN;
        }
        if (!within(kind, TAKE_IN, LOSE)) {
            return OUTSIDE;
        }
        if (found.isAtEnd()) {
            found.late++;
            return LATE;
        }
        int next = found.stateBehind(kind);
        if (next == NONE) {
            return STATE;
        }
        if (kind == SEND_ON && found.land != 0 && found.contentCount == 0) {
            return LACKS;
        }
        // What goes back does not wait for its consignment.
        if (kind == DELIVER && found.state == OUT && mustWait(found.consignment)) {
            return WAITS;
        }
        found.undergo(kind, next);
        return next;
    }

    public int address(int item, int which, int entry) {
        Item found = find(item);
        if (found == null) {
            return UNKNOWN;
        }
        if (!within(which, READ, SETTLED) || !within(entry, 0, MOST_ENTRY)) {
            return OUTSIDE;
        }
        if (found.isAtEnd() || found.settled != NONE) {
            return STATE;
        }
        int before;
        if (which == READ) {
            before = found.read;
            found.read = entry;
        } else {
            before = found.settled;
            found.settled = entry;
        }
        return before;
    }

    public int abroad(int item, int land) {
        Item found = find(item);
        if (found == null) {
            return UNKNOWN;
        }
        if (!within(land, 1, MOST_LAND)) {
            return OUTSIDE;
        }
        if (found.land != 0 || (found.state != TOLD && found.state != IN)) {
            return STATE;
        }
        found.land = land;
        return 1;
    }

    public int contents(int item, int what, int cents) {
        Item found = find(item);
        if (found == null) {
            return UNKNOWN;
        }
        if (!within(what, 0, MOST_WHAT) || !within(cents, 0, MOST_CENTS)) {
            return OUTSIDE;
        }
        if (found.land == 0 || found.isAtEnd()) {
            return STATE;
        }
        if (found.contentCount >= MOST_CONTENTS) {
            return ROOM;
        }
        found.whats[found.contentCount] = what;
        found.cents[found.contentCount] = cents;
        found.contentCount++;
        return found.contentCount;
    }

    public int join(int item, int consignment, boolean waits) {
        Item found = find(item);
        if (found == null) {
            return UNKNOWN;
        }
        if (!within(consignment, 1, MOST_CONSIGNMENT)) {
            return OUTSIDE;
        }
        if (found.consignment != 0 || found.isAtEnd()) {
            return STATE;
        }
        if (joined[consignment] == 0) {
            waiting[consignment] = waits;
        }
        found.consignment = consignment;
        joined[consignment]++;
        return joined[consignment];
    }

    public int bulk(int item, int number) {
        Item found = find(item);
        if (found == null) {
            return UNKNOWN;
        }
        if (!within(number, 1, MOST_BULK)) {
            return OUTSIDE;
        }
        if (found.bulkNumber != 0) {
            return STATE;
        }
        found.bulkNumber = number;
        bulked[number]++;
        return bulked[number];
    }

    public int open(int item, int a, int b) {
        Item found = find(item);
        if (found == null) {
            return UNKNOWN;
        }
        if (!within(a, 0, MOST_PERSON) || !within(b, 0, MOST_PERSON)) {
            return OUTSIDE;
        }
        if (found.state != DEAD || found.damaged) {
            return STATE;
        }
        if (a == b) {
            return ALONE;
        }
        found.state = IN;
        found.settled = NONE;
        found.openers = 100 * a + b;
        return 1;
    }

    public int correct(int item, int what, int v, int reason) {
        Item found = find(item);
        if (found == null) {
            return UNKNOWN;
        }
        if (!mayBecome(what, v) || !within(reason, 1, MOST_REASON)) {
            return OUTSIDE;
        }
        if (found.wouldStay(what, v)) {
            return STATE;
        }
        if (correctionCount >= MOST_ROWS) {
            return ROOM;
        }
        if (what == OF_WEIGHT && v > BEARS_WEIGHT[PARCEL]) {
            return HEAVY;
        }
        if (what == OF_SIZE && v > BEARS_SIZE[PARCEL]) {
            return BULKY;
        }
        corrections[correctionCount] = new Correction(item, what, found.correctable(what), v, reason);
        correctionCount++;
        found.become(what, v);
        return correctionCount;
    }

    public int row(int i, int what) {
        if (!within(i, 0, correctionCount - 1)) {
            return NONE;
        }
        Correction correction = corrections[i];
        if (correction == null) {
            return NONE;
        }
        return correction.part(what);
    }

    public int about(int item, int what) {
        Item found = find(item);
        if (found == null) {
            return UNKNOWN;
        }
        if (!within(what, 0, LAST_FACT)) {
            return OUTSIDE;
        }
        return found.fact(what);
    }

    public int pack(int item) {
        Item found = find(item);
        if (found == null) {
            return UNKNOWN;
        }
        packed.fill(item, found);
        return packed.length;
    }

    public int octet(int i) {
        return packed.at(i);
    }

    public int aside(int i) {
        if (i < 0) {
            return NONE;
        }
        int before = 0;
        for (int k = 0; k < itemCount; k++) {
            Item each = items[k];
            if (each != null && each.isSetAside()) {
                if (before == i) {
                    return k + 1;
                }
                before++;
            }
        }
        return NONE;
    }

    private static boolean within(int v, int least, int most) {
        return v >= least && v <= most;
    }

    private Item find(int number) {
        if (!within(number, 1, itemCount)) {
            return null;
        }
        return items[number - 1];
    }

    /** The least kind from the told one upwards that bears weight and size; PARCEL bears all that is let in. */
    private static int turned(int told, int weight, int size) {
        for (int kind = told; kind < PARCEL; kind++) {
            if (weight <= BEARS_WEIGHT[kind] && size <= BEARS_SIZE[kind]) {
                return kind;
            }
        }
        return PARCEL;
    }

    private boolean mustWait(int consignment) {
        if (!within(consignment, 1, MOST_CONSIGNMENT) || !waiting[consignment]) {
            return false;
        }
        for (int k = 0; k < itemCount; k++) {
            Item each = items[k];
            if (each != null && each.consignment == consignment && each.state != OUT && !each.isAtEnd()) {
                return true;
            }
        }
        return false;
    }

    private static boolean mayBecome(int what, int v) {
        switch (what) {
            case OF_KIND:
                return within(v, LETTER, PARCEL);
            case OF_WEIGHT:
                return within(v, 1, MOST_TOLD_WEIGHT);
            case OF_SIZE:
                return within(v, 0, MOST_TOLD_SIZE);
            case OF_READ:
            case OF_SETTLED:
                return within(v, 0, MOST_ENTRY);
            default:
                return false;
        }
    }

    /** One item, as it is now. */
    private static final class Item {
        private int kind;
        private int weight;
        private int size;
        private final int sender;
        private int services;
        private int state;
        private boolean damaged;
        private int read;
        private int settled;
        private int land;
        private int consignment;
        private int bulkNumber;
        private int late;
        private int openers;
        private int contentCount;
        private final int[] whats;
        private final int[] cents;

        private Item(int kind, int weight, int size, int sender) {
            this.kind = kind;
            this.weight = weight;
            this.size = size;
            this.sender = sender;
            services = 0;
            state = TOLD;
            damaged = false;
            read = NONE;
            settled = NONE;
            land = 0;
            consignment = 0;
            bulkNumber = 0;
            late = 0;
            openers = NONE;
            contentCount = 0;
            whats = new int[MOST_CONTENTS];
            cents = new int[MOST_CONTENTS];
        }

        private boolean has(int s) {
            return (services >> s & 1) == 1;
        }

        private boolean isAtEnd() {
            return state == DELIVERED || state == LOST;
        }

        private boolean isSetAside() {
            return damaged || state == DEAD;
        }

        private int leastExcluding(int s) {
            if (!within(s, 0, SERVICES - 1)) {
                return NONE;
            }
            int excluding = services & EXCLUDES[s];
            for (int other = 0; other < SERVICES; other++) {
                if ((excluding >> other & 1) == 1) {
                    return other;
                }
            }
            return NONE;
        }

        private boolean lacksWhatIsWanted(int s) {
            switch (s) {
                case RETURN_SLIP:
                case BY_HAND:
                    return !has(REGISTERED);
                case INSURED:
                    return !has(REGISTERED) || kind == LETTER;
                case COLD:
                    return kind < PACKET;
                default:
                    return false;
            }
        }

        /** The state behind an event of an item that is not at an end, or NONE where the event may not be. */
        private int stateBehind(int event) {
            if (damaged) {
                return event == RESEAL ? state : event == LOSE ? LOST : NONE;
            }
            switch (event) {
                case TAKE_IN:
                    return state == TOLD ? IN : NONE;
                case SORT:
                    if (state == GOING_BACK) {
                        return GOING_BACK;
                    }
                    return state == IN || state == ON_ITS_WAY ? SORTED : NONE;
                case SEND_ON:
                    return state == SORTED ? ON_ITS_WAY : NONE;
                case REACH_OFFICE:
                    return state == ON_ITS_WAY || state == HELD ? OUT : NONE;
                case DELIVER:
                    return state == OUT || state == GOING_BACK ? DELIVERED : NONE;
                case NOT_MEET:
                    return state == OUT ? HELD : NONE;
                case SEND_BACK:
                    return state == OUT || state == HELD ? GOING_BACK : NONE;
                case DAMAGE:
                    return state;
                case GIVE_UP:
                    return state == GOING_BACK || state == HELD ? DEAD : NONE;
                case LOSE:
                    return LOST;
                default:
                    return NONE;
            }
        }

        private void undergo(int event, int next) {
            state = next;
            if (event == DAMAGE) {
                damaged = true;
            } else if (event == RESEAL) {
                damaged = false;
            }
        }

        private int correctable(int what) {
            switch (what) {
                case OF_KIND:
                    return kind;
                case OF_WEIGHT:
                    return weight;
                case OF_SIZE:
                    return size;
                case OF_READ:
                    return read;
                case OF_SETTLED:
                    return settled;
                default:
                    return NONE;
            }
        }

        /** A kind that is told too small is TURNED, so the kind it would end as is what counts. */
        private boolean wouldStay(int what, int v) {
            if (what == OF_KIND) {
                return within(v, LETTER, PARCEL) && turned(v, weight, size) == kind;
            }
            return correctable(what) == v;
        }

        private void become(int what, int v) {
            switch (what) {
                case OF_KIND:
                    kind = v;
                    break;
                case OF_WEIGHT:
                    weight = v;
                    break;
                case OF_SIZE:
                    size = v;
                    break;
                case OF_READ:
                    read = v;
                    break;
                case OF_SETTLED:
                    settled = v;
                    break;
                default:
                    break;
            }
            kind = turned(kind, weight, size);
        }

        /** The numbers are those by which the document asks about an item. */
        private int fact(int what) {
            switch (what) {
                case 0:
                    return state;
                case 1:
                    return kind;
                case 2:
                    return weight;
                case 3:
                    return size;
                case 4:
                    return services;
                case 5:
                    return read;
                case 6:
                    return settled;
                case 7:
                    return land;
                case 8:
                    return consignment;
                case 9:
                    return bulkNumber;
                case 10:
                    return late;
                case 11:
                    return damaged ? 1 : 0;
                case 12:
                    return sender;
                case 13:
                    return openers;
                default:
                    return OUTSIDE;
            }
        }
    }

    /** One row of the corrections; it never changes. */
    private static final class Correction {
        private final int number;
        private final int what;
        private final int was;
        private final int told;
        private final int reason;

        private Correction(int number, int what, int was, int told, int reason) {
            this.number = number;
            this.what = what;
            this.was = was;
            this.told = told;
            this.reason = reason;
        }

        private int part(int which) {
            switch (which) {
                case 0:
                    return number;
                case 1:
                    return what;
                case 2:
                    return was;
                case 3:
                    return told;
                case 4:
                    return reason;
                default:
                    return NONE;
            }
        }
    }

    /** The bytes of the item that was packed last. */
    private static final class Packed {
        /** 13 bytes of the item itself, 4 for each row of contents, and the xor. */
        private static final int MOST_BYTES = 13 + 4 * MOST_CONTENTS + 1;

        private final int[] bytes;
        private int length;

        private Packed() {
            bytes = new int[MOST_BYTES];
            length = 0;
        }

        private int at(int i) {
            if (!within(i, 0, length - 1) || i >= MOST_BYTES) {
                return NONE;
            }
            return bytes[i];
        }

        private void fill(int number, Item from) {
            length = 0;
            addTwo(number);
            add(from.kind + 16 * from.size);
            addTwo(from.weight);
            add(from.services);
            add(from.damaged ? from.state + 128 : from.state);
            addEntry(from.read);
            addEntry(from.settled);
            add(from.land);
            add(from.contentCount);
            for (int k = 0; k < from.contentCount && k < MOST_CONTENTS; k++) {
                add(from.whats[k]);
                add(from.cents[k] >> 16);
                addTwo(from.cents[k]);
            }
            add(xorOfAll());
        }

        private void add(int v) {
            if (length < MOST_BYTES) {
                bytes[length] = v & 255;
                length++;
            }
        }

        private void addTwo(int v) {
            add(v >> 8);
            add(v);
        }

        private void addEntry(int entry) {
            addTwo(entry == NONE ? 255 * 256 + 255 : entry);
        }

        private int xorOfAll() {
            int xor = 0;
            for (int k = 0; k < length && k < MOST_BYTES; k++) {
                xor ^= bytes[k];
            }
            return xor;
        }
    }
}
