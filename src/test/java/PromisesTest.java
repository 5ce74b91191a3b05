/** For each promise of the document, calls with the answers that are due: ordinary, at the edges, wrong. */
public final class PromisesTest {
    private static final int UNKNOWN = -101, OUTSIDE = -102, STATE = -103, ROOM = -104, LATE = -105, LACKS = -106,
            WAITS = -107, ALONE = -108, HEAVY = -109, BULKY = -110, WANTED = -111, EXCLUDED = -200, NONE = -1;

    private static final int TOLD = 0, IN = 1, SORTED = 2, ON_ITS_WAY = 3, OUT = 4, DELIVERED = 5, HELD = 6,
            GOING_BACK = 7, DEAD = 8, LOST = 9;

    /** Events that lead a new item into each state, by the state's number. */
    private static final int[][] WAY_TO = {
        {}, {0}, {0, 1}, {0, 1, 2}, {0, 1, 2, 3}, {0, 1, 2, 3, 4}, {0, 1, 2, 3, 5}, {0, 1, 2, 3, 6},
        {0, 1, 2, 3, 5, 9}, {10},
    };

    private static final int[] WILD = {Integer.MIN_VALUE, -2, -1, Integer.MAX_VALUE};

    private static int wrong = 0;
    private static int asked = 0;

    private static void due(String what, int got, int want) {
        asked++;
        if (got != want) {
            wrong++;
            System.out.println(what + " answered " + got + ", due is " + want);
        }
    }

    public static void main(String[] args) {
        constants();
        promise1();
        promise2();
        promise3();
        promise3Wanted();
        promise4();
        promise4Damaged();
        promise4Late();
        promise4Lacks();
        promise4Waits();
        promise5();
        promise6();
        promise7();
        promise8();
        promise9();
        promise10();
        promise11();
        promise11Turned();
        promise11Room();
        promise12();
        promise13();
        promise14And15();
        promise16();
        System.out.println(asked + " answers looked at, " + wrong + " not as due");
        if (wrong != 0) {
            System.exit(1);
        }
    }

    private static void lead(ItemFacts x, int item, int state) {
        for (int event : WAY_TO[state]) {
            x.event(item, event);
        }
        due("lead to state " + state, x.about(item, 0), state);
    }

    /** A new object with one item in the state. */
    private static ItemFacts inState(int state) {
        ItemFacts x = new ItemFacts();
        due("item", x.item(2, 100, 0, 7), 1);
        lead(x, 1, state);
        return x;
    }

    private static boolean isEnd(int state) {
        return state == DELIVERED || state == LOST;
    }

    private static void constants() {
        due("UNKNOWN", ItemFacts.UNKNOWN, UNKNOWN);
        due("OUTSIDE", ItemFacts.OUTSIDE, OUTSIDE);
        due("STATE", ItemFacts.STATE, STATE);
        due("ROOM", ItemFacts.ROOM, ROOM);
        due("LATE", ItemFacts.LATE, LATE);
        due("LACKS", ItemFacts.LACKS, LACKS);
        due("WAITS", ItemFacts.WAITS, WAITS);
        due("ALONE", ItemFacts.ALONE, ALONE);
        due("HEAVY", ItemFacts.HEAVY, HEAVY);
        due("BULKY", ItemFacts.BULKY, BULKY);
        due("WANTED", ItemFacts.WANTED, WANTED);
        due("EXCLUDED", ItemFacts.EXCLUDED, EXCLUDED);
        due("NONE", ItemFacts.NONE, NONE);
    }

    private static void promise1() {
        ItemFacts x = new ItemFacts();
        due("about of a new object", x.about(1, 0), UNKNOWN);
        due("pack of a new object", x.pack(1), UNKNOWN);
        due("octet of a new object", x.octet(0), NONE);
        due("row of a new object", x.row(0, 0), NONE);
        due("aside of a new object", x.aside(0), NONE);
        ItemFacts y = new ItemFacts();
        due("item of x", x.item(0, 1, 0, 0), 1);
        due("objects share nothing", y.about(1, 0), UNKNOWN);
    }

    private static void promise2() {
        ItemFacts x = new ItemFacts();
        due("kind -1", x.item(-1, 1, 0, 0), OUTSIDE);
        due("kind 4", x.item(4, 1, 0, 0), OUTSIDE);
        due("weight 0", x.item(0, 0, 0, 0), OUTSIDE);
        due("weight 100001", x.item(0, 100001, 0, 0), OUTSIDE);
        due("weight 100000", x.item(0, 100000, 0, 0), HEAVY);
        due("size -1", x.item(0, 1, -1, 0), OUTSIDE);
        due("size 10", x.item(0, 1, 10, 0), OUTSIDE);
        due("size 9", x.item(0, 1, 9, 0), BULKY);
        due("size 4", x.item(3, 1, 4, 0), BULKY);
        due("sender -1", x.item(0, 1, 0, -1), OUTSIDE);
        due("sender 100", x.item(0, 1, 0, 100), OUTSIDE);
        due("heavy before bulky", x.item(0, 31501, 4, 0), HEAVY);
        due("outside before heavy", x.item(0, 31501, 4, 100), OUTSIDE);
        for (int w : WILD) {
            due("wild kind", x.item(w, 1, 0, 0), OUTSIDE);
            due("wild weight", x.item(0, w, 0, 0), OUTSIDE);
            due("wild size", x.item(0, 1, w, 0), OUTSIDE);
            due("wild sender", x.item(0, 1, 0, w), OUTSIDE);
        }
        int[][] told = {
            {0, 1, 0, 0}, {0, 50, 0, 0}, {0, 51, 0, 1}, {0, 50, 1, 1}, {1, 500, 1, 1}, {1, 501, 1, 2}, {1, 500, 2, 2},
            {2, 2000, 2, 2}, {2, 2001, 2, 3}, {2, 2000, 3, 3}, {3, 31500, 3, 3}, {0, 31500, 0, 3}, {0, 1, 3, 3},
            {3, 1, 0, 3}, {1, 1, 0, 1}, {0, 501, 0, 2}, {0, 2001, 0, 3}, {0, 1, 2, 2},
        };
        for (int k = 0; k < told.length; k++) {
            due("item " + k, x.item(told[k][0], told[k][1], told[k][2], 99), k + 1);
            due("kind of item " + k, x.about(k + 1, 1), told[k][3]);
        }
        for (int k = told.length + 1; k <= 120; k++) {
            due("item " + k, x.item(0, 1, 0, 0), k);
        }
        due("the 121st", x.item(0, 1, 0, 0), ROOM);
        due("room before heavy", x.item(0, 31501, 0, 0), ROOM);
        due("room before bulky", x.item(0, 1, 4, 0), ROOM);
        due("outside before room", x.item(0, 0, 0, 0), OUTSIDE);
        due("the 120th is there", x.about(120, 0), TOLD);
        due("no 121st", x.about(121, 0), UNKNOWN);
    }

    private static void promise3() {
        boolean[][] excluded = new boolean[6][6];
        int[][] pairs = {{2, 3}, {1, 2}, {4, 5}, {5, 3}};
        for (int[] pair : pairs) {
            excluded[pair[0]][pair[1]] = true;
            excluded[pair[1]][pair[0]] = true;
        }
        for (int first = 1; first < 6; first++) {
            for (int second = 1; second < 6; second++) {
                ItemFacts x = inState(TOLD);
                due("registered", x.service(1, 0), 1);
                due("first " + first, x.service(1, first), 2);
                int want = first == second ? STATE : excluded[first][second] ? EXCLUDED - first : 3;
                due("service " + second + " with " + first, x.service(1, second), want);
                int bits = 1 | 1 << first | (want == 3 ? 1 << second : 0);
                due("bits", x.about(1, 4), bits);
            }
        }
        ItemFacts x = inState(TOLD);
        due("0", x.service(1, 0), 1);
        due("1", x.service(1, 1), 2);
        due("3", x.service(1, 3), 3);
        due("2 with 1 and 3: the least", x.service(1, 2), EXCLUDED - 1);
        due("4", x.service(1, 4), 4);
        due("5 with 3 and 4: the least", x.service(1, 5), EXCLUDED - 3);
        due("s -1", x.service(1, -1), OUTSIDE);
        due("s 6", x.service(1, 6), OUTSIDE);
        due("unknown before outside", x.service(2, 6), UNKNOWN);
        for (int w : WILD) {
            due("wild s", x.service(1, w), OUTSIDE);
            due("wild item", x.service(w, 0), UNKNOWN);
        }
        for (int state = TOLD; state <= LOST; state++) {
            due("service in state " + state, inState(state).service(1, 0), isEnd(state) ? STATE : 1);
        }
        for (int first : new int[] {2, 5}) {
            x = inState(TOLD);
            due("first " + first, x.service(1, first), 1);
            due("registered goes with all", x.service(1, 0), 2);
        }
        x = inState(TOLD);
        for (int s : new int[] {0, 1, 3, 4}) {
            x.service(1, s);
        }
        due("all but 2 and 5", x.about(1, 4), 27);
        x = inState(DELIVERED);
        due("at an end before wanted", x.service(1, 1), STATE);
        due("outside before at an end", x.service(1, 6), OUTSIDE);
        x = inState(IN);
        x.event(1, 7);
        due("a damaged item has services", x.service(1, 2), 1);
    }

    private static void promise3Wanted() {
        for (int kind = 0; kind <= 3; kind++) {
            ItemFacts x = new ItemFacts();
            due("item", x.item(kind, 1, 0, 0), 1);
            due("1 not registered", x.service(1, 1), WANTED);
            due("3 not registered", x.service(1, 3), WANTED);
            due("4 not registered", x.service(1, 4), WANTED);
            due("wanted changes nothing", x.about(1, 4), 0);
            due("2 wants nothing", x.service(1, 2), 1);
            due("3 excluded before wanted", x.service(1, 3), EXCLUDED - 2);
            ItemFacts y = new ItemFacts();
            due("item", y.item(kind, 1, 0, 0), 1);
            due("5 of kind " + kind, y.service(1, 5), kind >= 2 ? 1 : WANTED);
            ItemFacts z = new ItemFacts();
            due("item", z.item(kind, 1, 0, 0), 1);
            due("registered", z.service(1, 0), 1);
            due("4 of kind " + kind, z.service(1, 4), kind >= 1 ? 2 : WANTED);
        }
        ItemFacts x = new ItemFacts();
        due("a turned item", x.item(0, 501, 0, 0), 1);
        due("has the kind that it was turned into", x.service(1, 5), 1);
    }

    private static void promise4() {
        int[][] leads = new int[11][10];
        for (int[] line : leads) {
            java.util.Arrays.fill(line, STATE);
        }
        leads[0][TOLD] = IN;
        leads[1][IN] = SORTED;
        leads[1][ON_ITS_WAY] = SORTED;
        leads[1][GOING_BACK] = GOING_BACK;
        leads[2][SORTED] = ON_ITS_WAY;
        leads[3][ON_ITS_WAY] = OUT;
        leads[3][HELD] = OUT;
        leads[4][OUT] = DELIVERED;
        leads[4][GOING_BACK] = DELIVERED;
        leads[5][OUT] = HELD;
        leads[6][OUT] = GOING_BACK;
        leads[6][HELD] = GOING_BACK;
        leads[9][GOING_BACK] = DEAD;
        leads[9][HELD] = DEAD;
        for (int state = TOLD; state <= LOST; state++) {
            leads[7][state] = state;
            leads[10][state] = LOST;
        }
        for (int state = TOLD; state <= LOST; state++) {
            for (int event = 0; event <= 10; event++) {
                ItemFacts x = inState(state);
                int want = isEnd(state) ? LATE : leads[event][state];
                due("event " + event + " in state " + state, x.event(1, event), want);
                due("state then", x.about(1, 0), want < 0 ? state : want);
                due("damaged then", x.about(1, 11), event == 7 && !isEnd(state) ? 1 : 0);
                due("late then", x.about(1, 10), isEnd(state) ? 1 : 0);
            }
        }
        ItemFacts x = inState(TOLD);
        due("event -1", x.event(1, -1), OUTSIDE);
        due("event 11", x.event(1, 11), OUTSIDE);
        due("unknown before outside", x.event(0, 11), UNKNOWN);
        for (int w : WILD) {
            due("wild event", x.event(1, w), OUTSIDE);
            due("wild item", x.event(w, 0), UNKNOWN);
        }
    }

    private static void promise4Damaged() {
        for (int state = TOLD; state <= LOST; state++) {
            if (isEnd(state)) {
                continue;
            }
            for (int event = 0; event <= 10; event++) {
                ItemFacts x = inState(state);
                due("damaged", x.event(1, 7), state);
                int want = event == 8 ? state : event == 10 ? LOST : STATE;
                due("event " + event + " of a damaged one in state " + state, x.event(1, event), want);
                due("state then", x.about(1, 0), want == STATE ? state : want);
                due("damaged then", x.about(1, 11), event == 8 ? 0 : 1);
            }
        }
        ItemFacts x = inState(OUT);
        due("damaged", x.event(1, 7), OUT);
        due("not delivered", x.event(1, 4), STATE);
        due("resealed", x.event(1, 8), OUT);
        due("resealed again", x.event(1, 8), STATE);
        due("delivered", x.event(1, 4), DELIVERED);
    }

    private static void promise4Late() {
        ItemFacts x = inState(IN);
        x.event(1, 7);
        due("a damaged one is lost", x.event(1, 10), LOST);
        for (int event = 0; event <= 10; event++) {
            due("late, damaged, event " + event, x.event(1, event), LATE);
            due("counted", x.about(1, 10), event + 1);
            due("state stays", x.about(1, 0), LOST);
            due("damage stays", x.about(1, 11), 1);
        }
        due("outside before late", x.event(1, 11), OUTSIDE);
        due("outside is not counted", x.about(1, 10), 11);
        x = inState(TOLD);
        due("STATE", x.event(1, 9), STATE);
        due("STATE is not counted", x.about(1, 10), 0);
    }

    private static void promise4Lacks() {
        ItemFacts x = inState(IN);
        due("abroad", x.abroad(1, 30), 1);
        due("not sorted yet: STATE before LACKS", x.event(1, 2), STATE);
        due("sorted", x.event(1, 1), SORTED);
        due("lacks contents", x.event(1, 2), LACKS);
        due("state stays", x.about(1, 0), SORTED);
        due("not counted as late", x.about(1, 10), 0);
        x.event(1, 7);
        due("damaged: STATE before LACKS", x.event(1, 2), STATE);
        x.event(1, 8);
        due("contents", x.contents(1, 0, 0), 1);
        due("sent on", x.event(1, 2), ON_ITS_WAY);
    }

    private static ItemFacts consignment(boolean waits, int second) {
        ItemFacts x = inState(OUT);
        due("item 2", x.item(0, 1, 0, 0), 2);
        due("first joins", x.join(1, 30, waits), 1);
        due("second joins", x.join(2, 30, !waits), 2);
        lead(x, 2, second);
        return x;
    }

    private static void promise4Waits() {
        for (int second = TOLD; second <= LOST; second++) {
            if (second != DELIVERED) {
                boolean ready = second == OUT || second == LOST;
                ItemFacts x = consignment(true, second);
                due("delivered while the other is " + second, x.event(1, 4), ready ? DELIVERED : WAITS);
                due("state then", x.about(1, 0), ready ? DELIVERED : OUT);
                due("none waits", consignment(false, second).event(1, 4), DELIVERED);
            }
        }
        ItemFacts x = consignment(true, OUT);
        due("one", x.event(2, 4), DELIVERED);
        due("then the other", x.event(1, 4), DELIVERED);
        x = consignment(true, IN);
        due("goes back", x.event(1, 6), GOING_BACK);
        due("what goes back does not wait", x.event(1, 4), DELIVERED);
        x = consignment(true, GOING_BACK);
        due("what goes back is waited for", x.event(1, 4), WAITS);
        due("it is back", x.event(2, 4), DELIVERED);
        due("no more to wait for", x.event(1, 4), DELIVERED);
        x = consignment(true, IN);
        due("STATE before WAITS", x.event(2, 4), STATE);
        x = consignment(true, OUT);
        x.event(2, 7);
        due("a damaged one that is OUT is not waited for", x.event(1, 4), DELIVERED);
        x = consignment(true, OUT);
        due("item 3", x.item(0, 1, 0, 0), 3);
        due("another consignment", x.join(3, 29, true), 1);
        due("is not waited for", x.event(1, 4), DELIVERED);
        x = inState(OUT);
        due("item 2", x.item(0, 1, 0, 0), 2);
        due("alone in none", x.event(1, 4), DELIVERED);
        x = inState(IN);
        for (int k = 2; k <= 120; k++) {
            due("item", x.item(0, 1, 0, 0), k);
        }
        due("item 1 joins", x.join(1, 1, true), 1);
        due("item 120 joins", x.join(120, 1, false), 2);
        lead(x, 120, OUT);
        due("waits for item 1", x.event(120, 4), WAITS);
        x.event(1, 10);
        due("waits no more", x.event(120, 4), DELIVERED);
    }

    private static void promise5() {
        ItemFacts x = inState(TOLD);
        due("read", x.address(1, 0, 0), NONE);
        due("read again", x.address(1, 0, 9999), 0);
        due("as read", x.about(1, 5), 9999);
        due("which -1", x.address(1, -1, 0), OUTSIDE);
        due("which 2", x.address(1, 2, 0), OUTSIDE);
        due("entry -1", x.address(1, 0, -1), OUTSIDE);
        due("entry 10000", x.address(1, 0, 10000), OUTSIDE);
        due("unknown before outside", x.address(2, 2, 0), UNKNOWN);
        due("same entry", x.address(1, 0, 9999), 9999);
        due("settled", x.address(1, 1, 0), NONE);
        due("settled already, 1", x.address(1, 1, 5), STATE);
        due("settled already, 0", x.address(1, 0, 5), STATE);
        due("outside before state", x.address(1, 0, 10000), OUTSIDE);
        due("read stays", x.about(1, 5), 9999);
        due("settled stays", x.about(1, 6), 0);
        for (int w : WILD) {
            due("wild item", x.address(w, 0, 0), UNKNOWN);
            due("wild which", x.address(1, w, 0), OUTSIDE);
            due("wild entry", x.address(1, 0, w), OUTSIDE);
        }
        for (int state = TOLD; state <= LOST; state++) {
            due("read in state " + state, inState(state).address(1, 0, 1), isEnd(state) ? STATE : NONE);
            due("settled in state " + state, inState(state).address(1, 1, 1), isEnd(state) ? STATE : NONE);
        }
    }

    private static void promise6() {
        for (int state = TOLD; state <= LOST; state++) {
            ItemFacts x = inState(state);
            boolean may = state == TOLD || state == IN;
            due("abroad in state " + state, x.abroad(1, 1), may ? 1 : STATE);
            due("land", x.about(1, 7), may ? 1 : 0);
            due("again", x.abroad(1, 2), STATE);
            due("land stays", x.about(1, 7), may ? 1 : 0);
        }
        ItemFacts x = inState(TOLD);
        due("land 0", x.abroad(1, 0), OUTSIDE);
        due("land 31", x.abroad(1, 31), OUTSIDE);
        due("unknown before outside", x.abroad(2, 0), UNKNOWN);
        for (int w : WILD) {
            due("wild item", x.abroad(w, 1), UNKNOWN);
            due("wild land", x.abroad(1, w), OUTSIDE);
        }
        x.event(1, 7);
        due("damaged, land 30", x.abroad(1, 30), 1);
        due("outside before state", x.abroad(1, 31), OUTSIDE);
    }

    private static void promise7() {
        ItemFacts x = inState(TOLD);
        due("not abroad", x.contents(1, 0, 0), STATE);
        due("outside before state", x.contents(1, 100, 0), OUTSIDE);
        due("unknown before outside", x.contents(2, 100, 0), UNKNOWN);
        due("abroad", x.abroad(1, 1), 1);
        due("what -1", x.contents(1, -1, 0), OUTSIDE);
        due("cents -1", x.contents(1, 0, -1), OUTSIDE);
        due("cents 100001", x.contents(1, 0, 100001), OUTSIDE);
        for (int w : WILD) {
            due("wild item", x.contents(w, 0, 0), UNKNOWN);
            due("wild what", x.contents(1, w, 0), OUTSIDE);
            due("wild cents", x.contents(1, 0, w), OUTSIDE);
        }
        due("1st", x.contents(1, 0, 0), 1);
        due("2nd", x.contents(1, 99, 100000), 2);
        due("3rd", x.contents(1, 0, 0), 3);
        due("4th", x.contents(1, 5, 5), 4);
        due("5th", x.contents(1, 5, 5), ROOM);
        due("outside before room", x.contents(1, 5, 100001), OUTSIDE);
        x.event(1, 10);
        due("state before room", x.contents(1, 5, 5), STATE);
        for (int state = TOLD; state <= LOST; state++) {
            ItemFacts y = inState(TOLD);
            due("abroad", y.abroad(1, 1), 1);
            due("1st", y.contents(1, 1, 1), 1);
            lead(y, 1, state);
            due("contents in state " + state, y.contents(1, 2, 2), isEnd(state) ? STATE : 2);
        }
    }

    private static void promise8() {
        ItemFacts x = inState(TOLD);
        due("0", x.join(1, 0, true), OUTSIDE);
        due("31", x.join(1, 31, true), OUTSIDE);
        due("unknown before outside", x.join(2, 0, true), UNKNOWN);
        for (int w : WILD) {
            due("wild item", x.join(w, 1, true), UNKNOWN);
            due("wild consignment", x.join(1, w, true), OUTSIDE);
        }
        due("joins", x.join(1, 1, false), 1);
        due("joins again", x.join(1, 1, false), STATE);
        due("joins another", x.join(1, 2, false), STATE);
        due("outside before state", x.join(1, 31, false), OUTSIDE);
        due("consignment", x.about(1, 8), 1);
        due("item 2", x.item(0, 1, 0, 0), 2);
        due("joins, too", x.join(2, 1, false), 2);
        due("item 3", x.item(0, 1, 0, 0), 3);
        due("joins 30", x.join(3, 30, false), 1);
        for (int state = TOLD; state <= LOST; state++) {
            ItemFacts y = inState(state);
            due("join in state " + state, y.join(1, 30, true), isEnd(state) ? STATE : 1);
            due("consignment then", y.about(1, 8), isEnd(state) ? 0 : 30);
        }
        ItemFacts y = inState(LOST);
        due("item 2", y.item(0, 1, 0, 0), 2);
        due("item 3", y.item(0, 1, 0, 0), 3);
        due("refused", y.join(1, 4, true), STATE);
        due("so this is the first, and waits for none", y.join(2, 4, false), 1);
        due("the second", y.join(3, 4, true), 2);
        lead(y, 2, DELIVERED);
    }

    private static void promise9() {
        ItemFacts x = inState(TOLD);
        due("0", x.bulk(1, 0), OUTSIDE);
        due("21", x.bulk(1, 21), OUTSIDE);
        due("unknown before outside", x.bulk(2, 0), UNKNOWN);
        for (int w : WILD) {
            due("wild item", x.bulk(w, 1), UNKNOWN);
            due("wild number", x.bulk(1, w), OUTSIDE);
        }
        due("bulk 20", x.bulk(1, 20), 1);
        due("again", x.bulk(1, 20), STATE);
        due("another", x.bulk(1, 1), STATE);
        due("outside before state", x.bulk(1, 21), OUTSIDE);
        due("belongs", x.about(1, 9), 20);
        due("item 2", x.item(0, 1, 0, 0), 2);
        due("two", x.bulk(2, 20), 2);
        for (int state = TOLD; state <= LOST; state++) {
            due("bulk in state " + state, inState(state).bulk(1, 1), 1);
        }
    }

    private static void promise10() {
        for (int state = TOLD; state <= LOST; state++) {
            ItemFacts x = inState(state);
            due("opened in state " + state, x.open(1, 0, 19), state == DEAD ? 1 : STATE);
            due("state then", x.about(1, 0), state == DEAD ? IN : state);
            due("persons", x.about(1, 13), state == DEAD ? 19 : NONE);
        }
        ItemFacts x = inState(OUT);
        due("read", x.address(1, 0, 11), NONE);
        due("settled", x.address(1, 1, 12), NONE);
        x.event(1, 5);
        due("STATE before ALONE", x.open(1, 3, 3), STATE);
        x.event(1, 9);
        for (int w : WILD) {
            due("wild item", x.open(w, 0, 1), UNKNOWN);
            due("wild a", x.open(1, w, 1), OUTSIDE);
            due("wild b", x.open(1, 1, w), OUTSIDE);
        }
        due("a 20", x.open(1, 20, 1), OUTSIDE);
        due("b 20", x.open(1, 1, 20), OUTSIDE);
        due("outside before alone", x.open(1, 20, 20), OUTSIDE);
        due("alone", x.open(1, 3, 3), ALONE);
        due("still settled", x.about(1, 6), 12);
        x.event(1, 7);
        due("damaged", x.open(1, 3, 4), STATE);
        due("damaged before alone", x.open(1, 3, 3), STATE);
        x.event(1, 8);
        due("opened", x.open(1, 19, 18), 1);
        due("persons", x.about(1, 13), 1918);
        due("settled is gone", x.about(1, 6), NONE);
        due("read stays", x.about(1, 5), 11);
        due("read anew", x.address(1, 0, 13), 11);
        due("settled anew", x.address(1, 1, 14), NONE);
        due("opened again", x.open(1, 1, 2), STATE);
        for (int event : new int[] {1, 2, 3, 5, 9}) {
            x.event(1, event);
        }
        due("opened a second time", x.open(1, 2, 1), 1);
        due("persons who did last", x.about(1, 13), 201);
        x = inState(DEAD);
        due("person 0 as the second", x.open(1, 19, 0), 1);
        due("persons", x.about(1, 13), 1900);
    }

    private static void promise11() {
        ItemFacts x = new ItemFacts();
        due("item", x.item(1, 100, 1, 0), 1);
        int[][] outside = {
            {-1, 0}, {5, 0}, {0, -1}, {0, 4}, {1, 0}, {1, 100001}, {2, -1}, {2, 10}, {3, -1}, {3, 10000}, {4, -1},
            {4, 10000}, {Integer.MIN_VALUE, 0}, {Integer.MAX_VALUE, 0}, {1, Integer.MIN_VALUE}, {1, Integer.MAX_VALUE},
        };
        for (int[] call : outside) {
            due("what " + call[0] + " v " + call[1], x.correct(1, call[0], call[1], 1), OUTSIDE);
            due("unknown before outside", x.correct(2, call[0], call[1], 1), UNKNOWN);
        }
        due("reason 0", x.correct(1, 1, 101, 0), OUTSIDE);
        due("reason 10", x.correct(1, 1, 101, 10), OUTSIDE);
        due("outside before state", x.correct(1, 1, 100, 10), OUTSIDE);
        for (int w : WILD) {
            due("wild item", x.correct(w, 1, 101, 1), UNKNOWN);
            due("wild reason", x.correct(1, 1, 101, w), OUTSIDE);
        }
        due("same kind", x.correct(1, 0, 1, 1), STATE);
        due("same weight", x.correct(1, 1, 100, 1), STATE);
        due("same size", x.correct(1, 2, 1, 1), STATE);
        due("heavy", x.correct(1, 1, 31501, 1), HEAVY);
        due("heavy at most", x.correct(1, 1, 100000, 1), HEAVY);
        due("bulky", x.correct(1, 2, 4, 1), BULKY);
        due("bulky at most", x.correct(1, 2, 9, 1), BULKY);
        due("no row was made", x.row(0, 0), NONE);
        due("read", x.correct(1, 3, 0, 9), 1);
        due("read again", x.correct(1, 3, 0, 9), STATE);
        due("as read", x.about(1, 5), 0);
        due("settled", x.correct(1, 4, 9999, 1), 2);
        due("settled again", x.correct(1, 4, 9999, 1), STATE);
        due("as settled", x.about(1, 6), 9999);
        due("a correction settles", x.address(1, 0, 5), STATE);
        due("read is corrected though settled", x.correct(1, 3, 9999, 1), 3);
        due("settled is corrected though settled", x.correct(1, 4, 0, 1), 4);
        due("as settled then", x.about(1, 6), 0);
        for (int state = TOLD; state <= LOST; state++) {
            ItemFacts y = inState(state);
            due("corrected in state " + state, y.correct(1, 1, 200, 1), 1);
            due("weight", y.about(1, 2), 200);
            y.event(1, 7);
            due("damaged in state " + state, y.correct(1, 4, 200, 1), 2);
            due("state stays", y.about(1, 0), state);
        }
    }

    private static void promise11Turned() {
        ItemFacts x = new ItemFacts();
        due("item", x.item(0, 50, 0, 0), 1);
        due("weight 51", x.correct(1, 1, 51, 1), 1);
        due("turned", x.about(1, 1), 1);
        due("weight 50", x.correct(1, 1, 50, 1), 2);
        due("not turned downwards", x.about(1, 1), 1);
        due("kind 0 is borne again", x.correct(1, 0, 0, 1), 3);
        due("kind then", x.about(1, 1), 0);
        due("size 3", x.correct(1, 2, 3, 1), 4);
        due("turned over two", x.about(1, 1), 3);
        due("kind 0 would be turned into 3", x.correct(1, 0, 0, 1), STATE);
        due("kind 2 would be turned into 3", x.correct(1, 0, 2, 1), STATE);
        due("size 1", x.correct(1, 2, 1, 1), 5);
        due("kind 0 is turned into 1", x.correct(1, 0, 0, 7), 6);
        due("kind then", x.about(1, 1), 1);
        due("row tells the kind as it was told", x.row(5, 3), 0);
        due("row tells the kind that was", x.row(5, 2), 3);
        due("one row alone", x.row(6, 0), NONE);
        due("kind 3", x.correct(1, 0, 3, 1), 7);
        due("registered", x.service(1, 0), 1);
        due("cold", x.service(1, 5), 2);
        due("kind 1", x.correct(1, 0, 1, 1), 8);
        due("services stay", x.about(1, 4), 33);
        due("weight 31500", x.correct(1, 1, 31500, 1), 9);
        due("a parcel", x.about(1, 1), 3);
        due("size 2", x.correct(1, 2, 2, 1), 10);
        due("weight 1", x.correct(1, 1, 1, 1), 11);
        due("kind 1 is turned into 2", x.correct(1, 0, 1, 1), 12);
        due("kind then", x.about(1, 1), 2);
        due("kind 0 would be the same", x.correct(1, 0, 0, 1), STATE);
        due("size 0", x.correct(1, 2, 0, 1), 13);
        due("size then", x.about(1, 3), 0);
    }

    private static void promise11Room() {
        ItemFacts x = inState(TOLD);
        for (int k = 1; k <= 200; k++) {
            due("row " + k, x.correct(1, 3, k, 1 + k % 9), k);
        }
        due("the 201st", x.correct(1, 3, 9, 1), ROOM);
        due("room before heavy", x.correct(1, 1, 31501, 1), ROOM);
        due("room before bulky", x.correct(1, 2, 9, 1), ROOM);
        due("state before room", x.correct(1, 3, 200, 1), STATE);
        due("outside before room", x.correct(1, 3, 10000, 1), OUTSIDE);
        due("refused, nothing changed", x.about(1, 5), 200);
        due("the last row", x.row(199, 3), 200);
        due("the last row's was", x.row(199, 2), 199);
        due("the first row stays", x.row(0, 3), 1);
        due("no row 200", x.row(200, 0), NONE);
    }

    private static void rowIs(ItemFacts x, int i, int... parts) {
        for (int k = 0; k < 5; k++) {
            due("row " + i + " part " + k, x.row(i, k), parts[k]);
        }
        due("part -1", x.row(i, -1), NONE);
        due("part 5", x.row(i, 5), NONE);
        for (int w : WILD) {
            due("wild part", x.row(i, w), NONE);
        }
    }

    private static void promise12() {
        ItemFacts x = inState(TOLD);
        due("item 2", x.item(1, 10, 0, 0), 2);
        due("kind of 2", x.correct(2, 0, 3, 9), 1);
        due("weight of 1", x.correct(1, 1, 2001, 8), 2);
        due("size of 2", x.correct(2, 2, 1, 7), 3);
        due("read of 1", x.correct(1, 3, 0, 6), 4);
        due("settled of 2", x.correct(2, 4, 9999, 5), 5);
        due("settled of 2 again", x.correct(2, 4, 1, 1), 6);
        rowIs(x, 0, 2, 0, 1, 3, 9);
        rowIs(x, 1, 1, 1, 100, 2001, 8);
        rowIs(x, 2, 2, 2, 0, 1, 7);
        rowIs(x, 3, 1, 3, NONE, 0, 6);
        rowIs(x, 4, 2, 4, NONE, 9999, 5);
        rowIs(x, 5, 2, 4, 9999, 1, 1);
        for (int k = -1; k <= 5; k++) {
            due("row 6", x.row(6, k), NONE);
            for (int w : WILD) {
                due("wild row", x.row(w, k), NONE);
            }
        }
    }

    private static void factsAre(ItemFacts x, int item, int... facts) {
        for (int k = 0; k < 14; k++) {
            due("fact " + k + " of item " + item, x.about(item, k), facts[k]);
        }
    }

    private static void promise13() {
        ItemFacts x = new ItemFacts();
        due("item 1", x.item(0, 31500, 3, 99), 1);
        factsAre(x, 1, 0, 3, 31500, 3, 0, NONE, NONE, 0, 0, 0, 0, 0, 99, NONE);
        due("item 2", x.item(2, 60, 1, 5), 2);
        x.service(2, 0);
        x.service(2, 4);
        x.address(2, 0, 21);
        x.abroad(2, 22);
        x.contents(2, 1, 1);
        x.join(2, 23, true);
        x.bulk(2, 14);
        lead(x, 2, DEAD);
        x.open(2, 6, 7);
        x.address(2, 1, 24);
        x.event(2, 7);
        x.event(2, 10);
        x.event(2, 10);
        x.event(2, 8);
        factsAre(x, 2, 9, 2, 60, 1, 17, 21, 24, 22, 23, 14, 2, 1, 5, 607);
        factsAre(x, 1, 0, 3, 31500, 3, 0, NONE, NONE, 0, 0, 0, 0, 0, 99, NONE);
        due("what -1", x.about(1, -1), OUTSIDE);
        due("what 14", x.about(1, 14), OUTSIDE);
        due("item 0", x.about(0, 0), UNKNOWN);
        due("item 3, what 14", x.about(3, 14), UNKNOWN);
        for (int w : WILD) {
            due("wild item", x.about(w, 0), UNKNOWN);
            due("wild what", x.about(1, w), OUTSIDE);
        }
    }

    private static void bytesAre(ItemFacts x, int... bytes) {
        int xor = 0;
        for (int k = 0; k < bytes.length; k++) {
            due("byte " + k, x.octet(k), bytes[k]);
            xor ^= bytes[k];
        }
        due("xor", x.octet(bytes.length), xor);
        due("behind the last", x.octet(bytes.length + 1), NONE);
        due("before the first", x.octet(-1), NONE);
        for (int w : WILD) {
            due("wild byte", x.octet(w), NONE);
        }
    }

    private static void promise14And15() {
        ItemFacts x = new ItemFacts();
        due("item 1", x.item(3, 31500, 3, 0), 1);
        due("item 2", x.item(1, 256, 1, 0), 2);
        x.service(1, 0);
        x.service(1, 3);
        x.service(1, 4);
        x.address(1, 0, 9999);
        x.address(1, 1, 258);
        x.abroad(1, 30);
        x.contents(1, 99, 100000);
        x.contents(1, 0, 0);
        x.contents(1, 1, 255);
        x.contents(1, 2, 65536);
        x.event(1, 0);
        x.event(1, 7);
        due("pack 1", x.pack(1), 30);
        int[] first = {
            0, 1, 51, 123, 12, 25, 129, 39, 15, 1, 2, 30, 4, 99, 1, 134, 160, 0, 0, 0, 0, 1, 0, 0, 255, 2, 1, 0, 0,
        };
        bytesAre(x, first);
        x.event(1, 10);
        bytesAre(x, first);
        for (int w : WILD) {
            due("wild pack", x.pack(w), UNKNOWN);
        }
        due("pack 0", x.pack(0), UNKNOWN);
        due("pack 3", x.pack(3), UNKNOWN);
        bytesAre(x, first);
        due("pack 2, in place of what was", x.pack(2), 14);
        bytesAre(x, 0, 2, 17, 1, 0, 0, 0, 255, 255, 255, 255, 0, 0);
        x.address(2, 0, 0);
        x.address(2, 1, 0);
        x.event(2, 10);
        due("pack 2 again", x.pack(2), 14);
        bytesAre(x, 0, 2, 17, 1, 0, 0, 9, 0, 0, 0, 0, 0, 0);
        for (int k = 3; k <= 120; k++) {
            x.item(0, 1, 0, 0);
        }
        due("pack 120", x.pack(120), 14);
        bytesAre(x, 0, 120, 0, 0, 1, 0, 0, 255, 255, 255, 255, 0, 0);
    }

    private static void promise16() {
        ItemFacts x = new ItemFacts();
        for (int k = 1; k <= 6; k++) {
            due("item", x.item(0, 1, 0, 0), k);
        }
        due("none yet", x.aside(0), NONE);
        x.event(6, 7);
        due("damaged", x.aside(0), 6);
        lead(x, 2, DEAD);
        due("dead, a lower number", x.aside(0), 2);
        due("then the other", x.aside(1), 6);
        due("no third", x.aside(2), NONE);
        x.event(2, 7);
        due("dead and damaged once", x.aside(1), 6);
        x.event(4, 7);
        x.event(4, 10);
        due("damaged and lost", x.aside(1), 4);
        due("behind it", x.aside(2), 6);
        x.event(6, 8);
        due("resealed", x.aside(2), NONE);
        x.event(2, 8);
        due("resealed, still dead", x.aside(0), 2);
        x.open(2, 0, 1);
        due("opened", x.aside(0), 4);
        due("alone", x.aside(1), NONE);
        x.event(1, 7);
        due("item 1", x.aside(0), 1);
        for (int k = 7; k <= 120; k++) {
            due("item", x.item(0, 1, 0, 0), k);
            due("damaged", x.event(k, 7), TOLD);
            due("the last", x.aside(k - 5), k);
        }
        due("behind the last", x.aside(116), NONE);
        for (int w : WILD) {
            due("wild", x.aside(w), NONE);
        }
    }
}
