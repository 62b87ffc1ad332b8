import java.util.Arrays;

/**
 * A planner for the night of a bakery: doughs are mixed, rise, are shaped, proof, and are baked in ovens; vans bring
 * the bread to shops. It simulates a night from a given start, plans the deliveries, and finds the latest start with
 * which every shop gets its bread in time.
 *
 * Everything that a call needs is made in the constructors and used again, so that no call makes an object.
 */
public final class BakeryNight {

    /** There is no such thing. */
    public static final int NONE = -1;
    /** There is no simulated night. */
    public static final int NO_NIGHT = -2;
    /** There are more than 60 batches. */
    public static final int TOO_MANY = -3;

    private static final int MAX_BYTES = 1600;
    private static final int BYTES_OF_A_FEED = 20;
    private static final int LAST_MINUTE = 1439;
    private static final int LAST_VALUED_MINUTE = 9999;

    private final byte[] buffer;
    private int length;
    private final Parser parser;
    private Bakery bakery;
    private Bakery spare;
    private final History history;
    private final Night night;
    private final Plan plan;
    private boolean simulated;
    private boolean planned;
    private final Night trialNight;
    private final Plan trialPlan;

    public BakeryNight() {
        buffer = new byte[MAX_BYTES];
        parser = new Parser();
        bakery = new Bakery();
        spare = new Bakery();
        history = new History();
        night = new Night();
        plan = new Plan();
        trialNight = new Night();
        trialPlan = new Plan();
    }

    // ---------------------------------------------------------------- the bakery text

    public int feed(int a, int b, int c, int d, int e) {
        if (length + BYTES_OF_A_FEED > MAX_BYTES) {
            return NONE;
        }
        append(a);
        append(b);
        append(c);
        append(d);
        append(e);
        return length;
    }

    private void append(int four) {
        for (int shift = 24; shift >= 0 && length < MAX_BYTES; shift -= 8) {
            buffer[length] = (byte) (four >> shift);
            length++;
        }
    }

    public boolean truncate(int length) {
        if (length < 0 || length > this.length) {
            return false;
        }
        this.length = length;
        return true;
    }

    public int parseBakery() {
        int statements = parser.parse(buffer, length, spare);
        length = 0;
        if (statements == NONE) {
            return NONE;
        }
        Bakery replaced = bakery;
        bakery = spare;
        spare = replaced;
        history.forget();
        dropNight();
        return statements;
    }

    public int errorCode() {
        return parser.faultCode;
    }

    public int errorOffset() {
        return parser.faultOffset;
    }

    // ---------------------------------------------------------------- orders, doughs and streets

    public int orderCount() {
        return bakery.orderTotal;
    }

    public int orderedLoaves(int dough) {
        return bakery.hasDough(dough) ? bakery.loavesOf(dough) : NONE;
    }

    public int batchCount() {
        int batches = bakery.batchesNeeded();
        return batches > Night.MAX_BATCHES ? TOO_MANY : batches;
    }

    public int risingMinutes(int dough, boolean proofing) {
        if (!bakery.hasDough(dough)) {
            return NONE;
        }
        return bakery.inThisRoom(proofing ? bakery.doughs[dough].proof : bakery.doughs[dough].rise);
    }

    public int distance(int from, int to) {
        int first = placeOf(from);
        int second = placeOf(to);
        if (first == NONE || second == NONE) {
            return NONE;
        }
        int minutes = bakery.roads.between(first, second);
        return minutes >= Roads.UNREACHED ? NONE : minutes;
    }

    private int placeOf(int shop) {
        if (shop == NONE) {
            return Roads.HOME;
        }
        return bakery.hasShop(shop) ? shop : NONE;
    }

    public int routeMinutes(int shops) {
        if ((shops & ~bakery.allShops()) != 0) {
            return NONE;
        }
        int minutes = bakery.roads.restOfRoute(Roads.HOME, shops);
        return minutes >= Roads.UNREACHED ? NONE : minutes;
    }

    public int routeStop(int shops, int index) {
        if (routeMinutes(shops) == NONE || index < 0 || index >= Integer.bitCount(shops)) {
            return NONE;
        }
        int place = Roads.HOME;
        int left = shops;
        for (int stop = 0; stop <= index; stop++) {
            place = bakery.roads.nextStop(place, left);
            left &= ~(1 << place);
        }
        return place;
    }

    // ---------------------------------------------------------------- the night

    public int simulate(int start) {
        if (start < 0 || start > LAST_MINUTE) {
            return NONE;
        }
        if (batchCount() == TOO_MANY) {
            return TOO_MANY;
        }
        night.run(bakery, start);
        simulated = true;
        planned = false;
        return night.end;
    }

    private void dropNight() {
        simulated = false;
    }

    public int batchDough(int batch) throws IllegalStateException, IndexOutOfBoundsException {
        if (!simulated) {
            throw new IllegalStateException("no night is simulated");
        }
        if (!night.hasBatch(batch)) {
            throw new IndexOutOfBoundsException("no such batch");
        }
        return night.dough[batch];
    }

    public int stageMinute(int batch, int stage) throws IllegalStateException, IndexOutOfBoundsException {
        if (!simulated) {
            throw new IllegalStateException("no night is simulated");
        }
        if (!night.hasBatch(batch)) {
            throw new IndexOutOfBoundsException("no such batch");
        }
        if (stage < 0 || stage >= Night.STAGES) {
            throw new IndexOutOfBoundsException("no such stage");
        }
        return night.begun[stage][batch];
    }

    public int ovenOf(int batch) throws IllegalStateException, IndexOutOfBoundsException {
        if (!simulated) {
            throw new IllegalStateException("no night is simulated");
        }
        if (!night.hasBatch(batch)) {
            throw new IndexOutOfBoundsException("no such batch");
        }
        return night.oven[batch];
    }

    public int spoiledCount() {
        return simulated ? night.spoiledBatches() : NO_NIGHT;
    }

    public int changingMinutes(int oven) {
        if (!simulated) {
            return NO_NIGHT;
        }
        return bakery.hasOven(oven) ? night.changed[oven] : NONE;
    }

    public int bakingMinutes(int oven) {
        if (!simulated) {
            return NO_NIGHT;
        }
        return bakery.hasOven(oven) ? night.minutesBakedIn(oven) : NONE;
    }

    public int waitingMinutes(int place) {
        if (!simulated) {
            return NO_NIGHT;
        }
        return Night.isPlace(place) ? night.minutesWaitedFor(place) : NONE;
    }

    public int shelvesUsed(int oven, int minute) {
        if (!simulated) {
            return NO_NIGHT;
        }
        return bakery.hasOven(oven) ? night.shelvesTaken(oven, minute) : NONE;
    }

    public int busy(int place, int minute) {
        if (!simulated) {
            return NO_NIGHT;
        }
        return Night.isPlace(place) ? night.inUse(Night.stageAt(place), minute) : NONE;
    }

    public int busiestMinute(int place) {
        if (!simulated) {
            return NO_NIGHT;
        }
        return Night.isPlace(place) ? night.firstFullest(Night.stageAt(place)) : NONE;
    }

    public int readyMinute(int order) {
        if (!simulated) {
            return NO_NIGHT;
        }
        return bakery.hasOrder(order) ? night.ready[order] : NONE;
    }

    public int surplusLoaves(int dough) {
        if (!simulated) {
            return NO_NIGHT;
        }
        return bakery.hasDough(dough) ? night.leftOver(bakery, dough) : NONE;
    }

    public int surplusValue(int minute) {
        if (!simulated) {
            return NO_NIGHT;
        }
        if (minute < 0 || minute > LAST_VALUED_MINUTE) {
            return NONE;
        }
        int cents = 0;
        for (int dough = 0; dough < bakery.doughTotal; dough++) {
            cents += night.leftOverCents(bakery, dough, minute);
        }
        return cents;
    }

    // ---------------------------------------------------------------- the deliveries

    /** The best plan is looked for when it is first asked for, because most nights are only looked at. */
    private Plan bestPlan() {
        if (!planned) {
            plan.gather(bakery, night);
            plan.choose(bakery);
            planned = true;
        }
        return plan;
    }

    public int failedShops() {
        if (!simulated) {
            return NO_NIGHT;
        }
        Plan best = bestPlan();
        return best.possible ? best.missedTotal() + best.lateTotal : NONE;
    }

    public int vanOf(int shop) {
        if (!simulated) {
            return NO_NIGHT;
        }
        return bakery.hasShop(shop) ? bestPlan().vanFor(shop) : NONE;
    }

    public int arrivalMinute(int shop) {
        if (!simulated) {
            return NO_NIGHT;
        }
        if (!bakery.hasShop(shop)) {
            return NONE;
        }
        Plan best = bestPlan();
        return best.vanFor(shop) == NONE ? NONE : best.arrival[shop];
    }

    public int departureMinute(int van) {
        if (!simulated) {
            return NO_NIGHT;
        }
        return bakery.hasVan(van) ? bestPlan().departureOf(van) : NONE;
    }

    public int staleOrders() {
        if (!simulated) {
            return NO_NIGHT;
        }
        Plan best = bestPlan();
        return best.possible ? best.staleTotal(bakery, night) : NONE;
    }

    public int latestStart() {
        return batchCount() == TOO_MANY ? TOO_MANY : latestAsItIs();
    }

    public int latestStartWith(int change) {
        if (change < 0 || change >= Bakery.IMPROVEMENTS) {
            return NONE;
        }
        if (batchCount() == TOO_MANY) {
            return TOO_MANY;
        }
        bakery.improve(change, 1);
        int latest = latestAsItIs();
        bakery.improve(change, -1);
        return latest;
    }

    public int vitalStreet() {
        if (batchCount() == TOO_MANY) {
            return TOO_MANY;
        }
        int earliest = latestAsItIs();
        int vital = NONE;
        if (earliest == NONE) {
            return NONE;
        }
        Roads roads = bakery.roads;
        for (int street = 0; street < roads.streetTotal; street++) {
            if (!roads.closed[street]) {
                roads.explore(bakery.shopTotal, street);
                int latest = trialPlan.latest(bakery);
                if (latest < earliest) {
                    earliest = latest;
                    vital = street;
                }
            }
        }
        roads.explore(bakery.shopTotal, NONE);
        return vital;
    }

    /** A later start shifts every minute of a night alike, so that the night from minute 0 tells about every start. */
    private int latestAsItIs() {
        trialNight.run(bakery, 0);
        trialPlan.gather(bakery, trialNight);
        return trialPlan.latest(bakery);
    }

    // ---------------------------------------------------------------- the changes

    private void recordChange(int kind, int index, int before) {
        history.add(kind, index, before);
        dropNight();
    }

    public int setRoom(int degrees) {
        if (degrees < Bakery.COLDEST || degrees > Bakery.WARMEST) {
            return NONE;
        }
        int before = bakery.room;
        bakery.room = degrees;
        recordChange(History.ROOM, 0, before);
        return before;
    }

    public boolean breakOven(int oven, boolean broken) {
        if (!bakery.hasOven(oven)) {
            return false;
        }
        int before = bakery.ovens[oven].broken ? 1 : 0;
        bakery.ovens[oven].broken = broken;
        recordChange(History.OVEN, oven, before);
        return true;
    }

    public boolean closeStreet(int street, boolean closed) {
        if (street < 0 || street >= bakery.roads.streetTotal) {
            return false;
        }
        int before = bakery.roads.closed[street] ? 1 : 0;
        bakery.markStreet(street, closed);
        recordChange(History.STREET, street, before);
        return true;
    }

    public int addOrder(int shop, int dough, int loaves, int by) {
        if (!bakery.hasShop(shop) || !bakery.hasDough(dough) || bakery.orderTotal >= Bakery.MAX_ORDERS) {
            return NONE;
        }
        if (loaves < 1 || loaves > Bakery.MOST_LOAVES || by < 0 || by > LAST_MINUTE) {
            return NONE;
        }
        int order = bakery.orderTotal;
        bakery.orders[order].set(shop, dough, loaves, by);
        bakery.orderTotal++;
        recordChange(History.ADDED, order, 0);
        return order;
    }

    public boolean cancelOrder(int order) {
        if (!bakery.hasOrder(order)) {
            return false;
        }
        bakery.orders[order].cancelled = true;
        recordChange(History.CANCELLED, order, 0);
        return true;
    }

    public int moveOrder(int order, int by) {
        if (!bakery.hasOrder(order) || by < 0 || by > LAST_MINUTE) {
            return NONE;
        }
        int before = bakery.orders[order].by;
        bakery.orders[order].by = by;
        recordChange(History.MOVED, order, before);
        return before;
    }

    public int undo() {
        if (history.size == 0) {
            return NONE;
        }
        history.takeBack(bakery);
        dropNight();
        return history.size;
    }

    private static int dividedUp(int amount, int by) {
        return by <= 0 ? 0 : (amount + by - 1) / by;
    }

    // ---------------------------------------------------------------- what a bakery has

    private static final class Dough {
        int mix;
        int rise;
        int shape;
        int proof;
        int limit;
        int bake;
        int heat;
        int loaves;
        int keep;
        int price;
    }

    private static final class Oven {
        int shelves;
        int heat;
        int rate;
        boolean broken;
    }

    private static final class Order {
        int shop;
        int dough;
        int loaves;
        int by;
        boolean cancelled;

        void set(int itsShop, int itsDough, int itsLoaves, int itsMinute) {
            shop = itsShop;
            dough = itsDough;
            loaves = itsLoaves;
            by = itsMinute;
            cancelled = false;
        }
    }

    /** What the text says of a bakery, and what the changes made of it. */
    private static final class Bakery {
        static final int MAX_DOUGHS = 6;
        static final int MAX_OVENS = 4;
        static final int MAX_SHOPS = 7;
        static final int MAX_VANS = 3;
        static final int MAX_ORDERS = 24;
        static final int MOST_LOAVES = 200;
        static final int COLDEST = 10;
        static final int WARMEST = 40;
        static final int USUAL_ROOM = 24;
        static final int USUAL_COOL = 30;

        static final int IMPROVEMENTS = 5;
        /** More loaves than all orders together can have. */
        private static final int ANY_LOAD = 1000000;

        int room;
        int cool;
        int mixers;
        int bakers;
        final Dough[] doughs;
        int doughTotal;
        final Oven[] ovens;
        int ovenTotal;
        int shopTotal;
        final Roads roads;
        final int[] vanLoads;
        int vanTotal;
        final Order[] orders;
        int orderTotal;

        Bakery() {
            doughs = new Dough[MAX_DOUGHS];
            for (int i = 0; i < MAX_DOUGHS; i++) {
                doughs[i] = new Dough();
            }
            ovens = new Oven[MAX_OVENS];
            for (int i = 0; i < MAX_OVENS; i++) {
                ovens[i] = new Oven();
            }
            orders = new Order[MAX_ORDERS];
            for (int i = 0; i < MAX_ORDERS; i++) {
                orders[i] = new Order();
            }
            vanLoads = new int[MAX_VANS];
            roads = new Roads();
            clear();
            roads.explore(0, NONE);
        }

        void clear() {
            room = USUAL_ROOM;
            cool = USUAL_COOL;
            mixers = 1;
            bakers = 1;
            doughTotal = 0;
            ovenTotal = 0;
            shopTotal = 0;
            roads.streetTotal = 0;
            vanTotal = 0;
            orderTotal = 0;
        }

        boolean hasDough(int dough) {
            return dough >= 0 && dough < doughTotal;
        }

        boolean hasOven(int which) {
            return which >= 0 && which < ovenTotal;
        }

        boolean hasShop(int shop) {
            return shop >= 0 && shop < shopTotal;
        }

        boolean hasVan(int van) {
            return van >= 0 && van < vanTotal;
        }

        /** Whether there is such an order; a cancelled one counts as none. */
        boolean hasOrder(int order) {
            return order >= 0 && order < orderTotal && !orders[order].cancelled;
        }

        int allShops() {
            return (1 << shopTotal) - 1;
        }

        int inThisRoom(int minutes) {
            return dividedUp(minutes * USUAL_ROOM, room);
        }

        int loavesOf(int dough) {
            int loaves = 0;
            for (int order = 0; order < orderTotal; order++) {
                if (hasOrder(order) && orders[order].dough == dough) {
                    loaves += orders[order].loaves;
                }
            }
            return loaves;
        }

        int batchesOf(int dough) {
            return dividedUp(loavesOf(dough), doughs[dough].loaves);
        }

        int batchesNeeded() {
            int batches = 0;
            for (int dough = 0; dough < doughTotal; dough++) {
                batches += batchesOf(dough);
            }
            return batches;
        }

        /** The least minute by which an order of the dough must arrive; later than any minute without an order. */
        int dueOf(int dough) {
            int due = LAST_MINUTE + 1;
            for (int order = 0; order < orderTotal; order++) {
                if (hasOrder(order) && orders[order].dough == dough) {
                    due = Math.min(due, orders[order].by);
                }
            }
            return due;
        }

        /** The loaves of a dough that are given away before those of an order are. */
        int loavesAheadOf(int order) {
            int loaves = 0;
            for (int other = 0; other < orderTotal; other++) {
                if (hasOrder(other) && orders[other].dough == orders[order].dough && comesBefore(other, order)) {
                    loaves += orders[other].loaves;
                }
            }
            return loaves;
        }

        private boolean comesBefore(int order, int other) {
            int difference = orders[order].by - orders[other].by;
            return difference < 0 || difference == 0 && order < other;
        }

        void markStreet(int street, boolean closed) {
            roads.closed[street] = closed;
            roads.explore(shopTotal, NONE);
        }

        /** Makes one of the changes of latestStartWith with amount 1, and takes it back with amount -1. */
        void improve(int change, int amount) {
            switch (change) {
                case 0:
                    mixers += amount;
                    break;
                case 1:
                    bakers += amount;
                    break;
                case 2:
                    room += amount;
                    break;
                case 3:
                    for (int i = 0; i < ovenTotal; i++) {
                        ovens[i].shelves += amount;
                    }
                    break;
                default:
                    vanLoads[0] += amount * ANY_LOAD;
                    break;
            }
        }
    }

    /** The streets, the distances along the open ones and the shortest routes. */
    private static final class Roads {
        static final int MAX_STREETS = 20;
        static final int HOME = Bakery.MAX_SHOPS;
        static final int PLACES = HOME + 1;
        static final int SETS = 1 << HOME;
        /** Far more than any route takes, and small enough that the sum of eight does not overflow. */
        static final int UNREACHED = 1000000;

        final int[] from;
        final int[] to;
        final int[] minutes;
        final boolean[] closed;
        int streetTotal;
        private final int[][] shortest;
        /** The minutes that a route still takes from a place through a set of shops, at set * PLACES + place. */
        private final int[] rest;

        Roads() {
            from = new int[MAX_STREETS];
            to = new int[MAX_STREETS];
            minutes = new int[MAX_STREETS];
            closed = new boolean[MAX_STREETS];
            shortest = new int[PLACES][PLACES];
            rest = new int[SETS * PLACES];
        }

        int between(int place, int other) {
            return shortest[place][other];
        }

        int restOfRoute(int place, int shops) {
            return rest[shops * PLACES + place];
        }

        /** Measures the distances and routes along the open streets, all but one if one is left out. */
        void explore(int shops, int leftOut) {
            for (int place = 0; place < PLACES; place++) {
                Arrays.fill(shortest[place], UNREACHED);
                shortest[place][place] = 0;
            }
            for (int street = 0; street < streetTotal; street++) {
                if (!closed[street] && street != leftOut) {
                    int least = Math.min(minutes[street], shortest[from[street]][to[street]]);
                    shortest[from[street]][to[street]] = least;
                    shortest[to[street]][from[street]] = least;
                }
            }
            joinStreets();
            measureRoutes(shops);
        }

        private void joinStreets() {
            for (int middle = 0; middle < PLACES; middle++) {
                for (int first = 0; first < PLACES; first++) {
                    for (int last = 0; last < PLACES; last++) {
                        int joined = shortest[first][middle] + shortest[middle][last];
                        shortest[first][last] = Math.min(shortest[first][last], joined);
                    }
                }
            }
        }

        private void measureRoutes(int shops) {
            for (int set = 0; set < 1 << shops; set++) {
                for (int place = 0; place < PLACES; place++) {
                    int least = set == 0 ? 0 : PLACES * UNREACHED;
                    for (int shop = 0; shop < shops; shop++) {
                        if ((set >> shop & 1) != 0) {
                            least = Math.min(least, by(place, shop, set));
                        }
                    }
                    rest[set * PLACES + place] = least;
                }
            }
        }

        /** The minutes of the best route from a place through a set of shops that goes to one of them first. */
        private int by(int place, int shop, int set) {
            return shortest[place][shop] + rest[(set & ~(1 << shop)) * PLACES + shop];
        }

        /** The smallest shop with which the shortest route can go on, so that the whole sequence is the smallest. */
        int nextStop(int place, int set) {
            for (int shop = 0; shop < HOME; shop++) {
                if ((set >> shop & 1) != 0 && by(place, shop, set) == restOfRoute(place, set)) {
                    return shop;
                }
            }
            return HOME;
        }
    }

    // ---------------------------------------------------------------- the changes that can be undone

    private static final class History {
        static final int ROOM = 0;
        static final int OVEN = 1;
        static final int STREET = 2;
        static final int ADDED = 3;
        static final int CANCELLED = 4;
        static final int MOVED = 5;
        private static final int MOST = 12;

        private final int[] kinds;
        private final int[] indexes;
        private final int[] before;
        int size;

        History() {
            kinds = new int[MOST];
            indexes = new int[MOST];
            before = new int[MOST];
        }

        void forget() {
            size = 0;
        }

        void add(int kind, int index, int valueBefore) {
            if (size == MOST) {
                dropOldest();
            }
            kinds[size] = kind;
            indexes[size] = index;
            before[size] = valueBefore;
            size++;
        }

        private void dropOldest() {
            size = MOST - 1;
            System.arraycopy(kinds, 1, kinds, 0, size);
            System.arraycopy(indexes, 1, indexes, 0, size);
            System.arraycopy(before, 1, before, 0, size);
        }

        void takeBack(Bakery bakery) {
            if (size == 0) {
                return;
            }
            size--;
            int index = indexes[size];
            switch (kinds[size]) {
                case ROOM:
                    bakery.room = before[size];
                    break;
                case OVEN:
                    bakery.ovens[index].broken = before[size] == 1;
                    break;
                case STREET:
                    bakery.markStreet(index, before[size] == 1);
                    break;
                case ADDED:
                    bakery.orderTotal = index;
                    break;
                case CANCELLED:
                    bakery.orders[index].cancelled = false;
                    break;
                default:
                    bakery.orders[index].by = before[size];
                    break;
            }
        }
    }

    // ---------------------------------------------------------------- reading a text

    private enum Word {
        ROOM("room"), COOL("cool"), MIXERS("mixers"), BAKERS("bakers"), DOUGH("dough"), MIX("mix"), RISE("rise"),
        SHAPE("shape"), PROOF("proof"), LIMIT("limit"), BAKE("bake"), HEAT("heat"), YIELD("yield"), KEEP("keep"),
        PRICE("price"), OVEN("oven"), SHELVES("shelves"), RATE("rate"), SHOP("shop"), STREET("street"), VAN("van"),
        ORDER("order"), BY("by"), HOME("home");

        final String text;

        Word(String itsText) {
            text = itsText;
        }
    }

    /** Cuts a text into tokens and holds the present one. */
    private static final class Scanner {
        static final int END = 0;
        static final int WORD = 1;
        static final int NUMBER = 2;
        static final int SEMICOLON = 3;
        private static final int BLANK = 4;
        private static final int INVALID = 5;
        private static final int LONGEST_WORD = 8;
        private static final int LONGEST_NUMBER = 4;
        private static final Word[] WORDS = Word.values();

        private byte[] text;
        private int length;
        int kind;
        int start;
        private int end;

        Scanner() {
            text = new byte[0];
        }

        void begin(byte[] itsText, int itsLength) {
            text = itsText;
            length = Math.min(itsLength, text.length);
            end = 0;
            next();
        }

        void next() {
            start = end;
            while (start < length && kindOf(text[start]) == BLANK) {
                start++;
            }
            end = start;
            if (start >= length) {
                kind = END;
                return;
            }
            kind = kindOf(text[start]);
            end++;
            while (kind <= NUMBER && end < length && kindOf(text[end]) == kind) {
                end++;
            }
        }

        private static int kindOf(int sign) {
            if (sign >= 'a' && sign <= 'z') {
                return WORD;
            }
            if (sign >= '0' && sign <= '9') {
                return NUMBER;
            }
            if (sign == ' ' || sign == '\n') {
                return BLANK;
            }
            return sign == ';' ? SEMICOLON : INVALID;
        }

        boolean isNumber() {
            return kind == NUMBER && end - start <= LONGEST_NUMBER;
        }

        int value() {
            int value = 0;
            for (int i = start; i < end; i++) {
                value = value * 10 + text[i] - '0';
            }
            return value;
        }

        boolean isName() {
            return kind == WORD && end - start <= LONGEST_WORD && keyword() == null;
        }

        /** The letters of a name as the digits of a number, so that two names are the same if their numbers are. */
        long letters() {
            long letters = 0;
            for (int i = start; i < end; i++) {
                letters = letters * 32 + text[i] - 'a' + 1;
            }
            return letters;
        }

        /** The keyword that the token is, or null. */
        Word keyword() {
            if (kind != WORD) {
                return null;
            }
            int size = end - start;
            for (Word word : WORDS) {
                int same = 0;
                while (same < size && same < word.text.length() && text[start + same] == word.text.charAt(same)) {
                    same++;
                }
                if (same == size && same == word.text.length()) {
                    return word;
                }
            }
            return null;
        }
    }

    /**
     * Reads a text from front to back, so that the first fault found is the one with the smallest offset; at a token
     * the faults are looked for in the order of their codes.
     */
    private static final class Parser {
        private static final int MISPLACED = 1;
        private static final int OUT_OF_RANGE = 2;
        private static final int REPEATED = 3;
        private static final int UNKNOWN = 4;
        private static final int ONE_TOO_MANY = 5;

        private final Scanner scanner;
        private final long[] doughNames;
        private final long[] shopNames;
        private boolean roomGiven;
        private boolean coolGiven;
        private boolean mixersGiven;
        private boolean bakersGiven;
        int faultCode;
        int faultOffset;

        Parser() {
            scanner = new Scanner();
            doughNames = new long[Bakery.MAX_DOUGHS];
            shopNames = new long[Bakery.MAX_SHOPS];
            faultOffset = NONE;
        }

        /** Reads first bytes as a bakery text; returns the number of statements, or NONE if there is a fault. */
        int parse(byte[] text, int length, Bakery bakery) {
            faultCode = 0;
            faultOffset = NONE;
            roomGiven = false;
            coolGiven = false;
            mixersGiven = false;
            bakersGiven = false;
            bakery.clear();
            scanner.begin(text, length);
            int statements = 0;
            while (scanner.kind != Scanner.END && faultCode == 0 && statements < MAX_BYTES) {
                readStatement(bakery);
                statements++;
            }
            if (faultCode != 0) {
                return NONE;
            }
            bakery.roads.explore(bakery.shopTotal, NONE);
            return statements;
        }

        private void fail(int code) {
            if (faultCode == 0) {
                faultCode = code;
                faultOffset = scanner.start;
            }
        }

        private boolean failed() {
            return faultCode != 0;
        }

        private void readStatement(Bakery bakery) {
            Word word = scanner.keyword();
            if (word == null) {
                fail(MISPLACED);
                return;
            }
            switch (word) {
                case ROOM:
                    bakery.room = readSetting(roomGiven, Bakery.COLDEST, Bakery.WARMEST);
                    roomGiven = true;
                    break;
                case COOL:
                    bakery.cool = readSetting(coolGiven, 0, 120);
                    coolGiven = true;
                    break;
                case MIXERS:
                    bakery.mixers = readSetting(mixersGiven, 1, 4);
                    mixersGiven = true;
                    break;
                case BAKERS:
                    bakery.bakers = readSetting(bakersGiven, 1, 4);
                    bakersGiven = true;
                    break;
                case DOUGH:
                    readDough(bakery);
                    break;
                case OVEN:
                    readOven(bakery);
                    break;
                case SHOP:
                    readShop(bakery);
                    break;
                case STREET:
                    readStreet(bakery);
                    break;
                case VAN:
                    readVan(bakery);
                    break;
                case ORDER:
                    readOrder(bakery);
                    break;
                default:
                    fail(MISPLACED);
                    break;
            }
            readSemicolon();
        }

        private void readSemicolon() {
            if (scanner.kind != Scanner.SEMICOLON) {
                fail(MISPLACED);
            }
            if (!failed()) {
                scanner.next();
            }
        }

        private int readSetting(boolean given, int low, int high) {
            if (given) {
                fail(REPEATED);
                return low;
            }
            scanner.next();
            return readNumber(low, high);
        }

        /** Passes the first word of a statement, unless there are as many already as allowed. */
        private void beginOneOf(int most, int already) {
            if (already >= most) {
                fail(ONE_TOO_MANY);
            } else {
                scanner.next();
            }
        }

        private void readDough(Bakery bakery) {
            int number = bakery.doughTotal;
            beginOneOf(Bakery.MAX_DOUGHS, number);
            readNewName(doughNames, number);
            if (failed()) {
                return;
            }
            Dough dough = bakery.doughs[number];
            dough.mix = readField(Word.MIX, 1, 120);
            dough.rise = readField(Word.RISE, 0, 300);
            dough.shape = readField(Word.SHAPE, 1, 120);
            dough.proof = readField(Word.PROOF, 0, 300);
            dough.limit = readField(Word.LIMIT, 0, 240);
            dough.bake = readField(Word.BAKE, 1, 120);
            dough.heat = readField(Word.HEAT, 100, 300);
            dough.loaves = readField(Word.YIELD, 5, 200);
            dough.keep = readField(Word.KEEP, 1, 1440);
            dough.price = readField(Word.PRICE, 0, 999);
            bakery.doughTotal++;
        }

        private void readOven(Bakery bakery) {
            int number = bakery.ovenTotal;
            beginOneOf(Bakery.MAX_OVENS, number);
            if (failed()) {
                return;
            }
            Oven oven = bakery.ovens[number];
            oven.shelves = readField(Word.SHELVES, 1, 6);
            oven.heat = readField(Word.HEAT, 20, 300);
            oven.rate = readField(Word.RATE, 1, 50);
            oven.broken = false;
            bakery.ovenTotal++;
        }

        private void readShop(Bakery bakery) {
            beginOneOf(Bakery.MAX_SHOPS, bakery.shopTotal);
            readNewName(shopNames, bakery.shopTotal);
            if (!failed()) {
                bakery.shopTotal++;
            }
        }

        private void readStreet(Bakery bakery) {
            Roads roads = bakery.roads;
            int number = roads.streetTotal;
            beginOneOf(Roads.MAX_STREETS, number);
            int from = readPlace(bakery, NONE);
            int to = readPlace(bakery, from);
            int minutes = readNumber(1, 120);
            if (!failed()) {
                roads.from[number] = from;
                roads.to[number] = to;
                roads.minutes[number] = minutes;
                roads.closed[number] = false;
                roads.streetTotal++;
            }
        }

        private void readVan(Bakery bakery) {
            beginOneOf(Bakery.MAX_VANS, bakery.vanTotal);
            int load = readNumber(1, 2000);
            if (!failed()) {
                bakery.vanLoads[bakery.vanTotal] = load;
                bakery.vanTotal++;
            }
        }

        private void readOrder(Bakery bakery) {
            beginOneOf(Bakery.MAX_ORDERS, bakery.orderTotal);
            int shop = readKnownName(shopNames, bakery.shopTotal);
            int dough = readKnownName(doughNames, bakery.doughTotal);
            int loaves = readNumber(1, Bakery.MOST_LOAVES);
            int by = readField(Word.BY, 0, LAST_MINUTE);
            if (!failed()) {
                bakery.orders[bakery.orderTotal].set(shop, dough, loaves, by);
                bakery.orderTotal++;
            }
        }

        private int readField(Word word, int low, int high) {
            if (scanner.keyword() != word) {
                fail(MISPLACED);
            }
            if (failed()) {
                return low;
            }
            scanner.next();
            return readNumber(low, high);
        }

        private int readNumber(int low, int high) {
            if (!scanner.isNumber()) {
                fail(MISPLACED);
            }
            int value = scanner.value();
            if (value < low || value > high) {
                fail(OUT_OF_RANGE);
            }
            if (failed()) {
                return low;
            }
            scanner.next();
            return value;
        }

        private void readNewName(long[] names, int count) {
            if (!scanner.isName()) {
                fail(MISPLACED);
            } else if (indexOfName(names, count) != NONE) {
                fail(REPEATED);
            }
            if (!failed()) {
                names[count] = scanner.letters();
                scanner.next();
            }
        }

        private int readKnownName(long[] names, int count) {
            int index = NONE;
            if (!scanner.isName()) {
                fail(MISPLACED);
            } else {
                index = indexOfName(names, count);
                if (index == NONE) {
                    fail(UNKNOWN);
                }
            }
            if (!failed()) {
                scanner.next();
            }
            return index;
        }

        private int indexOfName(long[] names, int count) {
            long letters = scanner.letters();
            for (int i = 0; i < count; i++) {
                if (names[i] == letters) {
                    return i;
                }
            }
            return NONE;
        }

        /** Reads a place that is not the other one. */
        private int readPlace(Bakery bakery, int other) {
            int place = NONE;
            if (scanner.keyword() == Word.HOME) {
                place = Roads.HOME;
            } else if (!scanner.isName()) {
                fail(MISPLACED);
            } else {
                place = indexOfName(shopNames, bakery.shopTotal);
                if (place == NONE) {
                    fail(UNKNOWN);
                }
            }
            if (place == other) {
                fail(REPEATED);
            }
            if (!failed()) {
                scanner.next();
            }
            return place;
        }
    }

    // ---------------------------------------------------------------- simulating a night

    /**
     * A night, minute by minute; the minutes in which nothing ends and nothing spoils are left out, because nothing can
     * begin in them that could not have begun before.
     */
    private static final class Night {
        static final int MAX_BATCHES = 60;
        static final int STAGES = 6;
        private static final int MIXING = 0;
        private static final int RISING = 1;
        private static final int SHAPING = 2;
        private static final int PROOFING = 3;
        private static final int BAKING = 4;
        private static final int BAKED = 5;
        private static final int PLACES = 3;
        private static final int MOST_STEPS = 1000000;

        private int start;
        int end;
        private int batches;
        final int[] dough;
        final int[] oven;
        /** The minutes at which the stages begin, by stage and batch. */
        final int[][] begun;
        private final int[] risen;
        private final int[] proofed;
        private final int[] spoiled;

        private int mixed;
        private final int[] toShape;
        private int toShapeTotal;
        private final int[] toBake;
        private int toBakeTotal;
        private final int[] heat;
        /** The minute from which an oven has its heat; until then it is changing to it. */
        private final int[] steady;
        final int[] changed;
        private final int[] taken;

        final int[] ready;
        /** The minute at which the first loaf given to an order was taken out of the oven. */
        final int[] oldest;

        Night() {
            dough = new int[MAX_BATCHES];
            oven = new int[MAX_BATCHES];
            begun = new int[STAGES][MAX_BATCHES];
            risen = new int[MAX_BATCHES];
            proofed = new int[MAX_BATCHES];
            spoiled = new int[MAX_BATCHES];
            toShape = new int[MAX_BATCHES];
            toBake = new int[MAX_BATCHES];
            heat = new int[Bakery.MAX_OVENS];
            steady = new int[Bakery.MAX_OVENS];
            changed = new int[Bakery.MAX_OVENS];
            taken = new int[Bakery.MAX_OVENS];
            ready = new int[Bakery.MAX_ORDERS];
            oldest = new int[Bakery.MAX_ORDERS];
        }

        /** Simulates the night of a bakery that needs at most MAX_BATCHES batches. */
        void run(Bakery bakery, int first) {
            begin(bakery, first);
            int minute = first;
            for (int step = 0; step < MOST_STEPS && minute != NONE; step++) {
                noteWhatEnded(bakery, minute);
                spoilWaiting(bakery, minute);
                bakeWaiting(bakery, minute);
                shapeWaiting(bakery, minute);
                mixNext(bakery, minute);
                minute = nextMinute(bakery, minute);
            }
            for (int batch = 0; batch < batches; batch++) {
                end = Math.max(end, Math.max(begun[BAKED][batch], spoiled[batch]));
            }
            giveLoaves(bakery);
        }

        private void begin(Bakery bakery, int first) {
            start = first;
            end = first;
            mixed = 0;
            toShapeTotal = 0;
            toBakeTotal = 0;
            for (int[] row : begun) {
                Arrays.fill(row, NONE);
            }
            Arrays.fill(oven, NONE);
            Arrays.fill(risen, NONE);
            Arrays.fill(proofed, NONE);
            Arrays.fill(spoiled, NONE);
            Arrays.fill(steady, NONE);
            Arrays.fill(changed, 0);
            for (int i = 0; i < bakery.ovenTotal; i++) {
                heat[i] = bakery.ovens[i].heat;
            }
            numberBatches(bakery);
        }

        /** The doughs are few, so that each due minute is looked for in turn. */
        private void numberBatches(Bakery bakery) {
            batches = 0;
            int numbered = 0;
            for (int turn = 0; turn < bakery.doughTotal; turn++) {
                int next = NONE;
                for (int i = 0; i < bakery.doughTotal; i++) {
                    if ((numbered >> i & 1) == 0 && (next == NONE || bakery.dueOf(i) < bakery.dueOf(next))) {
                        next = i;
                    }
                }
                if (next == NONE) {
                    return;
                }
                numbered |= 1 << next;
                int last = Math.min(MAX_BATCHES, batches + bakery.batchesOf(next));
                while (batches < last) {
                    dough[batches] = next;
                    batches++;
                }
            }
        }

        private void noteWhatEnded(Bakery bakery, int minute) {
            for (int batch = 0; batch < batches; batch++) {
                if (risen[batch] == minute && toShapeTotal < MAX_BATCHES) {
                    toShape[toShapeTotal] = batch;
                    toShapeTotal++;
                }
                if (proofed[batch] == minute && toBakeTotal < MAX_BATCHES) {
                    toBake[toBakeTotal] = batch;
                    toBakeTotal++;
                }
            }
            for (int i = 0; i < bakery.ovenTotal; i++) {
                taken[i] = shelvesTaken(i, minute);
            }
        }

        private void spoilWaiting(Bakery bakery, int minute) {
            int kept = 0;
            for (int i = 0; i < toBakeTotal; i++) {
                int batch = toBake[i];
                if (minute - proofed[batch] > bakery.doughs[dough[batch]].limit) {
                    spoiled[batch] = minute;
                } else {
                    toBake[kept] = batch;
                    kept++;
                }
            }
            toBakeTotal = kept;
        }

        private void bakeWaiting(Bakery bakery, int minute) {
            int kept = 0;
            for (int i = 0; i < toBakeTotal; i++) {
                int batch = toBake[i];
                Dough kind = bakery.doughs[dough[batch]];
                int free = freeOven(bakery, kind.heat, minute);
                if (free != NONE) {
                    oven[batch] = free;
                    taken[free]++;
                    begun[BAKING][batch] = minute;
                    begun[BAKED][batch] = minute + kind.bake;
                } else {
                    changeAnOven(bakery, kind.heat, minute);
                    toBake[kept] = batch;
                    kept++;
                }
            }
            toBakeTotal = kept;
        }

        private int freeOven(Bakery bakery, int degrees, int minute) {
            for (int i = 0; i < bakery.ovenTotal; i++) {
                Oven kind = bakery.ovens[i];
                if (!kind.broken && steady[i] <= minute && heat[i] == degrees && taken[i] < kind.shelves) {
                    return i;
                }
            }
            return NONE;
        }

        private void changeAnOven(Bakery bakery, int degrees, int minute) {
            int chosen = NONE;
            int least = 0;
            for (int i = 0; i < bakery.ovenTotal; i++) {
                if (steady[i] > minute) {
                    if (heat[i] == degrees) {
                        return;
                    }
                } else if (!bakery.ovens[i].broken && taken[i] == 0) {
                    int needed = dividedUp(Math.abs(heat[i] - degrees), bakery.ovens[i].rate);
                    if (chosen == NONE || needed < least) {
                        chosen = i;
                        least = needed;
                    }
                }
            }
            if (chosen != NONE) {
                heat[chosen] = degrees;
                steady[chosen] = minute + least;
                changed[chosen] += least;
            }
        }

        private void shapeWaiting(Bakery bakery, int minute) {
            int shaped = Math.min(toShapeTotal, Math.max(0, bakery.bakers - inUse(SHAPING, minute)));
            for (int i = 0; i < shaped; i++) {
                int batch = toShape[i];
                Dough kind = bakery.doughs[dough[batch]];
                begun[SHAPING][batch] = minute;
                begun[PROOFING][batch] = minute + kind.shape;
                proofed[batch] = begun[PROOFING][batch] + bakery.inThisRoom(kind.proof);
            }
            toShapeTotal -= shaped;
            System.arraycopy(toShape, shaped, toShape, 0, toShapeTotal);
        }

        private void mixNext(Bakery bakery, int minute) {
            int last = Math.min(batches, mixed + Math.max(0, bakery.mixers - inUse(MIXING, minute)));
            while (mixed < last) {
                Dough kind = bakery.doughs[dough[mixed]];
                begun[MIXING][mixed] = minute;
                begun[RISING][mixed] = minute + kind.mix;
                risen[mixed] = begun[RISING][mixed] + bakery.inThisRoom(kind.rise);
                mixed++;
            }
        }

        /** The next minute in which something ends or spoils, NONE if nothing does any more. */
        private int nextMinute(Bakery bakery, int minute) {
            int next = NONE;
            for (int batch = 0; batch < batches; batch++) {
                next = sooner(next, begun[RISING][batch], minute);
                next = sooner(next, risen[batch], minute);
                next = sooner(next, begun[PROOFING][batch], minute);
                next = sooner(next, proofed[batch], minute);
                next = sooner(next, begun[BAKED][batch], minute);
            }
            for (int i = 0; i < toBakeTotal; i++) {
                int batch = toBake[i];
                next = sooner(next, proofed[batch] + bakery.doughs[dough[batch]].limit + 1, minute);
            }
            for (int i = 0; i < bakery.ovenTotal; i++) {
                next = sooner(next, steady[i], minute);
            }
            return next;
        }

        private static int sooner(int next, int candidate, int minute) {
            return candidate > minute && (next == NONE || candidate < next) ? candidate : next;
        }

        private void giveLoaves(Bakery bakery) {
            Arrays.fill(ready, NONE);
            Arrays.fill(oldest, NONE);
            for (int order = 0; order < bakery.orderTotal; order++) {
                if (bakery.hasOrder(order)) {
                    int kind = bakery.orders[order].dough;
                    int first = bakery.loavesAheadOf(order);
                    int last = takenOut(bakery, kind, first + bakery.orders[order].loaves - 1);
                    oldest[order] = takenOut(bakery, kind, first);
                    ready[order] = last == NONE ? NONE : last + bakery.cool;
                }
            }
        }

        /**
         * The minute at which a loaf of a dough is taken out of the oven, NONE if there are not so many loaves. Batches
         * of one dough never overtake one another, so that they are available in the order of their numbers.
         */
        private int takenOut(Bakery bakery, int kind, int loaf) {
            int before = 0;
            for (int batch = 0; batch < batches; batch++) {
                if (dough[batch] == kind && begun[BAKED][batch] != NONE) {
                    before += bakery.doughs[kind].loaves;
                    if (loaf < before) {
                        return begun[BAKED][batch];
                    }
                }
            }
            return NONE;
        }

        int leftOver(Bakery bakery, int kind) {
            int loaves = 0;
            for (int batch = 0; batch < batches; batch++) {
                if (dough[batch] == kind && begun[BAKED][batch] != NONE) {
                    loaves += bakery.doughs[kind].loaves;
                }
            }
            return Math.max(0, loaves - bakery.loavesOf(kind));
        }

        /** There are no more batches than needed, so that the loaves left over are all of the last batch. */
        int leftOverCents(Bakery bakery, int kind, int minute) {
            int loaves = leftOver(bakery, kind);
            int keep = bakery.doughs[kind].keep;
            if (loaves == 0 || keep <= 0) {
                return 0;
            }
            int age = minute - takenOut(bakery, kind, bakery.loavesOf(kind));
            return age < 0 || age > keep ? 0 : loaves * (bakery.doughs[kind].price * (keep - age) / keep);
        }

        boolean hasBatch(int batch) {
            return batch >= 0 && batch < batches;
        }

        static boolean isPlace(int place) {
            return place >= 0 && place < PLACES;
        }

        /** The stage in which a batch is in a mixer, with a baker or on a shelf. */
        static int stageAt(int place) {
            return 2 * place;
        }

        int spoiledBatches() {
            int total = 0;
            for (int batch = 0; batch < batches; batch++) {
                total += spoiled[batch] == NONE ? 0 : 1;
            }
            return total;
        }

        int minutesBakedIn(int which) {
            int total = 0;
            for (int batch = 0; batch < batches; batch++) {
                if (oven[batch] == which) {
                    total += begun[BAKED][batch] - begun[BAKING][batch];
                }
            }
            return total;
        }

        int minutesWaitedFor(int place) {
            int total = 0;
            for (int batch = 0; batch < batches; batch++) {
                if (stageAt(place) == MIXING) {
                    total += begun[MIXING][batch] - start;
                } else if (stageAt(place) == SHAPING) {
                    total += begun[SHAPING][batch] - risen[batch];
                } else {
                    total += Math.max(begun[BAKING][batch], spoiled[batch]) - proofed[batch];
                }
            }
            return total;
        }

        private boolean isIn(int batch, int stage, int minute) {
            int since = begun[stage][batch];
            return since != NONE && since <= minute && minute < begun[stage + 1][batch];
        }

        int shelvesTaken(int which, int minute) {
            int total = 0;
            for (int batch = 0; batch < batches; batch++) {
                total += oven[batch] == which && isIn(batch, BAKING, minute) ? 1 : 0;
            }
            return total;
        }

        int inUse(int stage, int minute) {
            int total = 0;
            for (int batch = 0; batch < batches; batch++) {
                total += isIn(batch, stage, minute) ? 1 : 0;
            }
            return total;
        }

        /** The most are in use first when a batch begins, so that only those minutes are looked at. */
        int firstFullest(int stage) {
            int most = 0;
            int first = NONE;
            for (int batch = 0; batch < batches; batch++) {
                int minute = begun[stage][batch];
                int total = minute == NONE ? 0 : inUse(stage, minute);
                if (total > most || total == most && total > 0 && minute < first) {
                    most = total;
                    first = minute;
                }
            }
            return first;
        }
    }

    // ---------------------------------------------------------------- planning the deliveries

    /** The shops that are served after a night, and what each set of them means for the van that serves it. */
    private static final class Plan {
        private final int[] due;
        private final int[] load;
        private final int[] readyAt;
        private int served;
        private int missed;

        private final int[] setLoad;
        private final int[] setLate;
        private final int[] setMinutes;
        /** How much later the night could start with no shop of a set late, LAST_MINUTE at most. */
        private final int[] setSlack;
        private final int[] shopsOfVan;
        private final int[] vanOfShop;

        boolean possible;
        int lateTotal;
        private final int[] bestShops;
        final int[] arrival;

        Plan() {
            due = new int[Bakery.MAX_SHOPS];
            load = new int[Bakery.MAX_SHOPS];
            readyAt = new int[Bakery.MAX_SHOPS];
            setLoad = new int[Roads.SETS];
            setLate = new int[Roads.SETS];
            setMinutes = new int[Roads.SETS];
            setSlack = new int[Roads.SETS];
            shopsOfVan = new int[Bakery.MAX_VANS];
            vanOfShop = new int[Bakery.MAX_SHOPS];
            bestShops = new int[Bakery.MAX_VANS];
            arrival = new int[Bakery.MAX_SHOPS];
        }

        /** Takes from a night when the shops are ready. */
        void gather(Bakery bakery, Night night) {
            Arrays.fill(due, LAST_MINUTE);
            Arrays.fill(load, 0);
            Arrays.fill(readyAt, 0);
            int ordering = 0;
            missed = 0;
            for (int number = 0; number < bakery.orderTotal; number++) {
                if (bakery.hasOrder(number)) {
                    Order order = bakery.orders[number];
                    ordering |= 1 << order.shop;
                    if (night.ready[number] == NONE) {
                        missed |= 1 << order.shop;
                    }
                    due[order.shop] = Math.min(due[order.shop], order.by);
                    load[order.shop] += order.loaves;
                    readyAt[order.shop] = Math.max(readyAt[order.shop], night.ready[number]);
                }
            }
            served = ordering & ~missed;
        }

        /** Finds the best plan; the assignments are tried in lexicographic order, so that the first of equals stays. */
        void choose(Bakery bakery) {
            possible = false;
            int leastMinutes = 0;
            measureSets(bakery);
            int ways = firstWay(bakery);
            for (int way = 0; way < ways; way++) {
                if (canCarry(bakery)) {
                    int late = 0;
                    int minutes = 0;
                    for (int van = 0; van < bakery.vanTotal; van++) {
                        late += setLate[shopsOfVan[van]];
                        minutes += setMinutes[shopsOfVan[van]];
                    }
                    if (!possible || late < lateTotal || late == lateTotal && minutes < leastMinutes) {
                        possible = true;
                        lateTotal = late;
                        leastMinutes = minutes;
                        System.arraycopy(shopsOfVan, 0, bestShops, 0, bestShops.length);
                    }
                }
                nextWay(bakery);
            }
            for (int van = 0; van < bakery.vanTotal && possible; van++) {
                drive(bakery.roads, bestShops[van]);
            }
        }

        /** For a night from minute 0: the latest start with which no shop is missed or late, NONE if there is none. */
        int latest(Bakery bakery) {
            if (missed != 0) {
                return NONE;
            }
            int latest = NONE;
            measureSets(bakery);
            int ways = firstWay(bakery);
            for (int way = 0; way < ways; way++) {
                if (canCarry(bakery)) {
                    int slack = LAST_MINUTE;
                    for (int van = 0; van < bakery.vanTotal; van++) {
                        slack = Math.min(slack, setSlack[shopsOfVan[van]]);
                    }
                    latest = Math.max(latest, slack);
                }
                nextWay(bakery);
            }
            return latest;
        }

        /** Assigns all served shops to the first van; returns in how many ways they can be assigned to the vans. */
        private int firstWay(Bakery bakery) {
            Arrays.fill(shopsOfVan, 0);
            Arrays.fill(vanOfShop, 0);
            shopsOfVan[0] = served;
            if (bakery.roads.restOfRoute(Roads.HOME, served) >= Roads.UNREACHED) {
                return 0;
            }
            int ways = 1;
            for (int i = 0; i < Integer.bitCount(served); i++) {
                ways *= bakery.vanTotal;
            }
            return ways;
        }

        /** Counts on, as with a number that has the vans as digits: the last shop that can gets the next van. */
        private void nextWay(Bakery bakery) {
            for (int shop = Bakery.MAX_SHOPS - 1; shop >= 0; shop--) {
                int bit = 1 << shop;
                if ((served & bit) != 0) {
                    int next = vanOfShop[shop] + 1 < bakery.vanTotal ? vanOfShop[shop] + 1 : 0;
                    shopsOfVan[vanOfShop[shop]] &= ~bit;
                    shopsOfVan[next] |= bit;
                    vanOfShop[shop] = next;
                    if (next != 0) {
                        return;
                    }
                }
            }
        }

        private boolean canCarry(Bakery bakery) {
            for (int van = 0; van < bakery.vanTotal; van++) {
                if (setLoad[shopsOfVan[van]] > bakery.vanLoads[van]) {
                    return false;
                }
            }
            return true;
        }

        private void measureSets(Bakery bakery) {
            for (int set = 0; set <= served; set++) {
                if ((set & ~served) == 0) {
                    drive(bakery.roads, set);
                }
            }
        }

        /** Drives the shortest route through a set of shops and notes what comes of it. */
        private void drive(Roads roads, int set) {
            int departure = departureFor(set);
            int minute = departure;
            int place = Roads.HOME;
            int left = set;
            setLoad[set] = 0;
            setLate[set] = 0;
            setSlack[set] = LAST_MINUTE;
            for (int stop = 0; stop < Bakery.MAX_SHOPS && left != 0; stop++) {
                int shop = roads.nextStop(place, left);
                if (shop >= Bakery.MAX_SHOPS) {
                    return;
                }
                minute += roads.between(place, shop);
                arrival[shop] = minute;
                setLoad[set] += load[shop];
                setLate[set] += minute > due[shop] ? 1 : 0;
                setSlack[set] = Math.min(setSlack[set], due[shop] - minute);
                left &= ~(1 << shop);
                place = shop;
            }
            setMinutes[set] = minute - departure;
        }

        private int departureFor(int set) {
            int minute = 0;
            for (int shop = 0; shop < Bakery.MAX_SHOPS; shop++) {
                if ((set >> shop & 1) != 0) {
                    minute = Math.max(minute, readyAt[shop]);
                }
            }
            return minute;
        }

        int missedTotal() {
            return Integer.bitCount(missed);
        }

        int vanFor(int shop) {
            for (int van = 0; van < Bakery.MAX_VANS && possible; van++) {
                if ((bestShops[van] >> shop & 1) != 0) {
                    return van;
                }
            }
            return NONE;
        }

        int departureOf(int van) {
            return possible && bestShops[van] != 0 ? departureFor(bestShops[van]) : NONE;
        }

        int staleTotal(Bakery bakery, Night night) {
            int total = 0;
            for (int number = 0; number < bakery.orderTotal; number++) {
                Order order = bakery.orders[number];
                if (bakery.hasOrder(number) && vanFor(order.shop) != NONE) {
                    int age = arrival[order.shop] - night.oldest[number];
                    total += age > bakery.doughs[order.dough].keep ? 1 : 0;
                }
            }
            return total;
        }
    }
}
