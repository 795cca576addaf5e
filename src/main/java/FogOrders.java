import java.util.Arrays;

/** Seats with armies on a round map, whose hidden orders are opened all at once. */
public final class FogOrders {
    public static final int NONE = -1;

    private static final int FIELDS = 12;
    private static final int SEATS = 3;
    private static final int MOST_ARMIES = 9;
    private static final int MOST_SAVED = 6;
    private static final int MOST_CODES = 60;

    private static final int HOLD = 0;
    private static final int MOVE = 1;
    private static final int SUPPORT = 2;

    // The numbers of an army stand in the order in which armyOf tells them.
    private static final int SEAT = 0;
    private static final int FIELD = 1;
    private static final int KIND = 2;
    private static final int TO = 3;
    private static final int FROM = 4;
    private static final int SUCCEEDED = 5;
    private static final int FAILED = 6;
    private static final int ARMY_NUMBERS = 7;

    // What is counted stands in the order in which count tells it; what follows is reckoned when asked.
    private static final int ARMIES = 0;
    private static final int YEAR = 1;
    private static final int SEASON = 2;
    private static final int OPENINGS = 3;
    private static final int MOVES_SUCCEEDED = 4;
    private static final int MOVES_FAILED = 5;
    private static final int DRIVEN_OFF = 6;
    private static final int DISBANDED = 7;
    private static final int BUILT = 8;
    private static final int TAKEN_OFF = 9;
    private static final int COUNTED = 10;
    private static final int MOVES_NOW = 10;
    private static final int SUPPORTS_NOW = 11;
    private static final int COUNTS = 13;

    private static final int SPRING = 0;
    private static final int AUTUMN = 1;

    private static final int OPENED_NUMBERS = 6;
    private static final int FIELD_NUMBERS = 5;
    private static final int SEAT_NUMBERS = 5;

    private static final int RIVAL = 1;
    private static final int SWAP = 2;
    private static final int OWN_ARMY = 3;
    private static final int OTHER_ARMY = 4;

    private final Opening opening = new Opening();
    private final Board board = opening.board;
    // A copy on which orders are tried that nobody gave.
    private final Opening trialOpening = new Opening();
    private final Board trial = trialOpening.board;
    private final History history = new History();
    private final Board snapshot = new Board();
    private boolean hasSnapshot = false;
    private final OrderText text = new OrderText();

    public FogOrders() {
    }

    // ---- armies, orders

    public int army(int seat, int field) throws IndexOutOfBoundsException, IllegalStateException {
        if (!isSeat(seat) || !isField(field)) {
            throw new IndexOutOfBoundsException("no such seat or field");
        }
        if (board.armyOn(field) != NONE || board.number(ARMIES) >= MOST_ARMIES) {
            throw new IllegalStateException("an army stands there, or there are 9");
        }
        history.save(board);
        return board.setUp(seat, field);
    }

    public int drop(int army) throws IndexOutOfBoundsException {
        if (!board.hasArmy(army)) {
            throw new IndexOutOfBoundsException("no such army");
        }
        history.save(board);
        board.remove(army);
        return board.number(ARMIES);
    }

    public int hold(int army) throws IndexOutOfBoundsException {
        if (!board.hasArmy(army)) {
            throw new IndexOutOfBoundsException("no such army");
        }
        history.save(board);
        return board.give(army, HOLD, NONE, NONE);
    }

    public int move(int army, int to) throws IndexOutOfBoundsException, IllegalArgumentException {
        if (!board.hasArmy(army) || !isField(to)) {
            throw new IndexOutOfBoundsException("no such army or field");
        }
        if (!board.canBeGiven(army, MOVE, NONE, to)) {
            throw new IllegalArgumentException("to is no neighbour");
        }
        history.save(board);
        return board.give(army, MOVE, NONE, to);
    }

    public int support(int army, int from, int to) throws IndexOutOfBoundsException, IllegalArgumentException {
        if (!board.hasArmy(army) || !isField(from) || !isField(to)) {
            throw new IndexOutOfBoundsException("no such army or field");
        }
        if (!board.canBeGiven(army, SUPPORT, from, to)) {
            throw new IllegalArgumentException("to is no neighbour, or from is neither to nor a neighbour of to");
        }
        history.save(board);
        return board.give(army, SUPPORT, from, to);
    }

    public int open() {
        history.save(board);
        opening.study();
        return opening.carryOut();
    }

    // ---- texts

    public int append(int code) throws IllegalArgumentException, IllegalStateException {
        if (code < 33 || code > 126) {
            throw new IllegalArgumentException("code is not 33 to 126");
        }
        if (text.size() >= MOST_CODES) {
            throw new IllegalStateException("the buffer has 60 characters");
        }
        text.add(code);
        return text.size();
    }

    public int clearBuffer() {
        int length = text.size();
        text.empty();
        return length;
    }

    public int firstError() {
        return text.errorIndex();
    }

    public int orders() throws IllegalArgumentException {
        if (!text.isComplete()) {
            throw new IllegalArgumentException("the buffer is not complete orders");
        }
        history.save(board);
        int given = giveAll();
        text.empty();
        return given;
    }

    // ---- undo, the snapshot

    public int undo() throws IllegalStateException {
        if (history.size() == 0) {
            throw new IllegalStateException("no saved state");
        }
        history.takeBack(board);
        return history.size();
    }

    public int keep() {
        snapshot.copyFrom(board);
        hasSnapshot = true;
        return board.number(ARMIES);
    }

    public int restore() throws IllegalStateException {
        if (!hasSnapshot) {
            throw new IllegalStateException("no snapshot");
        }
        history.save(board);
        board.copyFrom(snapshot);
        return board.number(ARMIES);
    }

    // ---- looks; nothing is changed

    public int armyOf(int army, int what) throws IndexOutOfBoundsException, IllegalArgumentException {
        if (!board.hasArmy(army)) {
            throw new IndexOutOfBoundsException("no such army");
        }
        if (what < 0 || what >= ARMY_NUMBERS) {
            throw new IllegalArgumentException("what is not 0 to 6");
        }
        return board.of(army, what);
    }

    public int field(int field, int what) throws IndexOutOfBoundsException, IllegalArgumentException {
        if (!isField(field)) {
            throw new IndexOutOfBoundsException("no such field");
        }
        if (what < 0 || what >= FIELD_NUMBERS) {
            throw new IllegalArgumentException("what is not 0 to 4");
        }
        return fieldNumber(field, what);
    }

    public int seat(int seat, int what) throws IndexOutOfBoundsException, IllegalArgumentException {
        if (!isSeat(seat)) {
            throw new IndexOutOfBoundsException("no such seat");
        }
        if (what < 0 || what >= SEAT_NUMBERS) {
            throw new IllegalArgumentException("what is not 0 to 4");
        }
        return seatNumber(seat, what);
    }

    public int count(int what) throws IllegalArgumentException {
        if (what < 0 || what >= COUNTS) {
            throw new IllegalArgumentException("what is not 0 to 12");
        }
        return countNumber(what);
    }

    // ---- what would be; nothing is changed

    public int ifOpened(int army, int what) throws IndexOutOfBoundsException, IllegalArgumentException {
        if (!board.hasArmy(army)) {
            throw new IndexOutOfBoundsException("no such army");
        }
        if (what < 0 || what >= OPENED_NUMBERS) {
            throw new IllegalArgumentException("what is not 0 to 5");
        }
        opening.study();
        return opening.outcome(army, what);
    }

    public int canReach(int army) throws IndexOutOfBoundsException {
        if (!board.hasArmy(army)) {
            throw new IndexOutOfBoundsException("no such army");
        }
        return reachMask(army);
    }

    public int danger() {
        opening.study();
        return opening.mostInDanger();
    }

    public int ifYear(int seat) throws IndexOutOfBoundsException {
        if (!isSeat(seat)) {
            throw new IndexOutOfBoundsException("no such seat");
        }
        opening.study();
        return opening.centresThen(seat);
    }

    public double success() {
        return successShare();
    }

    public long digest() {
        long hash = 3701L;
        for (int what = 0; what < COUNTS; what++) {
            hash = mixed(hash, countNumber(what));
        }
        opening.study();
        hash = mixedArmies(hash);
        hash = mixedFields(hash);
        hash = mixedSeats(hash);
        hash = mixed(hash, opening.mostInDanger());
        hash = mixed(hash, bitsOf(successShare()));
        hash = mixed(hash, text.size());
        for (int i = 0; i < text.size(); i++) {
            hash = mixed(hash, text.codeAt(i));
        }
        return hash;
    }

    // ---- what the calls above are made of

    private int giveAll() {
        int given = 0;
        for (int i = 0; i < text.size(); i++) {
            text.read(i);
            if (text.endsPart(i) && giveRead()) {
                given++;
            }
        }
        return given;
    }

    private boolean giveRead() {
        if (!board.canBeGiven(text.armyRead, text.kindRead, text.fromRead, text.toRead)) {
            return false;
        }
        board.give(text.armyRead, text.kindRead, text.fromRead, text.toRead);
        return true;
    }

    private int fieldNumber(int field, int what) {
        switch (what) {
            case 0:
                return board.armyOn(field);
            case 1:
                return isCentre(field) ? 1 : 0;
            case 2:
                return board.owner(field);
            case 3:
                return board.seatsSeeing(field);
            default:
                return neighbourMask(field);
        }
    }

    private int seatNumber(int seat, int what) {
        switch (what) {
            case 0:
                return board.armiesOf(seat);
            case 1:
                return board.centresOf(seat);
            case 2:
                return board.seenMask(seat);
            case 3:
                return board.lowestFieldOf(seat);
            default:
                return board.othersSeen(seat);
        }
    }

    private int countNumber(int what) {
        if (what < COUNTED) {
            return board.number(what);
        }
        if (what == MOVES_NOW) {
            return board.ordersOf(MOVE);
        }
        return what == SUPPORTS_NOW ? board.ordersOf(SUPPORT) : history.size();
    }

    private int reachMask(int army) {
        trial.copyFrom(board);
        int mask = 0;
        for (int field = 0; field < FIELDS; field++) {
            if (trial.canBeGiven(army, MOVE, NONE, field)) {
                trial.give(army, MOVE, NONE, field);
                trialOpening.decideMoves();
                mask |= trialOpening.goes(army) ? 1 << field : 0;
            }
        }
        return mask;
    }

    private double successShare() {
        int succeeded = board.number(MOVES_SUCCEEDED);
        int moves = succeeded + board.number(MOVES_FAILED);
        return moves > 0 ? (double) succeeded / (double) moves : 1.0;
    }

    private long mixedArmies(long hash) {
        long mix = hash;
        for (int army = 0; army < board.number(ARMIES); army++) {
            for (int what = 0; what < ARMY_NUMBERS; what++) {
                mix = mixed(mix, board.of(army, what));
            }
            for (int what = 0; what < OPENED_NUMBERS; what++) {
                mix = mixed(mix, opening.outcome(army, what));
            }
            mix = mixed(mix, reachMask(army));
        }
        return mix;
    }

    private long mixedFields(long hash) {
        long mix = hash;
        for (int field = 0; field < FIELDS; field++) {
            for (int what = 0; what < FIELD_NUMBERS; what++) {
                mix = mixed(mix, fieldNumber(field, what));
            }
        }
        return mix;
    }

    private long mixedSeats(long hash) {
        long mix = hash;
        for (int seat = 0; seat < SEATS; seat++) {
            for (int what = 0; what < SEAT_NUMBERS; what++) {
                mix = mixed(mix, seatNumber(seat, what));
            }
            mix = mixed(mix, opening.centresThen(seat));
        }
        return mix;
    }

    private static long mixed(long hash, long value) {
        return 31L * hash + value;
    }

    /** The bits of a share, 0.0 to 1.0; the library's own function is not among those allowed. */
    private static long bitsOf(double share) {
        if (!(share > 0.0)) {
            return 0L;
        }
        double scaled = share;
        long exponent = 1023L;
        for (int i = 0; i < 1022 && scaled < 1.0; i++) {
            scaled = scaled * 2.0;
            exponent--;
        }
        long fraction = (long) ((scaled - 1.0) * 4503599627370496.0);
        return (exponent << 52) + fraction;
    }

    private static boolean isSeat(int seat) {
        return seat >= 0 && seat < SEATS;
    }

    private static boolean isField(int field) {
        return field >= 0 && field < FIELDS;
    }

    private static boolean isCentre(int field) {
        return field == 0 || field == 3 || field == 6 || field == 9;
    }

    private static boolean areNeighbours(int field, int other) {
        int gap = field > other ? field - other : other - field;
        return gap == 1 || gap == 4 || gap == 8 || gap == 11;
    }

    private static int neighbourMask(int field) {
        int mask = 0;
        for (int other = 0; other < FIELDS; other++) {
            mask |= areNeighbours(field, other) ? 1 << other : 0;
        }
        return mask;
    }

    private static int entry(int[] row, int index) {
        return index >= 0 && index < row.length ? row[index] : NONE;
    }

    private static void enter(int[] row, int index, int value) {
        if (index >= 0 && index < row.length) {
            row[index] = value;
        }
    }

    /** The state that is saved and kept: armies, their orders, centres and what is counted. */
    private static final class Board {
        private final int[] numbers = new int[COUNTED];
        private final int[] owners = new int[FIELDS];
        private final int[] cells = new int[MOST_ARMIES * ARMY_NUMBERS];

        Board() {
            Arrays.fill(owners, NONE);
        }

        void copyFrom(Board other) {
            System.arraycopy(other.numbers, 0, numbers, 0, COUNTED);
            System.arraycopy(other.owners, 0, owners, 0, FIELDS);
            System.arraycopy(other.cells, 0, cells, 0, MOST_ARMIES * ARMY_NUMBERS);
        }

        int number(int what) {
            return what >= 0 && what < numbers.length ? numbers[what] : NONE;
        }

        void countOne(int what) {
            enter(numbers, what, number(what) + 1);
        }

        int owner(int field) {
            return field >= 0 && field < owners.length ? owners[field] : NONE;
        }

        boolean hasArmy(int army) {
            return army >= 0 && army < number(ARMIES);
        }

        int of(int army, int what) {
            int cell = army * ARMY_NUMBERS + what;
            return cell >= 0 && cell < cells.length ? cells[cell] : NONE;
        }

        void put(int army, int what, int value) {
            int cell = army * ARMY_NUMBERS + what;
            if (cell >= 0 && cell < cells.length) {
                cells[cell] = value;
            }
        }

        int armyOn(int field) {
            for (int army = 0; army < number(ARMIES); army++) {
                if (of(army, FIELD) == field) {
                    return army;
                }
            }
            return NONE;
        }

        int setUp(int seat, int field) {
            int army = number(ARMIES);
            put(army, SEAT, seat);
            put(army, FIELD, field);
            put(army, KIND, HOLD);
            put(army, TO, NONE);
            put(army, FROM, NONE);
            put(army, SUCCEEDED, 0);
            put(army, FAILED, 0);
            enter(numbers, ARMIES, army + 1);
            return army;
        }

        void remove(int army) {
            for (int behind = army + 1; behind < number(ARMIES); behind++) {
                for (int what = 0; what < ARMY_NUMBERS; what++) {
                    put(behind - 1, what, of(behind, what));
                }
            }
            enter(numbers, ARMIES, number(ARMIES) - 1);
        }

        boolean canBeGiven(int army, int kind, int from, int to) {
            if (!hasArmy(army)) {
                return false;
            }
            if (kind == HOLD) {
                return true;
            }
            if (!areNeighbours(of(army, FIELD), to)) {
                return false;
            }
            return kind == MOVE || from == to || areNeighbours(from, to);
        }

        /** Gives an order that can be given; a part of it that the kind does not have becomes NONE. */
        int give(int army, int kind, int from, int to) {
            int before = of(army, KIND);
            put(army, KIND, kind);
            put(army, TO, kind == HOLD ? NONE : to);
            put(army, FROM, kind == SUPPORT ? from : NONE);
            return before;
        }

        int ordersOf(int kind) {
            int found = 0;
            for (int army = 0; army < number(ARMIES); army++) {
                found += of(army, KIND) == kind ? 1 : 0;
            }
            return found;
        }

        int armiesOf(int seat) {
            int found = 0;
            for (int army = 0; army < number(ARMIES); army++) {
                found += of(army, SEAT) == seat ? 1 : 0;
            }
            return found;
        }

        int centresOf(int seat) {
            int found = 0;
            for (int field = 0; field < FIELDS; field++) {
                found += owner(field) == seat ? 1 : 0;
            }
            return found;
        }

        int seenMask(int seat) {
            int mask = 0;
            for (int army = 0; army < number(ARMIES); army++) {
                if (of(army, SEAT) == seat) {
                    mask |= 1 << of(army, FIELD) | neighbourMask(of(army, FIELD));
                }
            }
            return mask;
        }

        int seatsSeeing(int field) {
            int mask = 0;
            for (int army = 0; army < number(ARMIES); army++) {
                boolean sees = of(army, FIELD) == field || areNeighbours(of(army, FIELD), field);
                mask |= sees ? 1 << of(army, SEAT) : 0;
            }
            return mask;
        }

        int lowestFieldOf(int seat) {
            int lowest = NONE;
            for (int army = 0; army < number(ARMIES); army++) {
                int field = of(army, FIELD);
                if (of(army, SEAT) == seat && (lowest == NONE || field < lowest)) {
                    lowest = field;
                }
            }
            return lowest;
        }

        int othersSeen(int seat) {
            int seen = seenMask(seat);
            int found = 0;
            for (int army = 0; army < number(ARMIES); army++) {
                boolean isOther = of(army, SEAT) != seat;
                found += isOther ? seen >> of(army, FIELD) & 1 : 0;
            }
            return found;
        }

        void beginNextSeason() {
            if (number(SEASON) == SPRING) {
                enter(numbers, SEASON, AUTUMN);
                return;
            }
            endYear();
            enter(numbers, SEASON, SPRING);
            countOne(YEAR);
        }

        void endYear() {
            claimCentres();
            for (int seat = 0; seat < SEATS; seat++) {
                int most = centresOf(seat) + 1;
                if (armiesOf(seat) > most) {
                    takeOff(seat, armiesOf(seat) - most);
                } else if (armiesOf(seat) < centresOf(seat)) {
                    build(seat);
                }
            }
        }

        void claimCentres() {
            for (int army = 0; army < number(ARMIES); army++) {
                if (isCentre(of(army, FIELD))) {
                    enter(owners, of(army, FIELD), of(army, SEAT));
                }
            }
        }

        void takeOff(int seat, int excess) {
            int left = excess;
            for (int army = number(ARMIES) - 1; army >= 0 && left > 0; army--) {
                if (of(army, SEAT) == seat) {
                    remove(army);
                    countOne(TAKEN_OFF);
                    left--;
                }
            }
        }

        void build(int seat) {
            if (number(ARMIES) >= MOST_ARMIES) {
                return;
            }
            for (int field = 0; field < FIELDS; field++) {
                if (owner(field) == seat && armyOn(field) == NONE) {
                    setUp(seat, field);
                    countOne(BUILT);
                    return;
                }
            }
        }
    }

    /** What opening the orders of a board means, army by army, up to the end of the retreats. */
    private static final class Opening {
        private final Board board = new Board();
        private final int[] cut = new int[MOST_ARMIES];
        private final int[] counts = new int[MOST_ARMIES];
        private final int[] strength = new int[MOST_ARMIES];
        private final int[] reason = new int[MOST_ARMIES];
        private final int[] driver = new int[MOST_ARMIES];
        private final int[] waits = new int[MOST_ARMIES];
        private final int[] stands = new int[MOST_ARMIES];

        void study() {
            decideMoves();
            comeToFields();
            retreatAll();
        }

        /** The part of the study that tells which moves go; what stands on the fields then is left as it was. */
        void decideMoves() {
            judgeSupports();
            weighOrders();
            failAgainstMoves();
            failAgainstArmies();
        }

        void judgeSupports() {
            for (int army = 0; army < board.number(ARMIES); army++) {
                boolean supports = board.of(army, KIND) == SUPPORT;
                boolean isCut = supports && isCutOff(army);
                boolean isUsed = supports && hasUse(army);
                enter(cut, army, isCut ? 1 : 0);
                enter(counts, army, isUsed && !isCut ? 1 : 0);
            }
        }

        boolean isCutOff(int army) {
            for (int other = 0; other < board.number(ARMIES); other++) {
                if (moves(other)
                        && board.of(other, TO) == board.of(army, FIELD)
                        && board.of(other, SEAT) != board.of(army, SEAT)
                        && board.of(other, FIELD) != board.of(army, TO)) {
                    return true;
                }
            }
            return false;
        }

        boolean hasUse(int army) {
            int helped = board.armyOn(board.of(army, FROM));
            if (helped == NONE || helped == army) {
                return false;
            }
            if (board.of(army, FROM) == board.of(army, TO)) {
                return !moves(helped);
            }
            return moves(helped) && board.of(helped, TO) == board.of(army, TO);
        }

        void weighOrders() {
            for (int army = 0; army < board.number(ARMIES); army++) {
                int from = board.of(army, FIELD);
                int to = moves(army) ? board.of(army, TO) : from;
                enter(strength, army, 1 + supportsOf(from, to));
            }
        }

        int supportsOf(int from, int to) {
            int found = 0;
            for (int army = 0; army < board.number(ARMIES); army++) {
                boolean isForIt = board.of(army, FROM) == from && board.of(army, TO) == to;
                found += isForIt && entry(counts, army) == 1 ? 1 : 0;
            }
            return found;
        }

        /**
         * The reasons 1 and 2 hang on orders alone, and of 3 and 4 the seats leave but one:
         * so the reason for which a move fails first is the first that applies at the end too.
         */
        void failAgainstMoves() {
            for (int army = 0; army < board.number(ARMIES); army++) {
                int why = 0;
                if (moves(army)) {
                    why = hasRival(army) ? RIVAL : losesSwap(army) ? SWAP : 0;
                }
                enter(reason, army, why);
            }
        }

        void failAgainstArmies() {
            boolean again = true;
            // At most all moves fail, one a round; the round behind them finds no more.
            for (int round = 0; round <= MOST_ARMIES && again; round++) {
                again = false;
                for (int army = 0; army < board.number(ARMIES); army++) {
                    int why = goes(army) ? blockOf(army) : 0;
                    if (why != 0) {
                        enter(reason, army, why);
                        again = true;
                    }
                }
            }
        }

        boolean moves(int army) {
            return board.of(army, KIND) == MOVE;
        }

        boolean goes(int army) {
            return board.of(army, KIND) == MOVE && entry(reason, army) == 0;
        }

        boolean hasRival(int army) {
            for (int other = 0; other < board.number(ARMIES); other++) {
                if (other != army && moves(other)
                        && board.of(other, TO) == board.of(army, TO)
                        && entry(strength, other) >= entry(strength, army)) {
                    return true;
                }
            }
            return false;
        }

        boolean losesSwap(int army) {
            int other = board.armyOn(board.of(army, TO));
            return other != NONE && moves(other)
                    && board.of(other, TO) == board.of(army, FIELD)
                    && entry(strength, other) >= entry(strength, army);
        }

        /** The reason that the army on the field gives, if it stays there; 0 if it gives none. */
        int blockOf(int army) {
            int other = board.armyOn(board.of(army, TO));
            if (other == NONE || goes(other)) {
                return 0;
            }
            if (board.of(other, SEAT) == board.of(army, SEAT)) {
                return OWN_ARMY;
            }
            int staying = moves(other) ? 1 : entry(strength, other);
            return staying >= entry(strength, army) ? OTHER_ARMY : 0;
        }

        void comeToFields() {
            for (int army = 0; army < board.number(ARMIES); army++) {
                int by = goes(army) ? NONE : comerTo(board.of(army, FIELD));
                enter(driver, army, by);
                enter(waits, army, by == NONE ? 0 : 1);
                int field = goes(army) ? board.of(army, TO) : board.of(army, FIELD);
                enter(stands, army, by == NONE ? field : NONE);
            }
        }

        int comerTo(int field) {
            for (int army = 0; army < board.number(ARMIES); army++) {
                if (goes(army) && board.of(army, TO) == field) {
                    return army;
                }
            }
            return NONE;
        }

        void retreatAll() {
            for (int turn = 0; turn < board.number(ARMIES); turn++) {
                int army = strongestDriven(true);
                if (army == NONE) {
                    return;
                }
                enter(stands, army, retreatField(army));
                enter(waits, army, 0);
            }
        }

        /** Of the driven off armies (or of those that still wait) the one against which the strength is greatest. */
        int strongestDriven(boolean onlyWaiting) {
            int found = NONE;
            int most = 0;
            for (int army = 0; army < board.number(ARMIES); army++) {
                int by = entry(driver, army);
                boolean isMeant = by != NONE && (!onlyWaiting || entry(waits, army) == 1);
                if (isMeant && entry(strength, by) > most) {
                    found = army;
                    most = entry(strength, by);
                }
            }
            return found;
        }

        int retreatField(int army) {
            int driverCameFrom = board.of(entry(driver, army), FIELD);
            for (int field = 0; field < FIELDS; field++) {
                if (areNeighbours(board.of(army, FIELD), field) && field != driverCameFrom
                        && !isTaken(field) && !wasFoughtFor(field)) {
                    return field;
                }
            }
            return NONE;
        }

        boolean isTaken(int field) {
            for (int army = 0; army < board.number(ARMIES); army++) {
                if (entry(stands, army) == field) {
                    return true;
                }
            }
            return false;
        }

        boolean wasFoughtFor(int field) {
            for (int army = 0; army < board.number(ARMIES); army++) {
                if (entry(reason, army) == RIVAL && board.of(army, TO) == field) {
                    return true;
                }
            }
            return false;
        }

        int outcome(int army, int what) {
            switch (what) {
                case 0:
                    return entry(stands, army);
                case 1:
                    return entry(strength, army);
                case 2:
                    return entry(reason, army);
                case 3:
                    return entry(driver, army) == NONE ? 0 : 1;
                case 4:
                    return entry(counts, army);
                default:
                    return entry(cut, army);
            }
        }

        int mostInDanger() {
            return strongestDriven(false);
        }

        int centresThen(int seat) {
            int found = 0;
            for (int field = 0; field < FIELDS; field++) {
                found += isCentre(field) && ownerThen(field) == seat ? 1 : 0;
            }
            return found;
        }

        int ownerThen(int centre) {
            for (int army = 0; army < board.number(ARMIES); army++) {
                if (entry(stands, army) == centre) {
                    return board.of(army, SEAT);
                }
            }
            return board.owner(centre);
        }

        /** Brings the board to where the study says it goes, and returns how many moves failed. */
        int carryOut() {
            int failed = 0;
            for (int army = 0; army < board.number(ARMIES); army++) {
                if (moves(army)) {
                    failed += goes(army) ? 0 : 1;
                    countMove(army, goes(army));
                }
                if (entry(driver, army) != NONE) {
                    board.countOne(DRIVEN_OFF);
                }
            }
            settle();
            board.countOne(OPENINGS);
            board.beginNextSeason();
            return failed;
        }

        void countMove(int army, boolean succeeded) {
            int what = succeeded ? SUCCEEDED : FAILED;
            board.put(army, what, board.of(army, what) + 1);
            board.countOne(succeeded ? MOVES_SUCCEEDED : MOVES_FAILED);
        }

        /** From the highest number down, so that a disbanded army shifts none that is still to come. */
        void settle() {
            for (int army = board.number(ARMIES) - 1; army >= 0; army--) {
                board.put(army, FIELD, entry(stands, army));
                board.give(army, HOLD, NONE, NONE);
                if (entry(stands, army) == NONE) {
                    board.remove(army);
                    board.countOne(DISBANDED);
                }
            }
        }
    }

    /** The saved states, the latest of them last. */
    private static final class History {
        private final Board[] boards = new Board[MOST_SAVED];
        private int oldest = 0;
        private int saved = 0;

        History() {
            for (int i = 0; i < boards.length; i++) {
                boards[i] = new Board();
            }
        }

        int size() {
            return saved;
        }

        void save(Board board) {
            if (saved == MOST_SAVED) {
                oldest = (oldest + 1) % MOST_SAVED;
                saved--;
            }
            Board place = placeOf(saved);
            if (place != null) {
                place.copyFrom(board);
                saved++;
            }
        }

        void takeBack(Board board) {
            Board latest = placeOf(saved - 1);
            if (latest != null) {
                board.copyFrom(latest);
                saved--;
            }
        }

        /** The place of the state that has so many older ones, null without one. */
        private Board placeOf(int older) {
            if (older < 0) {
                return null;
            }
            int index = (oldest + older) % MOST_SAVED;
            return index >= 0 && index < boards.length ? boards[index] : null;
        }
    }

    /** The buffer, with what it takes to read orders in it. */
    private static final class OrderText {
        // What may come next; at a ONE a second digit may follow the 1 that was read.
        private static final int ERROR = -1;
        private static final int ARMY = 0;
        private static final int LETTER = 1;
        private static final int FIRST_FIELD = 2;
        private static final int FIRST_ONE = 3;
        private static final int DASH = 4;
        private static final int LAST_FIELD = 5;
        private static final int LAST_ONE = 6;
        private static final int PART_END = 7;

        private final int[] codes = new int[MOST_CODES];
        private int length = 0;

        // The part of the orders that was read last.
        private int armyRead = 0;
        private int kindRead = HOLD;
        private int fromRead = 0;
        private int toRead = 0;

        int size() {
            return length;
        }

        int codeAt(int index) {
            return index < length ? entry(codes, index) : NONE;
        }

        void add(int code) {
            if (length < MOST_CODES) {
                enter(codes, length, code);
                length++;
            }
        }

        void empty() {
            length = 0;
        }

        int errorIndex() {
            int state = ARMY;
            for (int i = 0; i < length; i++) {
                state = stateBehind(state, codeAt(i));
                if (state == ERROR) {
                    return i;
                }
            }
            return length;
        }

        boolean isComplete() {
            int state = ARMY;
            for (int i = 0; i < length; i++) {
                state = stateBehind(state, codeAt(i));
            }
            return state == PART_END || state == LAST_ONE;
        }

        private static int stateBehind(int state, int code) {
            switch (state) {
                case ARMY:
                    return code >= '0' && code <= '8' ? LETTER : ERROR;
                case LETTER:
                    return stateBehindLetter(code);
                case FIRST_FIELD:
                    return stateBehindDigit(code, FIRST_ONE, DASH);
                case FIRST_ONE:
                    return code == '0' || code == '1' ? DASH : stateBehindDash(code);
                case DASH:
                    return stateBehindDash(code);
                case LAST_FIELD:
                    return stateBehindDigit(code, LAST_ONE, PART_END);
                case LAST_ONE:
                    return code == '0' || code == '1' ? PART_END : stateBehindPart(code);
                case PART_END:
                    return stateBehindPart(code);
                default:
                    return ERROR;
            }
        }

        private static int stateBehindLetter(int code) {
            switch (code) {
                case 'h':
                    return PART_END;
                case 'm':
                    return LAST_FIELD;
                case 's':
                    return FIRST_FIELD;
                default:
                    return ERROR;
            }
        }

        private static int stateBehindDigit(int code, int behindOne, int behindOther) {
            if (!isDigit(code)) {
                return ERROR;
            }
            return code == '1' ? behindOne : behindOther;
        }

        private static int stateBehindDash(int code) {
            return code == '-' ? LAST_FIELD : ERROR;
        }

        private static int stateBehindPart(int code) {
            return code == ';' ? ARMY : ERROR;
        }

        private static boolean isDigit(int code) {
            return code >= '0' && code <= '9';
        }

        boolean endsPart(int index) {
            return codeAt(index) != ';' && (index + 1 >= length || codeAt(index + 1) == ';');
        }

        /** Reads the next character of complete orders; they are read from the first to the last. */
        void read(int index) {
            int code = codeAt(index);
            if (index == 0 || codeAt(index - 1) == ';') {
                armyRead = code - '0';
                kindRead = HOLD;
                fromRead = 0;
                toRead = 0;
            } else if (isDigit(code)) {
                toRead = toRead * 10 + code - '0';
            } else if (code == '-') {
                fromRead = toRead;
                toRead = 0;
            } else if (code == 'm') {
                kindRead = MOVE;
            } else if (code == 's') {
                kindRead = SUPPORT;
            }
        }
    }
}
