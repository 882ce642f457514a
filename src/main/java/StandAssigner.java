import java.util.Arrays;
import java.util.NoSuchElementException;

/** An assigner of aircraft to the stands of an airport on one day. */
public final class StandAssigner {
    private static final int LAST_MINUTE = 1440;
    private static final int MOST_STANDS = 8;
    private static final int MOST_TURNS = 10;
    private static final int MOST_STAYS = 2 * MOST_TURNS;
    private static final int MOST_MOVES = 3;
    private static final int MOST_CHANGES = 6;
    private static final int MOST_CHARACTERS = 60;
    private static final int LARGEST_SIZE = 3;
    private static final int GREATEST_LIMIT = 6;
    private static final int GREATEST_WEIGHT = 9;
    private static final int GATE = 0;
    private static final int REMOTE = 2;
    private static final int FIRST_BUFFER = 15;
    private static final int GREATEST_BUFFER = 60;
    private static final int LONGEST_DELAY = 300;
    private static final int SHORTEST_TURN = 30;
    private static final int BEFORE_TOW = 10;
    private static final int TOW_LENGTH = 10;
    private static final int AFTER_TOW = 20;
    private static final int TOW_COST = 10;
    private static final int APRON_RATE = 2;
    private static final int REMOTE_RATE = 5;
    private static final int NO_STAND_RATE = 20;
    private static final int NONE = -1;

    private final Airport airport;
    private final Airport trial;
    private final Airport saved;
    private final History history;
    private final Text text;
    private final FirstRepair firstRepair;
    private final EveryRow everyRow;
    private final int[] comings;
    private boolean isSaved;
    private int keptReason;
    private int keptPosition;

    public StandAssigner() {
        airport = new Airport();
        trial = new Airport();
        saved = new Airport();
        history = new History();
        text = new Text();
        firstRepair = new FirstRepair();
        everyRow = new EveryRow();
        comings = new int[LAST_MINUTE + 1];
        isSaved = false;
        keptReason = 0;
        keptPosition = NONE;
    }

    // ---- stands

    public int clear() {
        int turns = airport.turns;
        airport.makeEmpty();
        history.forgetAll();
        return turns;
    }

    public int addStand(int kind, int size) throws IllegalArgumentException, IllegalStateException {
        if (kind < GATE || kind > REMOTE || size < 0 || size > LARGEST_SIZE) {
            throw new IllegalArgumentException("kind or size out of range");
        }
        if (airport.stands >= MOST_STANDS) {
            throw new IllegalStateException("no more stands");
        }
        history.remember(airport);
        return airport.newStand(kind, size);
    }

    public int pair(int stand, int other, int limit) throws IndexOutOfBoundsException, IllegalArgumentException {
        if (!airport.hasStand(stand) || !airport.hasStand(other)) {
            throw new IndexOutOfBoundsException("no such stand");
        }
        if (stand == other || limit < NONE || limit > GREATEST_LIMIT) {
            throw new IllegalArgumentException("the same stand, or limit out of range");
        }
        history.remember(airport);
        return airport.changeLimit(stand, other, limit);
    }

    public boolean setOpen(int stand, boolean isOpen) throws IndexOutOfBoundsException {
        if (!airport.hasStand(stand)) {
            throw new IndexOutOfBoundsException("no such stand");
        }
        history.remember(airport);
        return airport.changeOpen(stand, isOpen);
    }

    public int setBuffer(int buffer) throws IllegalArgumentException {
        if (buffer < 0 || buffer > GREATEST_BUFFER) {
            throw new IllegalArgumentException("buffer out of range");
        }
        history.remember(airport);
        int was = airport.buffer;
        airport.buffer = buffer;
        return was;
    }

    public int stand(int stand, int what) throws IndexOutOfBoundsException, IllegalArgumentException {
        if (!airport.hasStand(stand)) {
            throw new IndexOutOfBoundsException("no such stand");
        }
        switch (what) {
            case 0:
                return airport.kinds[stand];
            case 1:
                return airport.standSizes[stand];
            case 2:
                return airport.isOpened(stand) ? 1 : 0;
            case 3:
                return airport.partnersOf(stand);
            case 4:
                return Integer.bitCount(airport.staysOn(stand));
            case 5:
                return airport.lengthOf(airport.staysOn(stand));
            case 6:
                return airport.troubledOn(stand);
            default:
                throw new IllegalArgumentException("what is not 0 to 6");
        }
    }

    public int at(int stand, int minute)
            throws IndexOutOfBoundsException, IllegalArgumentException, NoSuchElementException {
        if (!airport.hasStand(stand)) {
            throw new IndexOutOfBoundsException("no such stand");
        }
        if (minute < 0 || minute > LAST_MINUTE) {
            throw new IllegalArgumentException("minute out of range");
        }
        int number = airport.stayAt(stand, minute);
        if (number < 0) {
            throw new NoSuchElementException("no stay at this minute");
        }
        return number;
    }

    public int gap(int stand, int minute) throws IndexOutOfBoundsException, IllegalArgumentException {
        if (!airport.hasStand(stand)) {
            throw new IndexOutOfBoundsException("no such stand");
        }
        if (minute < 0 || minute > LAST_MINUTE) {
            throw new IllegalArgumentException("minute out of range");
        }
        return airport.freeFrom(stand, minute);
    }

    // ---- turns and stays

    public int addTurn(int size, int arrival, int departure, int weight)
            throws IllegalArgumentException, IllegalStateException {
        if (size < 0 || size > LARGEST_SIZE || weight < 1 || weight > GREATEST_WEIGHT) {
            throw new IllegalArgumentException("size or weight out of range");
        }
        if (arrival < 0 || arrival > LAST_MINUTE || departure < 0 || departure > LAST_MINUTE) {
            throw new IllegalArgumentException("minute out of range");
        }
        if (departure - arrival < SHORTEST_TURN) {
            throw new IllegalArgumentException("departure too early");
        }
        if (airport.turns >= MOST_TURNS) {
            throw new IllegalStateException("no more turns");
        }
        history.remember(airport);
        return airport.newTurn(size, arrival, departure, weight);
    }

    public int turn(int turn, int what) throws IndexOutOfBoundsException, IllegalArgumentException {
        if (!airport.hasTurn(turn)) {
            throw new IndexOutOfBoundsException("no such turn");
        }
        switch (what) {
            case 0:
                return airport.sizes[turn];
            case 1:
                return airport.arrivals[turn];
            case 2:
                return airport.departures[turn];
            case 3:
                return airport.weights[turn];
            case 4:
                return airport.tows[turn];
            case 5:
                return airport.costOfTurn(turn);
            default:
                throw new IllegalArgumentException("what is not 0 to 5");
        }
    }

    public int ofStay(int turn, int stay, int what) throws IndexOutOfBoundsException, IllegalArgumentException {
        if (!airport.hasStay(turn, stay)) {
            throw new IndexOutOfBoundsException("no such turn or stay");
        }
        int number = 2 * turn + stay;
        switch (what) {
            case 0:
                return airport.begins[number];
            case 1:
                return airport.ends[number];
            case 2:
                return airport.standOf[number];
            case 3:
                return airport.costOfStay(number);
            case 4:
                return airport.conflictsOf(number);
            case 5:
                return airport.isHindered(number) ? 1 : 0;
            default:
                throw new IllegalArgumentException("what is not 0 to 5");
        }
    }

    public int place(int turn, int stay, int stand) throws IndexOutOfBoundsException, UnsupportedOperationException {
        if (!airport.hasStay(turn, stay) || !airport.hasStand(stand)) {
            throw new IndexOutOfBoundsException("no such turn, stay or stand");
        }
        int number = 2 * turn + stay;
        int refusal = airport.refusal(number, stand);
        if (refusal != 0) {
            keptReason = refusal;
            throw new UnsupportedOperationException("refused");
        }
        history.remember(airport);
        int was = airport.standOf[number];
        airport.standOf[number] = stand;
        return was;
    }

    public int whyNot(int turn, int stay, int stand) throws IndexOutOfBoundsException {
        if (!airport.hasStay(turn, stay) || !airport.hasStand(stand)) {
            throw new IndexOutOfBoundsException("no such turn, stay or stand");
        }
        return airport.refusal(2 * turn + stay, stand);
    }

    public int options(int turn, int stay) throws IndexOutOfBoundsException {
        if (!airport.hasStay(turn, stay)) {
            throw new IndexOutOfBoundsException("no such turn or stay");
        }
        return airport.standsFor(2 * turn + stay);
    }

    public int cheapest(int turn, int stay) throws IndexOutOfBoundsException, NoSuchElementException {
        if (!airport.hasStay(turn, stay)) {
            throw new IndexOutOfBoundsException("no such turn or stay");
        }
        int stand = airport.cheapestFor(2 * turn + stay);
        if (stand < 0) {
            throw new NoSuchElementException("no stand for this stay");
        }
        return stand;
    }

    public int lift(int turn, int stay) throws IndexOutOfBoundsException, IllegalStateException {
        if (!airport.hasStay(turn, stay)) {
            throw new IndexOutOfBoundsException("no such turn or stay");
        }
        int number = 2 * turn + stay;
        int was = airport.standOf[number];
        if (was < 0) {
            throw new IllegalStateException("on no stand");
        }
        history.remember(airport);
        airport.standOf[number] = NONE;
        return was;
    }

    public int reason() throws NoSuchElementException {
        if (keptReason == 0) {
            throw new NoSuchElementException("no reason was kept");
        }
        return keptReason;
    }

    public int tow(int turn, int minute)
            throws IndexOutOfBoundsException, IllegalArgumentException, IllegalStateException {
        if (!airport.hasTurn(turn)) {
            throw new IndexOutOfBoundsException("no such turn");
        }
        if (!airport.isTowMinute(turn, minute)) {
            throw new IllegalArgumentException("no minute for a tow");
        }
        if (airport.hasTow(turn)) {
            throw new IllegalStateException("it has a tow");
        }
        history.remember(airport);
        return airport.divide(turn, minute);
    }

    public int untow(int turn) throws IndexOutOfBoundsException, IllegalStateException {
        if (!airport.hasTurn(turn)) {
            throw new IndexOutOfBoundsException("no such turn");
        }
        if (!airport.hasTow(turn)) {
            throw new IllegalStateException("it has no tow");
        }
        history.remember(airport);
        return airport.join(turn);
    }

    public int delay(int turn, int minutes)
            throws IndexOutOfBoundsException, IllegalArgumentException, IllegalStateException {
        if (!airport.hasTurn(turn)) {
            throw new IndexOutOfBoundsException("no such turn");
        }
        if (minutes < 1 || minutes > LONGEST_DELAY) {
            throw new IllegalArgumentException("minutes out of range");
        }
        if (airport.departureAfter(turn, minutes) > LAST_MINUTE) {
            throw new IllegalStateException("the departure would be too late");
        }
        history.remember(airport);
        return airport.postpone(turn, minutes);
    }

    // ---- assigning and repairs

    public int assignAll() {
        history.remember(airport);
        return airport.placeEverything();
    }

    public int towGain(int turn, int minute)
            throws IndexOutOfBoundsException, IllegalArgumentException, IllegalStateException {
        if (!airport.hasTurn(turn)) {
            throw new IndexOutOfBoundsException("no such turn");
        }
        if (!airport.isTowMinute(turn, minute)) {
            throw new IllegalArgumentException("no minute for a tow");
        }
        if (airport.hasTow(turn)) {
            throw new IllegalStateException("it has a tow");
        }
        trial.copyFrom(airport);
        trial.placeEverything();
        int without = trial.costOfAll();
        trial.copyFrom(airport);
        trial.divide(turn, minute);
        trial.placeEverything();
        return without - trial.costOfAll();
    }

    public int leastMoves() throws NoSuchElementException {
        if (!firstRepair.find(airport)) {
            throw new NoSuchElementException("no repair");
        }
        return firstRepair.moves;
    }

    public int leastAgain() throws NoSuchElementException {
        int least = everyRow.least(airport);
        if (least > MOST_MOVES) {
            throw new NoSuchElementException("no repair");
        }
        return least;
    }

    public int moveOf(int move, boolean isStand) throws NoSuchElementException {
        if (!firstRepair.find(airport) || move < 0 || move >= firstRepair.moves) {
            throw new NoSuchElementException("no repair or no such move");
        }
        return isStand ? firstRepair.targets[move] : firstRepair.moved[move];
    }

    public int repair() throws NoSuchElementException {
        if (!firstRepair.find(airport)) {
            throw new NoSuchElementException("no repair");
        }
        history.remember(airport);
        for (int move = 0; move < firstRepair.moves; move++) {
            airport.standOf[firstRepair.moved[move]] = firstRepair.targets[move];
        }
        airport.movedByRepairs += firstRepair.moves;
        return firstRepair.moves;
    }

    public int conflicts() {
        int ends = 0;
        for (int number = 0; number < MOST_STAYS; number++) {
            ends += Integer.bitCount(airport.conflictsOf(number));
        }
        // Each pair was met from both of its stays.
        return ends >> 1;
    }

    // ---- accounts

    public int account(int account) throws IllegalArgumentException {
        switch (account) {
            case 0:
                return airport.stands;
            case 1:
                return airport.turns;
            case 2:
                return Integer.bitCount(airport.allStays());
            case 3:
                return Integer.bitCount(airport.staysOnStands());
            case 4:
                return airport.costOfAll();
            case 5:
                return Integer.bitCount(airport.allStays()) - airport.turns;
            case 6:
                return airport.lengthOf(airport.allStays());
            case 7:
                return airport.lengthOf(airport.staysOnStands());
            case 8:
                return Integer.bitCount(airport.hinderedStays());
            case 9:
                return airport.movedByRepairs;
            case 10:
                return airport.weightsOnRemote();
            default:
                throw new IllegalArgumentException("account is not 0 to 10");
        }
    }

    public int minutes() {
        Arrays.fill(comings, 0);
        for (int number = 0; number < MOST_STAYS; number++) {
            if (airport.isOnStand(number)) {
                comings[airport.begins[number]]++;
                comings[airport.ends[number]]--;
            }
        }
        int there = 0;
        int sum = 0;
        for (int minute = 0; minute < LAST_MINUTE; minute++) {
            there += comings[minute];
            sum += there;
        }
        return sum;
    }

    public int peak(boolean isMinute) {
        int greatest = 0;
        int first = 0;
        // The number rises only where a stay begins, so no other minute can be the first.
        for (int number = 0; number < MOST_STAYS; number++) {
            if (airport.isOnStand(number)) {
                int minute = airport.begins[number];
                int there = airport.thereAt(minute);
                if (there > greatest || there == greatest && minute < first) {
                    greatest = there;
                    first = minute;
                }
            }
        }
        return isMinute ? first : greatest;
    }

    public float meanCost() throws ArithmeticException {
        int turns = airport.turns;
        if (turns == 0) {
            throw new ArithmeticException("no turns");
        }
        return (float) airport.costOfAll() / (float) turns;
    }

    // ---- texts, history and saving

    public int append(char character) throws IllegalArgumentException, IllegalStateException {
        if (character < ' ' || character > '~') {
            throw new IllegalArgumentException("character out of range");
        }
        if (text.length >= MOST_CHARACTERS) {
            throw new IllegalStateException("the input is full");
        }
        return text.add(character);
    }

    public int read() throws IllegalArgumentException, IllegalStateException {
        int wrong = text.wrongPosition();
        if (wrong >= 0) {
            keptPosition = wrong;
            text.makeEmpty();
            throw new IllegalArgumentException("not a text of this kind");
        }
        // The entries are done to a copy, so that a failing one leaves nothing of those before it.
        trial.copyFrom(airport);
        text.goToStart();
        int entries = 0;
        boolean isDone = true;
        while (isDone && entries < MOST_CHARACTERS && text.position < text.length) {
            isDone = text.readEntry() && doEntry();
            entries++;
        }
        text.makeEmpty();
        if (!isDone) {
            throw new IllegalStateException("an entry cannot be done");
        }
        history.remember(airport);
        airport.copyFrom(trial);
        return entries;
    }

    public int errorPosition() throws NoSuchElementException {
        if (keptPosition < 0) {
            throw new NoSuchElementException("no error position was kept");
        }
        return keptPosition;
    }

    public int undo() throws NoSuchElementException {
        if (history.count == 0) {
            throw new NoSuchElementException("no change is remembered");
        }
        history.takeBack(airport);
        return history.count;
    }

    public int save() {
        saved.copyFrom(airport);
        isSaved = true;
        return saved.turns;
    }

    public int restore() throws IllegalStateException {
        if (!isSaved) {
            throw new IllegalStateException("nothing was saved");
        }
        airport.copyFrom(saved);
        history.forgetAll();
        return airport.turns;
    }

    /** Does the entry that was read last to the trial; false if it cannot be done. */
    private boolean doEntry() {
        int turn = text.numbers[0];
        int second = text.numbers[1];
        char letter = text.letter;
        if (letter == 'p') {
            return placeInTrial(turn, second, text.numbers[2]);
        }
        if (letter == 'l') {
            return liftInTrial(turn, second);
        }
        if (letter == 'd') {
            return delayInTrial(turn, second);
        }
        if (letter == 't') {
            return towInTrial(turn, second);
        }
        trial.placeEverything();
        return true;
    }

    private boolean placeInTrial(int turn, int stay, int stand) {
        if (!trial.hasStay(turn, stay) || !trial.hasStand(stand)) {
            return false;
        }
        int refusal = trial.refusal(2 * turn + stay, stand);
        if (refusal != 0) {
            keptReason = refusal;
            return false;
        }
        trial.standOf[2 * turn + stay] = stand;
        return true;
    }

    private boolean liftInTrial(int turn, int stay) {
        if (!trial.hasStay(turn, stay) || trial.standOf[2 * turn + stay] < 0) {
            return false;
        }
        trial.standOf[2 * turn + stay] = NONE;
        return true;
    }

    private boolean delayInTrial(int turn, int minutes) {
        if (!trial.hasTurn(turn) || minutes < 1 || minutes > LONGEST_DELAY
                || trial.departureAfter(turn, minutes) > LAST_MINUTE) {
            return false;
        }
        trial.postpone(turn, minutes);
        return true;
    }

    private boolean towInTrial(int turn, int minute) {
        if (!trial.hasTurn(turn) || !trial.isTowMinute(turn, minute) || trial.hasTow(turn)) {
            return false;
        }
        trial.divide(turn, minute);
        return true;
    }

    /** All that the history remembers: stands, turns and where the stays are. */
    private static final class Airport {
        int stands;
        int turns;
        int buffer;
        int movedByRepairs;
        private int openStands;
        final int[] kinds;
        final int[] standSizes;
        final int[] limits;
        final int[] sizes;
        final int[] arrivals;
        final int[] departures;
        final int[] weights;
        final int[] tows;
        // By the number of the stay; one that does not exist is on no stand and has no length.
        final int[] begins;
        final int[] ends;
        final int[] standOf;

        Airport() {
            buffer = FIRST_BUFFER;
            kinds = new int[MOST_STANDS];
            standSizes = new int[MOST_STANDS];
            limits = new int[MOST_STANDS * MOST_STANDS];
            sizes = new int[MOST_TURNS];
            arrivals = new int[MOST_TURNS];
            departures = new int[MOST_TURNS];
            weights = new int[MOST_TURNS];
            tows = new int[MOST_TURNS];
            begins = new int[MOST_STAYS];
            ends = new int[MOST_STAYS];
            standOf = new int[MOST_STAYS];
            Arrays.fill(standOf, NONE);
        }

        void makeEmpty() {
            stands = 0;
            turns = 0;
            buffer = FIRST_BUFFER;
            movedByRepairs = 0;
            openStands = 0;
            Arrays.fill(standOf, NONE);
        }

        void copyFrom(Airport other) {
            stands = other.stands;
            turns = other.turns;
            buffer = other.buffer;
            movedByRepairs = other.movedByRepairs;
            openStands = other.openStands;
            System.arraycopy(other.kinds, 0, kinds, 0, MOST_STANDS);
            System.arraycopy(other.standSizes, 0, standSizes, 0, MOST_STANDS);
            System.arraycopy(other.limits, 0, limits, 0, MOST_STANDS * MOST_STANDS);
            System.arraycopy(other.sizes, 0, sizes, 0, MOST_TURNS);
            System.arraycopy(other.arrivals, 0, arrivals, 0, MOST_TURNS);
            System.arraycopy(other.departures, 0, departures, 0, MOST_TURNS);
            System.arraycopy(other.weights, 0, weights, 0, MOST_TURNS);
            System.arraycopy(other.tows, 0, tows, 0, MOST_TURNS);
            System.arraycopy(other.begins, 0, begins, 0, MOST_STAYS);
            System.arraycopy(other.ends, 0, ends, 0, MOST_STAYS);
            System.arraycopy(other.standOf, 0, standOf, 0, MOST_STAYS);
        }

        boolean hasStand(int stand) {
            return stand >= 0 && stand < stands && stand < MOST_STANDS;
        }

        boolean hasTurn(int turn) {
            return turn >= 0 && turn < turns && turn < MOST_TURNS;
        }

        boolean hasTow(int turn) {
            return tows[turn] >= 0;
        }

        boolean hasStay(int turn, int stay) {
            return hasTurn(turn) && (stay == 0 || stay == 1 && hasTow(turn));
        }

        boolean isOnStand(int number) {
            return standOf[number] >= 0;
        }

        int newStand(int kind, int size) {
            int stand = stands;
            kinds[stand] = kind;
            standSizes[stand] = size;
            openStands |= 1 << stand;
            for (int other = 0; other < MOST_STANDS; other++) {
                limits[stand * MOST_STANDS + other] = NONE;
                limits[other * MOST_STANDS + stand] = NONE;
            }
            stands = stand + 1;
            return stand;
        }

        boolean isOpened(int stand) {
            return (openStands >> stand & 1) != 0;
        }

        /** Returns whether the stand was open. */
        boolean changeOpen(int stand, boolean isOpen) {
            boolean was = isOpened(stand);
            openStands = isOpen ? openStands | 1 << stand : openStands & ~(1 << stand);
            return was;
        }

        /** Returns the previous limit. */
        int changeLimit(int stand, int other, int limit) {
            int was = limits[stand * MOST_STANDS + other];
            limits[stand * MOST_STANDS + other] = limit;
            limits[other * MOST_STANDS + stand] = limit;
            return was;
        }

        int newTurn(int size, int arrival, int departure, int weight) {
            int turn = turns;
            sizes[turn] = size;
            arrivals[turn] = arrival;
            departures[turn] = departure;
            weights[turn] = weight;
            tows[turn] = NONE;
            setStays(turn);
            turns = turn + 1;
            return turn;
        }

        private void setStays(int turn) {
            int first = 2 * turn;
            int departure = departures[turn];
            begins[first] = arrivals[turn];
            ends[first] = hasTow(turn) ? tows[turn] : departure;
            begins[first + 1] = hasTow(turn) ? tows[turn] + TOW_LENGTH : departure;
            ends[first + 1] = departure;
        }

        boolean isTowMinute(int turn, int minute) {
            return minute >= arrivals[turn] + BEFORE_TOW && minute <= departures[turn] - AFTER_TOW;
        }

        /** Returns the length of stay 1. */
        int divide(int turn, int minute) {
            tows[turn] = minute;
            setStays(turn);
            return ends[2 * turn + 1] - begins[2 * turn + 1];
        }

        /** Returns where stay 1 was. */
        int join(int turn) {
            int was = standOf[2 * turn + 1];
            tows[turn] = NONE;
            standOf[2 * turn + 1] = NONE;
            setStays(turn);
            return was;
        }

        int towAfter(int turn, int minutes) {
            return Math.max(tows[turn], arrivals[turn] + minutes + BEFORE_TOW);
        }

        int departureAfter(int turn, int minutes) {
            int departure = Math.max(departures[turn], arrivals[turn] + minutes + SHORTEST_TURN);
            return hasTow(turn) ? Math.max(departure, towAfter(turn, minutes) + AFTER_TOW) : departure;
        }

        /** Returns by how many minutes the departure is later. */
        int postpone(int turn, int minutes) {
            int was = departures[turn];
            departures[turn] = departureAfter(turn, minutes);
            if (hasTow(turn)) {
                tows[turn] = towAfter(turn, minutes);
            }
            arrivals[turn] += minutes;
            setStays(turn);
            return departures[turn] - was;
        }

        boolean isThere(int number, int minute) {
            return begins[number] <= minute && minute < ends[number];
        }

        int allStays() {
            int set = 0;
            for (int turn = 0; turn < turns; turn++) {
                set |= (hasTow(turn) ? 3 : 1) << 2 * turn;
            }
            return set;
        }

        int staysOnStands() {
            int set = 0;
            for (int number = 0; number < MOST_STAYS; number++) {
                if (isOnStand(number)) {
                    set |= 1 << number;
                }
            }
            return set;
        }

        int staysOn(int stand) {
            int set = 0;
            for (int number = 0; number < MOST_STAYS; number++) {
                if (standOf[number] == stand) {
                    set |= 1 << number;
                }
            }
            return set;
        }

        int hinderedStays() {
            int set = 0;
            for (int number = 0; number < MOST_STAYS; number++) {
                if (isHindered(number)) {
                    set |= 1 << number;
                }
            }
            return set;
        }

        int troubledOn(int stand) {
            int set = 0;
            for (int number = 0; number < MOST_STAYS; number++) {
                if (standOf[number] == stand && isTroubled(number)) {
                    set |= 1 << number;
                }
            }
            return set;
        }

        int partnersOf(int stand) {
            int set = 0;
            for (int other = 0; other < stands; other++) {
                if (limits[stand * MOST_STANDS + other] >= 0) {
                    set |= 1 << other;
                }
            }
            return set;
        }

        int lengthOf(int set) {
            int sum = 0;
            for (int number = 0; number < MOST_STAYS; number++) {
                if ((set >> number & 1) != 0) {
                    sum += ends[number] - begins[number];
                }
            }
            return sum;
        }

        /** Returns the lowest stay on a stand at a minute, or -1. */
        int stayAt(int stand, int minute) {
            for (int number = 0; number < MOST_STAYS; number++) {
                if (standOf[number] == stand && isThere(number, minute)) {
                    return number;
                }
            }
            return NONE;
        }

        int freeFrom(int stand, int minute) {
            if (stayAt(stand, minute) >= 0) {
                return 0;
            }
            int next = LAST_MINUTE;
            for (int number = 0; number < MOST_STAYS; number++) {
                if (standOf[number] == stand && begins[number] > minute) {
                    next = Math.min(next, begins[number]);
                }
            }
            return next - minute;
        }

        int thereAt(int minute) {
            int there = 0;
            for (int number = 0; number < MOST_STAYS; number++) {
                if (isOnStand(number) && isThere(number, minute)) {
                    there++;
                }
            }
            return there;
        }

        boolean isLargeEnough(int stand, int number) {
            return standSizes[stand] >= sizes[number >> 1];
        }

        boolean isHindered(int number) {
            if (!isOnStand(number)) {
                return false;
            }
            int stand = standOf[number];
            return !isOpened(stand) || !isLargeEnough(stand, number);
        }

        boolean isTroubled(int number) {
            return isHindered(number) || conflictsOf(number) != 0;
        }

        boolean isSound() {
            for (int number = 0; number < MOST_STAYS; number++) {
                if (isTroubled(number)) {
                    return false;
                }
            }
            return true;
        }

        /** Whether two stays would be in conflict on these stands. */
        boolean wouldClash(int number, int stand, int other, int otherStand) {
            if (stand == otherStand) {
                return begins[other] < ends[number] + buffer && begins[number] < ends[other] + buffer;
            }
            int limit = limits[stand * MOST_STANDS + otherStand];
            return limit >= 0 && sizes[number >> 1] + sizes[other >> 1] > limit
                && begins[other] < ends[number] && begins[number] < ends[other];
        }

        /** Returns the stays with which a stay would be in conflict on a stand. */
        int clashesOn(int number, int stand) {
            int set = 0;
            for (int other = 0; other < MOST_STAYS; other++) {
                int otherStand = standOf[other];
                if (other != number && otherStand >= 0 && wouldClash(number, stand, other, otherStand)) {
                    set |= 1 << other;
                }
            }
            return set;
        }

        int conflictsOf(int number) {
            return isOnStand(number) ? clashesOn(number, standOf[number]) : 0;
        }

        /** Returns the reason why a stay could not be placed on a stand, or 0. */
        int refusal(int number, int stand) {
            if (standOf[number] == stand) {
                return 1;
            }
            if (!isOpened(stand)) {
                return 2;
            }
            if (!isLargeEnough(stand, number)) {
                return 3;
            }
            int clashes = clashesOn(number, stand);
            if (clashes == 0) {
                return 0;
            }
            return (clashes & staysOn(stand)) != 0 ? 4 : 5;
        }

        int standsFor(int number) {
            int set = 0;
            for (int stand = 0; stand < stands; stand++) {
                if (refusal(number, stand) == 0) {
                    set |= 1 << stand;
                }
            }
            return set;
        }

        /** Returns the cheapest stand on which a stay could be placed, or -1. */
        int cheapestFor(int number) {
            int best = NONE;
            for (int stand = 0; stand < stands; stand++) {
                // A higher kind is always dearer, whatever the weight.
                if ((best < 0 || kinds[stand] < kinds[best]) && refusal(number, stand) == 0) {
                    best = stand;
                }
            }
            return best;
        }

        int costOfStay(int number) {
            int stand = standOf[number];
            int rate = stand < 0 ? NO_STAND_RATE : rateOf(kinds[stand]);
            return rate * weights[number >> 1];
        }

        private static int rateOf(int kind) {
            if (kind == GATE) {
                return 0;
            }
            return kind == REMOTE ? REMOTE_RATE : APRON_RATE;
        }

        int costOfTurn(int turn) {
            int cost = costOfStay(2 * turn);
            return hasTow(turn) ? cost + TOW_COST + costOfStay(2 * turn + 1) : cost;
        }

        int costOfAll() {
            int cost = 0;
            for (int turn = 0; turn < turns; turn++) {
                cost += costOfTurn(turn);
            }
            return cost;
        }

        boolean isOnRemote(int number) {
            return isOnStand(number) && kinds[standOf[number]] == REMOTE;
        }

        int weightsOnRemote() {
            int sum = 0;
            for (int turn = 0; turn < turns; turn++) {
                if (isOnRemote(2 * turn) || isOnRemote(2 * turn + 1)) {
                    sum += weights[turn];
                }
            }
            return sum;
        }

        boolean comesBefore(int number, int other) {
            if (begins[number] != begins[other]) {
                return begins[number] < begins[other];
            }
            if (weights[number >> 1] != weights[other >> 1]) {
                return weights[number >> 1] > weights[other >> 1];
            }
            return number < other;
        }

        /** Returns the stay of a set that is to be assigned first, or -1 if the set is empty. */
        int firstOf(int set) {
            int first = NONE;
            for (int number = 0; number < MOST_STAYS; number++) {
                if ((set >> number & 1) != 0 && (first < 0 || comesBefore(number, first))) {
                    first = number;
                }
            }
            return first;
        }

        /** Assigns all; returns the number of stays that are placed. */
        int placeEverything() {
            int waiting = allStays() & ~staysOnStands();
            int placed = 0;
            for (int round = 0; round < MOST_STAYS; round++) {
                int number = firstOf(waiting);
                if (number < 0) {
                    return placed;
                }
                waiting &= ~(1 << number);
                int stand = cheapestFor(number);
                if (stand >= 0) {
                    standOf[number] = stand;
                    placed++;
                }
            }
            return placed;
        }
    }

    /** The airport as it was before the latest changes, in a ring that is used again. */
    private static final class History {
        private final Airport[] before;
        private int first;
        int count;

        History() {
            before = new Airport[MOST_CHANGES];
            for (int change = 0; change < MOST_CHANGES; change++) {
                before[change] = new Airport();
            }
        }

        void forgetAll() {
            count = 0;
        }

        void remember(Airport now) {
            before[(first + count) % MOST_CHANGES].copyFrom(now);
            if (count < MOST_CHANGES) {
                count++;
            } else {
                first = (first + 1) % MOST_CHANGES;
            }
        }

        void takeBack(Airport now) {
            if (count > 0) {
                count--;
                now.copyFrom(before[(first + count) % MOST_CHANGES]);
            }
        }
    }

    /** The input, and the entry that was read from it last. */
    private static final class Text {
        // In a shape, these two stand for a digit and for minutes; any other sign stands for itself.
        private static final char DIGIT = '#';
        private static final char MINUTES = '*';
        private static final int MOST_DIGITS = 4;
        private static final int MOST_NUMBERS = 3;

        private final char[] characters;
        final int[] numbers;
        private int found;
        int length;
        int position;
        char letter;

        Text() {
            characters = new char[MOST_CHARACTERS];
            numbers = new int[MOST_NUMBERS];
        }

        void makeEmpty() {
            length = 0;
        }

        int add(char character) {
            if (length < MOST_CHARACTERS) {
                characters[length] = character;
                length++;
            }
            return length;
        }

        void goToStart() {
            position = 0;
        }

        /** Returns the error position, or -1 if the input is one or several entries. */
        int wrongPosition() {
            goToStart();
            if (length == 0) {
                return 0;
            }
            for (int count = 0; count < MOST_CHARACTERS && position < length; count++) {
                if (!readEntry()) {
                    return position;
                }
            }
            return NONE;
        }

        /** Reads the entry at the position; if it is not right, the position is where it goes wrong. */
        boolean readEntry() {
            if (position >= length) {
                return false;
            }
            letter = characters[position];
            String shape = shapeOf(letter);
            if (shape.isEmpty()) {
                return false;
            }
            position++;
            found = 0;
            for (int index = 0; index < shape.length(); index++) {
                if (!readSign(shape.charAt(index))) {
                    return false;
                }
            }
            return true;
        }

        private static String shapeOf(char letter) {
            if (letter == 'p') {
                return "#.#@#;";
            }
            if (letter == 'l') {
                return "#.#;";
            }
            if (letter == 'd') {
                return "#+*;";
            }
            if (letter == 't') {
                return "#@*;";
            }
            return letter == 'a' ? ";" : "";
        }

        private boolean readSign(char sign) {
            if (sign == DIGIT) {
                return readNumber(1);
            }
            if (sign == MINUTES) {
                return readNumber(MOST_DIGITS);
            }
            if (position >= length || characters[position] != sign) {
                return false;
            }
            position++;
            return true;
        }

        private boolean readNumber(int mostDigits) {
            int value = 0;
            int digits = 0;
            while (digits < mostDigits && isDigitNext()) {
                value = 10 * value + (characters[position] - '0');
                position++;
                digits++;
            }
            if (digits == 0 || found >= MOST_NUMBERS) {
                return false;
            }
            numbers[found] = value;
            found++;
            return true;
        }

        private boolean isDigitNext() {
            return position < length && characters[position] >= '0' && characters[position] <= '9';
        }
    }

    /** For each stay on a stand and each stand, the stays with which it would be in conflict there. */
    private static final class Clashes {
        private final int[] clashes;
        private final int[] fitting;
        private final int[] own;
        final int[] stays;
        private int hindered;
        private int stands;
        int count;

        Clashes() {
            clashes = new int[MOST_STAYS * MOST_STANDS];
            fitting = new int[MOST_STAYS];
            own = new int[MOST_STAYS];
            stays = new int[MOST_STAYS];
        }

        void lookAt(Airport airport) {
            hindered = airport.hinderedStays();
            stands = airport.stands;
            count = 0;
            for (int number = 0; number < MOST_STAYS; number++) {
                if (airport.isOnStand(number)) {
                    stays[count] = number;
                    count++;
                    lookAtStay(airport, number);
                }
            }
        }

        private void lookAtStay(Airport airport, int number) {
            int standNow = airport.standOf[number];
            own[number] = airport.clashesOn(number, standNow);
            fitting[number] = 0;
            for (int stand = 0; stand < stands; stand++) {
                if (stand != standNow && airport.isOpened(stand) && airport.isLargeEnough(stand, number)) {
                    fitting[number] |= 1 << stand;
                    clashes[number * MOST_STANDS + stand] = airport.clashesOn(number, stand);
                }
            }
        }

        /** Whether the stays on stands beside a set would be neither hindered nor in conflict without it. */
        boolean isRestSound(int set) {
            if ((hindered & ~set) != 0) {
                return false;
            }
            for (int index = 0; index < count; index++) {
                int number = stays[index];
                if ((set >> number & 1) == 0 && (own[number] & ~set) != 0) {
                    return false;
                }
            }
            return true;
        }

        /** Returns the other stands on which a stay would be sound beside the stays that are not in a set. */
        int freeFor(int number, int set) {
            int free = 0;
            for (int stand = 0; stand < stands; stand++) {
                if ((fitting[number] >> stand & 1) != 0
                        && (clashes[number * MOST_STANDS + stand] & ~set) == 0) {
                    free |= 1 << stand;
                }
            }
            return free;
        }
    }

    /** Looks for the first repair in the order in which repairs are compared. */
    private static final class FirstRepair {
        private final Clashes clashes;
        private final int[] free;
        final int[] moved;
        final int[] targets;
        int moves;

        FirstRepair() {
            clashes = new Clashes();
            free = new int[MOST_MOVES];
            moved = new int[MOST_MOVES];
            targets = new int[MOST_MOVES];
        }

        /** Whether there is a repair; its moves are then kept here. */
        boolean find(Airport airport) {
            moves = 0;
            if (airport.isSound()) {
                return true;
            }
            clashes.lookAt(airport);
            for (int count = 1; count <= MOST_MOVES; count++) {
                moves = count;
                if (chooseStays(this, airport, 0, 0)) {
                    return true;
                }
            }
            return false;
        }

        private static boolean chooseStays(FirstRepair search, Airport airport, int depth, int from) {
            if (depth >= search.moves || depth >= MOST_MOVES) {
                return search.canBeMoved() && chooseStands(search, airport, 0);
            }
            for (int index = from; index < search.clashes.count; index++) {
                search.moved[depth] = search.clashes.stays[index];
                if (chooseStays(search, airport, depth + 1, index + 1)) {
                    return true;
                }
            }
            return false;
        }

        private boolean canBeMoved() {
            int set = 0;
            for (int move = 0; move < moves; move++) {
                set |= 1 << moved[move];
            }
            if (!clashes.isRestSound(set)) {
                return false;
            }
            for (int move = 0; move < moves; move++) {
                free[move] = clashes.freeFor(moved[move], set);
                if (free[move] == 0) {
                    return false;
                }
            }
            return true;
        }

        private static boolean chooseStands(FirstRepair search, Airport airport, int depth) {
            if (depth >= search.moves || depth >= MOST_MOVES) {
                return true;
            }
            for (int stand = 0; stand < MOST_STANDS; stand++) {
                if ((search.free[depth] >> stand & 1) != 0
                        && search.agreesWithEarlier(airport, depth, stand)) {
                    search.targets[depth] = stand;
                    if (chooseStands(search, airport, depth + 1)) {
                        return true;
                    }
                }
            }
            return false;
        }

        private boolean agreesWithEarlier(Airport airport, int depth, int stand) {
            for (int move = 0; move < depth; move++) {
                if (airport.wouldClash(moved[depth], stand, moved[move], targets[move])) {
                    return false;
                }
            }
            return true;
        }
    }

    /** The second way to the number of moves: every set of stays, and for each every row of stands. */
    private static final class EveryRow {
        // A row is a number with three bits for the stand of each stay of the set.
        private static final int STAND_BITS = 3;

        private final Clashes clashes;
        private final int[] chosen;
        private final int[] free;
        private int least;

        EveryRow() {
            clashes = new Clashes();
            chosen = new int[MOST_MOVES];
            free = new int[MOST_MOVES];
        }

        /** Returns the least number of moves, or one more than is allowed if there is no repair. */
        int least(Airport airport) {
            clashes.lookAt(airport);
            least = MOST_MOVES + 1;
            trySet(airport, 0);
            for (int first = 0; first < clashes.count; first++) {
                chosen[0] = clashes.stays[first];
                trySet(airport, 1);
                for (int second = first + 1; second < clashes.count; second++) {
                    chosen[1] = clashes.stays[second];
                    trySet(airport, 2);
                    for (int third = second + 1; third < clashes.count; third++) {
                        chosen[2] = clashes.stays[third];
                        trySet(airport, 3);
                    }
                }
            }
            return least;
        }

        private void trySet(Airport airport, int size) {
            if (size >= least) {
                return;
            }
            int set = 0;
            for (int index = 0; index < size; index++) {
                set |= 1 << chosen[index];
            }
            if (!clashes.isRestSound(set)) {
                return;
            }
            for (int index = 0; index < size; index++) {
                free[index] = clashes.freeFor(chosen[index], set);
                if (free[index] == 0) {
                    return;
                }
            }
            int rows = 1 << STAND_BITS * size;
            for (int row = 0; row < rows; row++) {
                if (isRowSound(airport, row, size)) {
                    least = size;
                    return;
                }
            }
        }

        private boolean isRowSound(Airport airport, int row, int size) {
            for (int index = 0; index < size; index++) {
                int stand = standIn(row, index);
                if ((free[index] >> stand & 1) == 0) {
                    return false;
                }
                for (int other = 0; other < index; other++) {
                    if (airport.wouldClash(chosen[index], stand, chosen[other], standIn(row, other))) {
                        return false;
                    }
                }
            }
            return true;
        }

        private static int standIn(int row, int index) {
            return row >> STAND_BITS * index & MOST_STANDS - 1;
        }
    }
}
