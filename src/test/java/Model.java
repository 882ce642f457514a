import java.util.ArrayDeque;
import java.util.ArrayList;
import java.util.Comparator;
import java.util.Deque;
import java.util.List;
import java.util.NoSuchElementException;
import java.util.regex.Matcher;
import java.util.regex.Pattern;

/** The document once more, as slowly and as near to its words as can be: what StandAssigner is compared with. */
final class Model {
    private static final Pattern TEXT =
        Pattern.compile("(p[0-9]\\.[0-9]@[0-9];|l[0-9]\\.[0-9];|d[0-9]\\+[0-9]{1,4};|t[0-9]@[0-9]{1,4};|a;)+");

    private static final class Stand {
        int kind;
        int size;
        boolean open = true;
    }

    private static final class Turn {
        int size;
        int arrival;
        int departure;
        int weight;
        int tow = -1;
        int[] on = {-1, -1};
    }

    private static final class Stay {
        int number;
        Turn turn;
        int begin;
        int end;
        int on;
    }

    private static final class State {
        int buffer = 15;
        int moved;
        List<Stand> stands = new ArrayList<>();
        List<Turn> turns = new ArrayList<>();
        int[][] limits = new int[8][8];

        State() {
            for (int[] row : limits) {
                java.util.Arrays.fill(row, -1);
            }
        }

        State copy() {
            State copy = new State();
            copy.buffer = buffer;
            copy.moved = moved;
            for (Stand stand : stands) {
                Stand other = new Stand();
                other.kind = stand.kind;
                other.size = stand.size;
                other.open = stand.open;
                copy.stands.add(other);
            }
            for (Turn turn : turns) {
                Turn other = new Turn();
                other.size = turn.size;
                other.arrival = turn.arrival;
                other.departure = turn.departure;
                other.weight = turn.weight;
                other.tow = turn.tow;
                other.on = turn.on.clone();
                copy.turns.add(other);
            }
            for (int row = 0; row < 8; row++) {
                copy.limits[row] = limits[row].clone();
            }
            return copy;
        }
    }

    private State now = new State();
    private State saved;
    private final Deque<State> history = new ArrayDeque<>();
    private final StringBuilder input = new StringBuilder();
    private int reason;
    private int errorPosition = -1;
    private boolean inText;

    // ---- what the calls share

    private void change() {
        if (inText) {
            return;
        }
        history.addLast(now.copy());
        if (history.size() > 6) {
            history.removeFirst();
        }
    }

    private static void need(boolean right, RuntimeException otherwise) {
        if (!right) {
            throw otherwise;
        }
    }

    private void needStand(int stand) {
        need(stand >= 0 && stand < now.stands.size(), new IndexOutOfBoundsException());
    }

    private void needTurn(int turn) {
        need(turn >= 0 && turn < now.turns.size(), new IndexOutOfBoundsException());
    }

    private void needStay(int turn, int stay) {
        needTurn(turn);
        need(stay == 0 || stay == 1 && now.turns.get(turn).tow != -1, new IndexOutOfBoundsException());
    }

    private static void needArgument(boolean right) {
        need(right, new IllegalArgumentException());
    }

    private List<Stay> stays() {
        List<Stay> stays = new ArrayList<>();
        for (int index = 0; index < now.turns.size(); index++) {
            Turn turn = now.turns.get(index);
            for (int part = 0; part < (turn.tow == -1 ? 1 : 2); part++) {
                Stay stay = new Stay();
                stay.number = 2 * index + part;
                stay.turn = turn;
                stay.begin = part == 0 ? turn.arrival : turn.tow + 10;
                stay.end = part == 0 && turn.tow != -1 ? turn.tow : turn.departure;
                stay.on = turn.on[part];
                stays.add(stay);
            }
        }
        return stays;
    }

    private Stay stayOf(int turn, int part) {
        for (Stay stay : stays()) {
            if (stay.number == 2 * turn + part) {
                return stay;
            }
        }
        throw new AssertionError("no stay");
    }

    private boolean conflict(Stay one, Stay other) {
        if (one.number == other.number || one.on < 0 || other.on < 0) {
            return false;
        }
        if (one.on == other.on) {
            if (one.begin == other.begin) {
                return true;
            }
            Stay later = one.begin > other.begin ? one : other;
            Stay earlier = later == one ? other : one;
            return later.begin - earlier.end < now.buffer;
        }
        if (one.turn == other.turn) {
            return false;
        }
        int limit = now.limits[one.on][other.on];
        if (limit == -1 || one.turn.size + other.turn.size <= limit) {
            return false;
        }
        return Math.max(one.begin, other.begin) <= Math.min(one.end, other.end) - 1;
    }

    private boolean hindered(Stay stay) {
        return stay.on >= 0
            && (!now.stands.get(stay.on).open || now.stands.get(stay.on).size < stay.turn.size);
    }

    private int cost(Stay stay) {
        if (stay.on < 0) {
            return 20 * stay.turn.weight;
        }
        return new int[] {0, 2, 5}[now.stands.get(stay.on).kind] * stay.turn.weight;
    }

    private int costOfAll() {
        int cost = 0;
        for (Stay stay : stays()) {
            cost += cost(stay);
        }
        for (Turn turn : now.turns) {
            cost += turn.tow == -1 ? 0 : 10;
        }
        return cost;
    }

    private static boolean sound(Model model, List<Stay> stays) {
        for (Stay one : stays) {
            if (model.hindered(one)) {
                return false;
            }
            for (Stay other : stays) {
                if (model.conflict(one, other)) {
                    return false;
                }
            }
        }
        return true;
    }

    /** The moves of the first repair, each a stay and a stand, or null. */
    private List<int[]> firstRepair() {
        List<Stay> placed = stays();
        placed.removeIf(stay -> stay.on < 0);
        for (int count = 0; count <= 3; count++) {
            List<int[]> moves = choose(placed, new ArrayList<>(), count, 0);
            if (moves != null) {
                return moves;
            }
        }
        return null;
    }

    private List<int[]> choose(List<Stay> placed, List<Stay> chosen, int count, int from) {
        if (chosen.size() == count) {
            List<Stay> rest = new ArrayList<>(placed);
            rest.removeAll(chosen);
            // What remains where it is must be sound by itself, whatever the others do.
            return sound(this, rest) ? rows(placed, chosen, 0) : null;
        }
        for (int index = from; index < placed.size(); index++) {
            chosen.add(placed.get(index));
            List<int[]> moves = choose(placed, chosen, count, index + 1);
            chosen.remove(chosen.size() - 1);
            if (moves != null) {
                return moves;
            }
        }
        return null;
    }

    private List<int[]> rows(List<Stay> placed, List<Stay> chosen, int index) {
        if (index == chosen.size()) {
            if (!sound(this, placed)) {
                return null;
            }
            List<int[]> moves = new ArrayList<>();
            for (Stay stay : chosen) {
                moves.add(new int[] {stay.number, stay.on});
            }
            return moves;
        }
        Stay stay = chosen.get(index);
        int was = stay.on;
        List<int[]> moves = null;
        for (int stand = 0; stand < now.stands.size() && moves == null; stand++) {
            if (stand != was) {
                stay.on = stand;
                moves = rows(placed, chosen, index + 1);
            }
        }
        stay.on = was;
        return moves;
    }

    // ---- stands

    int clear() {
        int turns = now.turns.size();
        now = new State();
        history.clear();
        return turns;
    }

    int addStand(int kind, int size) {
        needArgument(kind >= 0 && kind <= 2 && size >= 0 && size <= 3);
        need(now.stands.size() < 8, new IllegalStateException());
        change();
        Stand stand = new Stand();
        stand.kind = kind;
        stand.size = size;
        now.stands.add(stand);
        return now.stands.size() - 1;
    }

    int pair(int stand, int other, int limit) {
        needStand(stand);
        needStand(other);
        needArgument(stand != other && limit >= -1 && limit <= 6);
        change();
        int was = now.limits[stand][other];
        now.limits[stand][other] = limit;
        now.limits[other][stand] = limit;
        return was;
    }

    boolean setOpen(int stand, boolean isOpen) {
        needStand(stand);
        change();
        boolean was = now.stands.get(stand).open;
        now.stands.get(stand).open = isOpen;
        return was;
    }

    int setBuffer(int buffer) {
        needArgument(buffer >= 0 && buffer <= 60);
        change();
        int was = now.buffer;
        now.buffer = buffer;
        return was;
    }

    int stand(int stand, int what) {
        needStand(stand);
        needArgument(what >= 0 && what <= 6);
        int answer = 0;
        for (int other = 0; what == 3 && other < now.stands.size(); other++) {
            answer += now.limits[stand][other] != -1 ? 1 << other : 0;
        }
        for (Stay stay : stays()) {
            if (stay.on == stand && what == 4) {
                answer++;
            }
            if (stay.on == stand && what == 5) {
                answer += stay.end - stay.begin;
            }
            if (stay.on == stand && what == 6 && (hindered(stay) || conflictsOf(stay) != 0)) {
                answer += 1 << stay.number;
            }
        }
        Stand it = now.stands.get(stand);
        return what == 0 ? it.kind : what == 1 ? it.size : what == 2 ? (it.open ? 1 : 0) : answer;
    }

    private int conflictsOf(Stay stay) {
        int set = 0;
        for (Stay other : stays()) {
            if (conflict(stay, other)) {
                set |= 1 << other.number;
            }
        }
        return set;
    }

    int at(int stand, int minute) {
        needStand(stand);
        needArgument(minute >= 0 && minute <= 1440);
        for (Stay stay : stays()) {
            if (stay.on == stand && stay.begin <= minute && minute <= stay.end - 1) {
                return stay.number;
            }
        }
        throw new NoSuchElementException();
    }

    int gap(int stand, int minute) {
        needStand(stand);
        needArgument(minute >= 0 && minute <= 1440);
        int free = 0;
        for (int next = minute; next < 1440; next++) {
            for (Stay stay : stays()) {
                if (stay.on == stand && stay.begin <= next && next < stay.end) {
                    return free;
                }
            }
            free++;
        }
        return free;
    }

    // ---- turns and stays

    int addTurn(int size, int arrival, int departure, int weight) {
        needArgument(size >= 0 && size <= 3 && weight >= 1 && weight <= 9);
        needArgument(arrival >= 0 && arrival <= 1440 && departure >= 0 && departure <= 1440);
        needArgument(departure >= arrival + 30);
        need(now.turns.size() < 10, new IllegalStateException());
        change();
        Turn turn = new Turn();
        turn.size = size;
        turn.arrival = arrival;
        turn.departure = departure;
        turn.weight = weight;
        now.turns.add(turn);
        return now.turns.size() - 1;
    }

    int turn(int turn, int what) {
        needTurn(turn);
        needArgument(what >= 0 && what <= 5);
        Turn it = now.turns.get(turn);
        int cost = it.tow == -1 ? cost(stayOf(turn, 0)) : cost(stayOf(turn, 0)) + cost(stayOf(turn, 1)) + 10;
        return new int[] {it.size, it.arrival, it.departure, it.weight, it.tow, cost}[what];
    }

    int ofStay(int turn, int stay, int what) {
        needStay(turn, stay);
        needArgument(what >= 0 && what <= 5);
        Stay it = stayOf(turn, stay);
        return new int[] {it.begin, it.end, it.on, cost(it), conflictsOf(it), hindered(it) ? 1 : 0}[what];
    }

    int place(int turn, int stay, int stand) {
        int refusal = whyNot(turn, stay, stand);
        if (refusal != 0) {
            reason = refusal;
            throw new UnsupportedOperationException();
        }
        change();
        int was = now.turns.get(turn).on[stay];
        now.turns.get(turn).on[stay] = stand;
        return was;
    }

    int whyNot(int turn, int stay, int stand) {
        needStay(turn, stay);
        needStand(stand);
        Stay it = stayOf(turn, stay);
        if (it.on == stand) {
            return 1;
        }
        it.on = stand;
        if (hindered(it)) {
            return now.stands.get(stand).open ? 3 : 2;
        }
        boolean elsewhere = false;
        for (Stay other : stays()) {
            if (conflict(it, other)) {
                if (other.on == stand) {
                    return 4;
                }
                elsewhere = true;
            }
        }
        return elsewhere ? 5 : 0;
    }

    int options(int turn, int stay) {
        needStay(turn, stay);
        int set = 0;
        for (int stand = 0; stand < now.stands.size(); stand++) {
            set |= whyNot(turn, stay, stand) == 0 ? 1 << stand : 0;
        }
        return set;
    }

    int cheapest(int turn, int stay) {
        needStay(turn, stay);
        int best = -1;
        int least = Integer.MAX_VALUE;
        for (int stand = 0; stand < now.stands.size(); stand++) {
            Stay it = stayOf(turn, stay);
            it.on = stand;
            if (whyNot(turn, stay, stand) == 0 && cost(it) < least) {
                best = stand;
                least = cost(it);
            }
        }
        need(best >= 0, new NoSuchElementException());
        return best;
    }

    int lift(int turn, int stay) {
        needStay(turn, stay);
        int was = now.turns.get(turn).on[stay];
        need(was >= 0, new IllegalStateException());
        change();
        now.turns.get(turn).on[stay] = -1;
        return was;
    }

    int reason() {
        need(reason != 0, new NoSuchElementException());
        return reason;
    }

    private void needTowable(int turn, int minute) {
        needTurn(turn);
        Turn it = now.turns.get(turn);
        needArgument((long) minute - it.arrival >= 10 && (long) it.departure - minute >= 20);
        need(it.tow == -1, new IllegalStateException());
    }

    int tow(int turn, int minute) {
        needTowable(turn, minute);
        change();
        Turn it = now.turns.get(turn);
        it.tow = minute;
        it.on[1] = -1;
        Stay second = stayOf(turn, 1);
        return second.end - second.begin;
    }

    int untow(int turn) {
        needTurn(turn);
        Turn it = now.turns.get(turn);
        need(it.tow != -1, new IllegalStateException());
        change();
        int was = it.on[1];
        it.tow = -1;
        it.on[1] = -1;
        return was;
    }

    int delay(int turn, int minutes) {
        needTurn(turn);
        needArgument(minutes >= 1 && minutes <= 300);
        Turn it = now.turns.get(turn);
        int arrival = it.arrival + minutes;
        int tow = it.tow;
        if (tow != -1 && tow - arrival < 10) {
            tow = arrival + 10;
        }
        int departure = it.departure;
        while (departure - arrival < 30 || tow != -1 && departure - tow < 20) {
            departure++;
        }
        need(departure <= 1440, new IllegalStateException());
        change();
        int later = departure - it.departure;
        it.arrival = arrival;
        it.tow = tow;
        it.departure = departure;
        return later;
    }

    // ---- assigning and repairing

    int assignAll() {
        change();
        List<Stay> waiting = stays();
        waiting.removeIf(stay -> stay.on >= 0);
        Comparator<Stay> order = Comparator.comparingInt(stay -> stay.begin);
        waiting.sort(order.thenComparingInt(stay -> -stay.turn.weight).thenComparingInt(stay -> stay.number));
        int placed = 0;
        for (Stay stay : waiting) {
            if (options(stay.number / 2, stay.number % 2) != 0) {
                stay.turn.on[stay.number % 2] = cheapest(stay.number / 2, stay.number % 2);
                placed++;
            }
        }
        return placed;
    }

    int towGain(int turn, int minute) {
        needTowable(turn, minute);
        State kept = now;
        inText = true;
        now = kept.copy();
        assignAll();
        int without = costOfAll();
        now = kept.copy();
        tow(turn, minute);
        assignAll();
        int with = costOfAll();
        now = kept;
        inText = false;
        return without - with;
    }

    int leastMoves() {
        List<int[]> moves = firstRepair();
        need(moves != null, new NoSuchElementException());
        return moves.size();
    }

    int moveOf(int move, boolean isStand) {
        List<int[]> moves = firstRepair();
        need(moves != null && move >= 0 && move < moves.size(), new NoSuchElementException());
        return moves.get(move)[isStand ? 1 : 0];
    }

    int repair() {
        List<int[]> moves = firstRepair();
        need(moves != null, new NoSuchElementException());
        change();
        for (int[] move : moves) {
            now.turns.get(move[0] / 2).on[move[0] % 2] = move[1];
        }
        now.moved += moves.size();
        return moves.size();
    }

    int conflicts() {
        int pairs = 0;
        for (Stay one : stays()) {
            for (Stay other : stays()) {
                pairs += one.number < other.number && conflict(one, other) ? 1 : 0;
            }
        }
        return pairs;
    }

    // ---- accounts

    int account(int account) {
        needArgument(account >= 0 && account <= 10);
        int[] sums = new int[11];
        sums[0] = now.stands.size();
        sums[1] = now.turns.size();
        sums[4] = costOfAll();
        sums[9] = now.moved;
        for (Stay stay : stays()) {
            sums[2]++;
            sums[3] += stay.on >= 0 ? 1 : 0;
            sums[6] += stay.end - stay.begin;
            sums[7] += stay.on >= 0 ? stay.end - stay.begin : 0;
            sums[8] += hindered(stay) ? 1 : 0;
        }
        for (int turn = 0; turn < now.turns.size(); turn++) {
            boolean remote = false;
            for (Stay stay : stays()) {
                remote |= stay.number / 2 == turn && stay.on >= 0 && now.stands.get(stay.on).kind == 2;
            }
            sums[10] += remote ? now.turns.get(turn).weight : 0;
            sums[5] += now.turns.get(turn).tow == -1 ? 0 : 1;
        }
        return sums[account];
    }

    private int thereAt(int minute) {
        int there = 0;
        for (Stay stay : stays()) {
            there += stay.on >= 0 && stay.begin <= minute && minute < stay.end ? 1 : 0;
        }
        return there;
    }

    int minutes() {
        int sum = 0;
        for (int minute = 0; minute <= 1440; minute++) {
            sum += thereAt(minute);
        }
        return sum;
    }

    int peak(boolean isMinute) {
        int greatest = 0;
        int first = 0;
        for (int minute = 0; minute <= 1440; minute++) {
            if (thereAt(minute) > greatest) {
                greatest = thereAt(minute);
                first = minute;
            }
        }
        return isMinute ? first : greatest;
    }

    float meanCost() {
        need(!now.turns.isEmpty(), new ArithmeticException());
        return (float) costOfAll() / (float) now.turns.size();
    }

    // ---- texts, history and saving

    int append(char character) {
        needArgument(character >= 32 && character <= 126);
        need(input.length() < 60, new IllegalStateException());
        input.append(character);
        return input.length();
    }

    int read() {
        String text = input.toString();
        input.setLength(0);
        if (!TEXT.matcher(text).matches()) {
            errorPosition = positionOf(text);
            throw new IllegalArgumentException();
        }
        State before = now.copy();
        inText = true;
        int entries = 0;
        try {
            for (String entry : text.split(";")) {
                doEntry(entry);
                entries++;
            }
        } catch (RuntimeException thrown) {
            now = before;
            throw new IllegalStateException();
        } finally {
            inText = false;
        }
        State after = now;
        now = before;
        change();
        now = after;
        return entries;
    }

    private static int positionOf(String text) {
        for (int index = 0; index < text.length(); index++) {
            Matcher matcher = TEXT.matcher(text.substring(0, index + 1));
            if (!matcher.matches() && !matcher.hitEnd()) {
                return index;
            }
        }
        return text.length();
    }

    private void doEntry(String entry) {
        String[] numbers = entry.substring(1).split("[.@+]");
        if (entry.charAt(0) == 'a') {
            assignAll();
            return;
        }
        int turn = Integer.parseInt(numbers[0]);
        int second = Integer.parseInt(numbers[1]);
        switch (entry.charAt(0)) {
            case 'p':
                place(turn, second, Integer.parseInt(numbers[2]));
                break;
            case 'l':
                lift(turn, second);
                break;
            case 'd':
                delay(turn, second);
                break;
            default:
                tow(turn, second);
        }
    }

    int errorPosition() {
        need(errorPosition >= 0, new NoSuchElementException());
        return errorPosition;
    }

    int undo() {
        need(!history.isEmpty(), new NoSuchElementException());
        now = history.removeLast();
        return history.size();
    }

    int save() {
        saved = now.copy();
        return now.turns.size();
    }

    int restore() {
        need(saved != null, new IllegalStateException());
        now = saved.copy();
        history.clear();
        return now.turns.size();
    }
}
