import java.util.NoSuchElementException;

/** Promises 22 to 28. */
public final class RepairsTest {
    private static final Class<IndexOutOfBoundsException> INDEX = IndexOutOfBoundsException.class;
    private static final Class<IllegalArgumentException> ARGUMENT = IllegalArgumentException.class;
    private static final Class<IllegalStateException> STATE = IllegalStateException.class;
    private static final Class<NoSuchElementException> NOTHING = NoSuchElementException.class;
    private static final Due due = new Due("RepairsTest");

    public static void main(String[] args) {
        assigningByBeginning();
        assigningByWeight();
        assigningByNumber();
        assigningTheRest();
        gainOfTow();
        wrongGains();
        noMoves();
        oneMove();
        closedBeside();
        aSwap();
        threeMoves();
        fourMoves();
        firstStays();
        noStand();
        countingConflicts();
        due.end();
    }

    private static void assigningByBeginning() {
        StandAssigner a = new StandAssigner();
        a.addStand(0, 3);
        a.addTurn(1, 50, 150, 9);
        a.addTurn(1, 49, 150, 1);
        due.is("22: one has room", 1, a::assignAll);
        due.is("22: the earlier one", 0, () -> a.ofStay(1, 0, 2));
        due.is("22: not the heavier one", -1, () -> a.ofStay(0, 0, 2));
        due.is("22: again none", 0, a::assignAll);
    }

    private static void assigningByWeight() {
        StandAssigner a = new StandAssigner();
        a.addStand(2, 3);
        a.addStand(0, 3);
        a.addStand(1, 3);
        a.addStand(1, 3);
        a.addTurn(1, 50, 150, 1);
        a.addTurn(1, 50, 150, 3);
        a.addTurn(1, 50, 150, 2);
        due.is("22: all", 3, a::assignAll);
        due.is("22: the heaviest at the gate", 1, () -> a.ofStay(1, 0, 2));
        due.is("22: then the lowest apron", 2, () -> a.ofStay(2, 0, 2));
        due.is("22: then the other", 3, () -> a.ofStay(0, 0, 2));
    }

    private static void assigningByNumber() {
        StandAssigner a = new StandAssigner();
        a.addStand(1, 3);
        a.addStand(2, 3);
        a.addTurn(1, 50, 150, 4);
        a.addTurn(1, 50, 150, 4);
        due.is("22: both", 2, a::assignAll);
        due.is("22: the first on the cheaper one", 0, () -> a.ofStay(0, 0, 2));
        due.is("22: the second on the other", 1, () -> a.ofStay(1, 0, 2));
    }

    private static void assigningTheRest() {
        StandAssigner a = new StandAssigner();
        a.addStand(1, 3);
        a.addStand(0, 3);
        a.addTurn(1, 0, 200, 4);
        a.addTurn(1, 50, 150, 4);
        a.place(1, 0, 0);
        a.tow(0, 20);
        due.is("22: both parts", 1, a::assignAll);
        due.is("22: those placed remain", 0, () -> a.ofStay(1, 0, 2));
        due.is("22: stay 0 first", 1, () -> a.ofStay(0, 0, 2));
        due.is("22: stay 1 has no room", -1, () -> a.ofStay(0, 1, 2));
    }

    private static void gainOfTow() {
        StandAssigner a = new StandAssigner();
        a.addStand(0, 3);
        a.addStand(0, 3);
        a.addTurn(1, 200, 300, 1);
        a.addTurn(1, 0, 100, 1);
        a.addTurn(1, 0, 300, 3);
        a.place(0, 0, 0);
        a.place(1, 0, 1);
        due.is("23: a part on each", 20 * 3 - 10, () -> a.towGain(2, 150));
        due.is("23: just the buffer at the end of stay 0", 50, () -> a.towGain(2, 185));
        due.is("23: stay 0 has no room", -10, () -> a.towGain(2, 186));
        due.is("23: just the buffer before stay 1", 50, () -> a.towGain(2, 105));
        due.is("23: stay 1 has no room", -10, () -> a.towGain(2, 104));
        due.is("23: nothing is placed", 2, () -> a.account(3));
        due.is("23: no tow", 0, () -> a.account(5));
        due.is("23: no change is added", 5, a::undo);
        due.is("23: all is assigned without it too", -10, () -> a.towGain(2, 150));
    }

    private static void wrongGains() {
        StandAssigner a = new StandAssigner();
        a.addTurn(1, 100, 200, 9);
        due.refuses("23: no turn", INDEX, () -> a.towGain(1, 150));
        due.refuses("23: no turn comes first", INDEX, () -> a.towGain(-1, -1));
        due.refuses("23: too early", ARGUMENT, () -> a.towGain(0, 109));
        due.refuses("23: too late", ARGUMENT, () -> a.towGain(0, 181));
        due.is("23: earliest", -190, () -> a.towGain(0, 110));
        due.is("23: latest", -190, () -> a.towGain(0, 180));
        a.tow(0, 150);
        due.refuses("23: it has a tow", STATE, () -> a.towGain(0, 150));
        due.refuses("23: the minute comes first", ARGUMENT, () -> a.towGain(0, 109));
    }

    private static void noMoves() {
        StandAssigner a = new StandAssigner();
        a.addStand(0, 3);
        a.addTurn(1, 0, 60, 1);
        due.is("24: none", 0, a::leastMoves);
        due.is("25: none", 0, a::leastAgain);
        due.refuses("26: no such move", NOTHING, () -> a.moveOf(0, true));
        due.refuses("26: no move -1", NOTHING, () -> a.moveOf(-1, false));
        due.is("27: of nothing", 0, a::repair);
        due.is("27: it is a change", 2, a::undo);
    }

    private static void oneMove() {
        StandAssigner a = new StandAssigner();
        a.addStand(0, 3);
        a.addStand(2, 3);
        a.addStand(0, 3);
        a.addTurn(1, 0, 60, 1);
        a.addTurn(1, 100, 160, 1);
        a.place(0, 0, 0);
        a.place(1, 0, 0);
        a.delay(0, 60);
        due.is("28: a conflict", 1, a::conflicts);
        due.is("24: one", 1, a::leastMoves);
        due.is("25: one", 1, a::leastAgain);
        due.is("26: the lowest stay", 0, () -> a.moveOf(0, false));
        due.is("26: the lowest stand", 1, () -> a.moveOf(0, true));
        due.refuses("26: no second", NOTHING, () -> a.moveOf(1, true));
        due.is("29: none yet", 0, () -> a.account(9));
        due.is("27: carried out", 1, a::repair);
        due.is("27: the stay is there", 1, () -> a.ofStay(0, 0, 2));
        due.is("27: no conflict", 0, a::conflicts);
        due.is("29: moved", 1, () -> a.account(9));
        due.is("36: undone", 5, a::undo);
        due.is("29: goes back", 0, () -> a.account(9));
        due.is("36: the stay too", 0, () -> a.ofStay(0, 0, 2));
    }

    private static void closedBeside() {
        StandAssigner a = new StandAssigner();
        a.addStand(0, 1);
        a.addStand(0, 3);
        a.addStand(0, 2);
        a.addTurn(1, 0, 60, 1);
        a.addTurn(2, 100, 160, 1);
        a.addTurn(2, 100, 160, 1);
        a.place(1, 0, 1);
        a.place(2, 0, 2);
        a.place(0, 0, 1);
        a.setOpen(2, false);
        due.refuses("24: no room", NOTHING, a::leastMoves);
        due.refuses("25: no room", NOTHING, a::leastAgain);
        due.refuses("26: no room", NOTHING, () -> a.moveOf(0, false));
        due.refuses("27: no room", NOTHING, a::repair);
        due.is("29: one is hindered", 1, () -> a.account(8));
        a.delay(2, 100);
        due.is("24: behind the other", 1, a::leastMoves);
        due.is("26: that stay", 4, () -> a.moveOf(0, false));
        due.is("26: that stand", 1, () -> a.moveOf(0, true));
    }

    /** Only when two change places, the larger one is not beside the other large one. */
    private static void aSwap() {
        StandAssigner a = new StandAssigner();
        int[] sizes = {3, 1, 3};
        for (int number = 0; number < 3; number++) {
            a.addStand(0, 3);
            a.addTurn(sizes[number], 0, 100, 1);
            a.place(number, 0, number);
        }
        a.pair(0, 2, 4);
        due.is("28: by the pair", 1, a::conflicts);
        due.is("24: two change places", 2, a::leastMoves);
        due.is("25: two change places", 2, a::leastAgain);
        due.is("26: the one", 0, () -> a.moveOf(0, false));
        due.is("26: onto the stand of the other", 1, () -> a.moveOf(0, true));
        due.is("26: the other", 2, () -> a.moveOf(1, false));
        due.is("26: onto the stand of the one", 0, () -> a.moveOf(1, true));
        a.pair(0, 2, 3);
        due.refuses("24: not with a lower limit", NOTHING, a::leastMoves);
        due.refuses("25: not with a lower limit", NOTHING, a::leastAgain);
    }

    private static void threeMoves() {
        StandAssigner a = new StandAssigner();
        a.addStand(0, 3);
        a.addStand(0, 3);
        a.addTurn(1, 0, 60, 1);
        a.addTurn(1, 100, 160, 1);
        a.addTurn(1, 200, 260, 1);
        for (int turn = 0; turn < 3; turn++) {
            a.place(turn, 0, 0);
        }
        a.setOpen(0, false);
        due.is("24: three", 3, a::leastMoves);
        due.is("25: three", 3, a::leastAgain);
        for (int move = 0; move < 3; move++) {
            int asked = move;
            due.is("26: stay of move " + move, 2 * move, () -> a.moveOf(asked, false));
            due.is("26: stand of move " + move, 1, () -> a.moveOf(asked, true));
        }
        due.refuses("26: no fourth", NOTHING, () -> a.moveOf(3, false));
        due.is("27: three", 3, a::repair);
        due.is("29: three were moved", 3, () -> a.account(9));
        a.setOpen(0, true);
        a.setOpen(1, false);
        due.is("27: three back", 3, a::repair);
        due.is("29: six were moved", 6, () -> a.account(9));
    }

    private static void fourMoves() {
        StandAssigner a = new StandAssigner();
        a.addStand(0, 3);
        a.addStand(0, 3);
        for (int turn = 0; turn < 4; turn++) {
            a.addTurn(1, 100 * turn, 100 * turn + 60, 1);
            a.place(turn, 0, 0);
        }
        a.setOpen(0, false);
        due.refuses("24: four are too many", NOTHING, a::leastMoves);
        due.refuses("25: four are too many", NOTHING, a::leastAgain);
    }

    /** Moving the higher stay alone comes before moving two lower ones. */
    private static void firstStays() {
        StandAssigner a = new StandAssigner();
        a.addStand(0, 3);
        a.addStand(0, 3);
        a.addTurn(1, 0, 60, 1);
        a.addTurn(1, 0, 60, 1);
        a.addTurn(1, 100, 160, 1);
        a.place(0, 0, 0);
        a.place(1, 0, 1);
        a.place(2, 0, 1);
        a.setOpen(1, false);
        a.addStand(2, 3);
        due.is("24: two hindered", 2, a::leastMoves);
        due.is("25: two hindered", 2, a::leastAgain);
        due.is("26: first stay", 2, () -> a.moveOf(0, false));
        due.is("26: not on the taken one", 2, () -> a.moveOf(0, true));
        due.is("26: second stay", 4, () -> a.moveOf(1, false));
        due.is("26: lowest stand", 0, () -> a.moveOf(1, true));
        a.setOpen(2, false);
        due.refuses("24: one has no room", NOTHING, a::leastMoves);
        due.refuses("25: one has no room", NOTHING, a::leastAgain);
        a.addStand(0, 0);
        a.setOpen(1, true);
        a.pair(0, 1, 1);
        due.is("28: a pair in conflict", 1, a::conflicts);
        due.refuses("24: no other stand", NOTHING, a::leastMoves);
        a.setOpen(2, true);
        due.is("24: a sound one may be the first", 1, a::leastMoves);
        due.is("26: its stay", 0, () -> a.moveOf(0, false));
        due.is("26: its stand", 2, () -> a.moveOf(0, true));
    }

    private static void noStand() {
        StandAssigner a = new StandAssigner();
        a.addStand(0, 3);
        a.addStand(0, 1);
        a.addTurn(3, 0, 60, 1);
        a.addTurn(1, 0, 60, 1);
        a.place(0, 0, 0);
        a.place(1, 0, 1);
        a.setOpen(1, false);
        due.refuses("24: not to none", NOTHING, a::leastMoves);
        a.addStand(2, 3);
        a.setOpen(2, false);
        due.refuses("24: not to closed ones", NOTHING, a::leastMoves);
        a.setOpen(1, true);
        a.setOpen(0, false);
        due.refuses("24: not to small ones", NOTHING, a::leastMoves);
        a.setOpen(2, true);
        due.is("26: a large one", 2, () -> a.moveOf(0, true));
        a.setOpen(0, true);
        a.setOpen(2, false);
        a.setOpen(1, false);
        a.addStand(2, 3);
        a.pair(0, 3, 3);
        a.addStand(2, 3);
        a.setOpen(4, false);
        due.refuses("24: a sound stay could not go anywhere", NOTHING, a::leastMoves);
        a.pair(0, 3, 4);
        due.is("26: the limit is enough", 3, () -> a.moveOf(0, true));
    }

    private static void countingConflicts() {
        StandAssigner a = new StandAssigner();
        a.addStand(0, 3);
        a.setBuffer(0);
        for (int turn = 0; turn < 4; turn++) {
            a.addTurn(1, 30 * turn, 30 * turn + 30, 1);
            a.place(turn, 0, 0);
        }
        due.is("28: none", 0, a::conflicts);
        a.setBuffer(1);
        due.is("28: neighbours", 3, a::conflicts);
        a.setBuffer(31);
        due.is("28: and those behind", 5, a::conflicts);
        a.setOpen(0, false);
        due.is("28: on a closed stand too", 5, a::conflicts);
    }
}
