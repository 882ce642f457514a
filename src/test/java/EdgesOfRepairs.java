/** The sentences of promises 22 to 28, and those of "Terms" on towGain and repairs, that name an edge. */
final class EdgesOfRepairs {
    private EdgesOfRepairs() {
    }

    static void run(Edges e) {
        assigning(e);
        repairs(e);
        counting(e);
        moving(e);
    }

    private static void assigning(Edges e) {
        e.ofPromise(22, "Returns the number of stays that are placed.", EdgesOfRepairs::placedStays);
        e.ofPromise(23, "Returns by how much the cost of all would be less if a turn was towed at a minute and all was"
            + " assigned then, than if all was assigned without that.", EdgesOfRepairs::gains);
        e.ofPromise(23, "Returns the difference, which can be negative.", EdgesOfRepairs::differences);
        e.ofPromise(23, "Throws `IndexOutOfBoundsException` if there is no such turn", f -> EdgesOfTurns.noTurn(f,
            (a, turn) -> a.towGain(turn, turn >= 0 && turn < 3 ? 100 * turn + 30 : 30)));
        e.ofPromise(23, "Throws `IllegalArgumentException` if the minute is not at least 10 minutes after the arrival"
            + " and at least 20 before the departure",
            f -> EdgesOfTurns.noMinuteOfATow(f, (a, minute) -> a.towGain(0, minute)));
        e.ofPromise(23, "Throws `IllegalStateException` if it has a tow",
            f -> EdgesOfTurns.towTwice(f, (a, minute) -> a.towGain(0, minute)));
        e.ofTerms("towGain begins with the stays where they are now, and has the cost of the tow in it.",
            EdgesOfRepairs::gainFromNow);
    }

    private static void repairs(Edges e) {
        e.ofTerms("A repair moves some of the stays that are on stands to other stands, so that no stay on a stand is"
            + " hindered then, and no two are in conflict; it moves at most 3 stays.", EdgesOfRepairs::atMostThree);
        e.ofTerms("Repairs are compared by the number of stays that are moved, the fewest first; then by the numbers of"
            + " these stays in ascending order, lexicographically; then by the numbers of the stands to which they are"
            + " moved, in the order of these stays, lexicographically.", EdgesOfRepairs::orderOfRepairs);
        e.ofTerms("A repair of 0 moves moves nothing and is a change; it may move stays that are neither hindered nor"
            + " in conflict, but not to closed stands or such as are smaller than the aircraft.",
            EdgesOfRepairs::whatARepairMayMove);
    }

    private static void counting(Edges e) {
        e.ofPromise(24, "Returns the number of stays that the first repair moves.",
            f -> {
                numberOfMoves(f, StandAssigner::leastMoves);
                askedAgain(f, StandAssigner::leastMoves);
            });
        e.ofPromise(24, "Returns the number, 0 if no stay on a stand is hindered and no two are in conflict.",
            f -> noMoves(f, StandAssigner::leastMoves));
        e.ofPromise(24, "Throws `NoSuchElementException` if there is no repair",
            f -> noRepair(f, StandAssigner::leastMoves));
        e.ofPromise(25, "Returns the same number by a second way: all sets of at most 3 stays on stands are tried, and"
            + " for each all rows of stands for them.", EdgesOfRepairs::secondWay);
        e.ofPromise(25, "Throws `NoSuchElementException` if there is no repair",
            f -> noRepair(f, StandAssigner::leastAgain));
    }

    private static void moving(Edges e) {
        e.ofPromise(26, "- `move`: the number of the move, from 0, in ascending order of the stays",
            EdgesOfRepairs::firstAndLastMove);
        e.ofPromise(26, "- `isStand`: true for the stand, false for the number of the stay",
            EdgesOfRepairs::standOrStay);
        e.ofPromise(26, "Throws `NoSuchElementException` if there is no repair or no such move",
            EdgesOfRepairs::noMove);
        e.ofPromise(27, "Carries out the first repair.", EdgesOfRepairs::carriedOut);
        e.ofPromise(27, "Returns the number of stays that are moved.", f -> {
            numberOfMoves(f, StandAssigner::repair);
            noMoves(f, StandAssigner::repair);
        });
        e.ofPromise(27, "Throws `NoSuchElementException` if there is no repair",
            f -> noRepair(f, StandAssigner::repair));
        e.ofPromise(28, "Returns the number of pairs of stays that are in conflict.", EdgesOfRepairs::pairsInConflict);
    }

    // ---- what several sentences ask

    /** Some stays on stand 0, which is closed, and stand 1, where they all have room. */
    static StandAssigner closedUnder(int stays) {
        StandAssigner a = Airports.of(2, stays);
        for (int turn = 0; turn < stays; turn++) {
            a.place(turn, 0, 0);
        }
        a.setOpen(0, false);
        return a;
    }

    /** Two stays on stand 0 that are in conflict by one minute of the buffer, and no other stand. */
    static StandAssigner tooNear() {
        StandAssigner a = Airports.of(1, 2);
        a.place(0, 0, 0);
        a.place(1, 0, 0);
        a.setBuffer(41);
        return a;
    }

    private static void numberOfMoves(Edges e, Edges.Call call) {
        for (int stays = 0; stays <= 3; stays++) {
            int number = stays;
            e.is("moves", String.valueOf(stays), Edges.outcome(closedUnder(number), call));
        }
        StandAssigner lowest = Airports.of(2, 1);
        lowest.place(0, 0, 1);
        lowest.setOpen(1, false);
        e.is("to stand 0 alone", "1", Edges.outcome(lowest, call));
        e.is("of a conflict", "1", Edges.outcome(Edges.called(EdgesOfRepairs::tooNear, a -> a.addStand(0, 3)), call));
    }

    private static void noMoves(Edges e, Edges.Call call) {
        e.is("nothing at all", "0", Edges.outcome(Airports.empty(), call));
        e.is("no stays", "0", Edges.outcome(Airports.of(8, 0), call));
        e.is("stays on none", "0", Edges.outcome(Airports.of(0, 10), call));
        e.is("all there can be", "0", Edges.outcome(Airports.full(), call));
        e.is("just the buffer", "0", Edges.outcome(Edges.called(EdgesOfRepairs::tooNear, a -> a.setBuffer(40)), call));
        e.is("a closed stand without stays", "0",
            Edges.outcome(Edges.called(() -> closedUnder(0), a -> a.addTurn(1, 0, 60, 1)), call));
    }

    private static void noRepair(Edges e, Edges.Call call) {
        e.refused("four would have to move", Edges.NOTHING, () -> closedUnder(4), call);
        e.refused("four of all there can be", Edges.NOTHING, () -> Edges.called(Airports::full,
            a -> a.setOpen(1, false)), call);
        e.refused("no other stand", Edges.NOTHING, EdgesOfRepairs::tooNear, call);
        e.refused("a closed one alone", Edges.NOTHING, () -> Edges.called(() -> closedUnder(1),
            a -> a.setOpen(1, false)), call);
        e.is("three have to move", "3", Edges.outcome(closedUnder(3), call));
        for (int stays = 2; stays <= 3; stays++) {
            int number = stays;
            e.refused(stays + " for one stand less", Edges.NOTHING, () -> forStands(number, number - 1, -1), call);
            e.refused(stays + " for a pair too few", Edges.NOTHING, () -> forStands(number, number, 1), call);
            e.is(stays + " for as many stands", String.valueOf(stays),
                Edges.outcome(forStands(number, number, -1), call));
            e.is(stays + " for as many, a pair that lets them", String.valueOf(stays),
                Edges.outcome(forStands(number, number, 2), call));
        }
    }

    /** Stays of size 1 at one time, each on a closed stand, and open stands, of which the last two can be a pair. */
    private static StandAssigner forStands(int stays, int open, int limit) {
        StandAssigner a = Airports.of(stays + open, 0);
        for (int stay = 0; stay < stays; stay++) {
            a.addTurn(1, 100, 200, 1);
            a.place(stay, 0, stay);
            a.setOpen(stay, false);
        }
        if (limit >= 0) {
            a.pair(stays + open - 1, stays + open - 2, limit);
        }
        return a;
    }

    // ---- promises 22 and 23

    private static void placedStays(Edges e) {
        e.is("nothing", 0, Airports.empty().assignAll());
        e.is("no stands", 0, Airports.of(0, 10).assignAll());
        e.is("all on stands already", 0, Airports.full().assignAll());
        e.is("one each", 10, Airports.of(1, 10).assignAll());
        StandAssigner a = Airports.of(1, 10);
        a.setBuffer(10);
        for (int turn = 0; turn < 10; turn++) {
            a.tow(turn, 100 * turn + 30);
        }
        e.is("all there can be", 20, a.assignAll());
        e.is("on one stand", 20, a.stand(0, 4));
        StandAssigner towed = Airports.towed();
        e.is("stay 1 is too near to stay 0", 0, towed.assignAll());
        towed.setBuffer(10);
        e.is("stay 1 alone", 1, towed.assignAll());
    }

    /** Two gates, of which the first is taken from 200 on, the second up to 100; turn 2 from 0 to 300 finds none. */
    private static StandAssigner halves(int weight) {
        StandAssigner a = Airports.of(2, 0);
        a.addTurn(1, 200, 300, 1);
        a.addTurn(1, 0, 100, 1);
        a.addTurn(1, 0, 300, weight);
        a.place(0, 0, 0);
        a.place(1, 0, 1);
        return a;
    }

    private static void gains(Edges e) {
        e.is("both stays on gates", 20 * 9 - 10, halves(9).towGain(2, 150));
        e.is("the latest that leaves the buffer", 20 * 9 - 10, halves(9).towGain(2, 185));
        e.is("one minute later stay 0 is on none", -10, halves(9).towGain(2, 186));
        e.is("the earliest that leaves the buffer", 20 * 9 - 10, halves(9).towGain(2, 105));
        e.is("one minute earlier stay 1 is on none", -10, halves(9).towGain(2, 104));
        Edges.Maker waiting = () -> Edges.called(() -> halves(9), a -> a.lift(0, 0));
        e.is("the others are assigned too, without the tow", -10 - 20 + 20, waiting.make().towGain(2, 150));
        for (int minute : new int[] {10, 150, 280}) {
            e.onlyAsks("at " + minute, () -> halves(9), a -> a.towGain(2, minute));
        }
    }

    private static void differences(Edges e) {
        e.is("positive", 10, halves(1).towGain(2, 150));
        e.is("negative", -10 - 20, Airports.one().towGain(0, 150));
        Edges.Maker apron = () -> Edges.called(() -> halves(5), a -> a.addStand(1, 3));
        e.is("none", 0, apron.make().towGain(2, 150));
        e.is("the least: the other stay is on none", -10 - 9 * 20, withoutStands(9).towGain(0, 60));
        e.is("the least of weight 1", -10 - 20, withoutStands(1).towGain(0, 60));
    }

    private static StandAssigner withoutStands(int weight) {
        StandAssigner a = Airports.empty();
        a.addTurn(1, 0, 100, weight);
        return a;
    }

    private static void gainFromNow(Edges e) {
        StandAssigner a = Airports.of(0, 0);
        a.addStand(2, 3);
        a.addTurn(1, 100, 200, 1);
        a.place(0, 0, 0);
        a.addStand(0, 3);
        e.is("stay 0 is on the remote stand still", -10, a.towGain(0, 150));
        a.lift(0, 0);
        a.setBuffer(10);
        e.is("both on the gate, the tow costs 10", -10, a.towGain(0, 150));
        a.setBuffer(11);
        e.is("stay 1 on the remote stand", -10 - 5, a.towGain(0, 150));
    }

    // ---- repairs

    private static void atMostThree(Edges e) {
        for (int stays = 1; stays <= 3; stays++) {
            StandAssigner a = closedUnder(stays);
            a.addTurn(1, 0, 60, 1);
            a.repair();
            e.is("none hindered, of " + stays, 0, a.account(8));
            e.is("none in conflict, of " + stays, 0, a.conflicts());
            e.is("all on another stand", stays, a.stand(1, 4));
            e.is("the stay on none remains", -1, a.ofStay(stays, 0, 2));
        }
        e.throwing("four", Edges.NOTHING, closedUnder(4), StandAssigner::repair);
        StandAssigner swap = Airports.of(3, 0);
        int[] sizes = {3, 1, 3};
        for (int turn = 0; turn < 3; turn++) {
            swap.addTurn(sizes[turn], 0, 100, 1);
            swap.place(turn, 0, turn);
        }
        swap.pair(0, 2, 4);
        e.is("two change places", 2, swap.repair());
        e.is("the one", 1, swap.ofStay(0, 0, 2));
        e.is("the other", 0, swap.ofStay(1, 0, 2));
        e.is("none in conflict", 0, swap.conflicts());
        e.throwing("not to none", Edges.NOTHING, tooNear(), StandAssigner::repair);
    }

    private static void orderOfRepairs(Edges e) {
        StandAssigner few = Airports.of(2, 0);
        few.setBuffer(0);
        few.addTurn(1, 0, 60, 1);
        few.addTurn(1, 120, 180, 1);
        few.addTurn(1, 60, 120, 1);
        placeAllOn(few, 0);
        few.setBuffer(10);
        moves(e, "the fewest, not the lowest stays", few, 4, 1);
        moves(e, "of two stays the lower one", Edges.called(EdgesOfRepairs::tooNear, a -> a.addStand(0, 3)), 0, 1);
        StandAssigner higherStand = Edges.called(EdgesOfRepairs::tooNear, a -> a.addStand(0, 3));
        higherStand.addStand(0, 3);
        higherStand.addTurn(1, 0, 60, 1);
        higherStand.place(2, 0, 1);
        moves(e, "the lower stay before the lower stand", higherStand, 0, 2);
        Edges.Maker two = () -> {
            StandAssigner a = Airports.of(4, 0);
            a.addTurn(1, 0, 60, 1);
            a.addTurn(1, 0, 60, 1);
            a.place(0, 0, 0);
            a.place(1, 0, 3);
            a.setOpen(0, false);
            a.setOpen(3, false);
            return a;
        };
        moves(e, "the lower stand for the lower stay", two.make(), 0, 1, 2, 2);
        StandAssigner apart = two.make();
        apart.delay(1, 200);
        moves(e, "both on the lowest stand", apart, 0, 1, 2, 1);
        moves(e, "the lowest set that can be moved", notTheLowestSet(), 0, 1, 6, 1);
    }

    /** Stays 0 and 2, and 4 and 6, are in conflict; 0 and 4 can't be moved both, so 0 and 6 come before 2 and 4. */
    private static StandAssigner notTheLowestSet() {
        StandAssigner a = Airports.of(2, 0);
        a.addStand(0, 2);
        a.setBuffer(0);
        a.addTurn(3, 0, 60, 1);
        a.addTurn(1, 60, 120, 1);
        a.addTurn(2, 50, 110, 1);
        a.addTurn(1, 110, 170, 1);
        a.place(0, 0, 0);
        a.place(1, 0, 0);
        a.place(2, 0, 2);
        a.place(3, 0, 2);
        a.setBuffer(10);
        return a;
    }

    private static void placeAllOn(StandAssigner a, int stand) {
        for (int turn = 0; turn < a.account(1); turn++) {
            a.place(turn, 0, stand);
        }
    }

    /** The first repair has these moves, each a stay and its stand, and no more. */
    private static void moves(Edges e, String what, StandAssigner a, int... want) {
        e.is(what + ", moves", want.length / 2, a.leastMoves());
        e.is(what + ", moves by the second way", want.length / 2, a.leastAgain());
        for (int move = 0; move < want.length / 2; move++) {
            e.is(what + ", stay of move " + move, want[2 * move], a.moveOf(move, false));
            e.is(what + ", stand of move " + move, want[2 * move + 1], a.moveOf(move, true));
        }
        e.throwing(what + ", no more", Edges.NOTHING, a, b -> b.moveOf(want.length / 2, false));
    }

    private static void whatARepairMayMove(Edges e) {
        StandAssigner none = Airports.full();
        e.is("of 0 moves", 0, none.repair());
        e.is("a change", 5, none.undo());
        e.same("moves nothing", () -> Edges.called(() -> savedAndRestored(), a -> a.setBuffer(15)),
            () -> Edges.called(() -> savedAndRestored(), StandAssigner::repair));
        moves(e, "a sound stay makes room", makingRoom(1, 1), 0, 1, 2, 2);
        Edges.Maker closed = () -> Edges.called(() -> makingRoom(1, 1), a -> a.setOpen(2, false));
        e.throwing("not to a closed one", Edges.NOTHING, closed.make(), StandAssigner::leastMoves);
        e.throwing("nor by the second way", Edges.NOTHING, closed.make(), StandAssigner::leastAgain);
        e.throwing("not to a smaller one", Edges.NOTHING, makingRoom(2, 1), StandAssigner::leastMoves);
        e.throwing("nor by the second way", Edges.NOTHING, makingRoom(2, 1), StandAssigner::leastAgain);
        moves(e, "to one that is just as large", makingRoom(2, 2), 0, 1, 2, 2);
    }

    private static StandAssigner savedAndRestored() {
        StandAssigner a = Airports.full();
        a.save();
        a.restore();
        return a;
    }

    /** A stay of size 3 on a closed stand, one on the only other stand of size 3, and a small stand. */
    private static StandAssigner makingRoom(int size, int sizeOfStand) {
        StandAssigner a = Airports.of(2, 0);
        a.addStand(0, sizeOfStand);
        a.addTurn(3, 0, 60, 1);
        a.addTurn(size, 0, 60, 1);
        a.place(0, 0, 0);
        a.place(1, 0, 1);
        a.setOpen(0, false);
        return a;
    }

    // ---- promises 25 to 28

    private static void secondWay(Edges e) {
        numberOfMoves(e, StandAssigner::leastAgain);
        noMoves(e, StandAssigner::leastAgain);
        askedAgain(e, StandAssigner::leastAgain);
        e.throwing("no set of four", Edges.NOTHING, closedUnder(4), StandAssigner::leastAgain);
        StandAssigner busy = Airports.busy();
        e.is("as the first way", Edges.outcome(busy, StandAssigner::leastMoves),
            Edges.outcome(busy, StandAssigner::leastAgain));
        StandAssigner last = lastStands();
        e.is("rows of the highest stands", 3, last.leastAgain());
        e.is("as the first way", 3, last.leastMoves());
    }

    /** Three stays at one time on closed stands; only stands 5, 6 and 7 are open. */
    private static StandAssigner lastStands() {
        StandAssigner a = Airports.of(8, 0);
        for (int turn = 0; turn < 10; turn++) {
            a.addTurn(1, turn < 7 ? 0 : 600, turn < 7 ? 60 : 660, 1);
        }
        for (int turn = 7; turn < 10; turn++) {
            a.place(turn, 0, turn - 7);
        }
        for (int stand = 0; stand < 5; stand++) {
            a.setOpen(stand, false);
        }
        return a;
    }

    private static void firstAndLastMove(Edges e) {
        StandAssigner a = lastStands();
        for (int move = 0; move < 3; move++) {
            e.is("stay of move " + move, 14 + 2 * move, a.moveOf(move, false));
            e.is("stand of move " + move, 5 + move, a.moveOf(move, true));
        }
        for (int moves = 1; moves <= 3; moves++) {
            int stays = moves;
            e.range("move of " + moves, 0, moves - 1, Edges.NOTHING, () -> closedUnder(stays),
                (b, move) -> b.moveOf(move, true));
        }
    }

    private static void standOrStay(Edges e) {
        StandAssigner a = Airports.of(8, 10);
        a.place(9, 0, 0);
        a.setOpen(0, false);
        for (int stand = 1; stand < 7; stand++) {
            a.setOpen(stand, false);
        }
        e.is("the stay", 18, a.moveOf(0, false));
        e.is("the stand", 7, a.moveOf(0, true));
    }

    private static void noMove(Edges e) {
        noRepair(e, a -> {
            a.moveOf(0, false);
            return a.leastMoves();
        });
        e.refused("four would have to move", Edges.NOTHING, () -> closedUnder(4), a -> a.moveOf(0, true));
        e.refused("of no moves the first", Edges.NOTHING, Airports::full, a -> a.moveOf(0, true));
        e.range("the only move", 0, 0, Edges.NOTHING, () -> closedUnder(1), (a, move) -> a.moveOf(move, false));
        e.refused("neither a repair nor such a move", Edges.NOTHING, () -> closedUnder(4), a -> a.moveOf(-1, true));
    }

    /** Questions on one airport, one behind the other: what was found before counts no more. */
    private static void askedAgain(Edges e, Edges.Call call) {
        StandAssigner a = closedUnder(1);
        e.is("first", "1", Edges.outcome(a, call));
        a.setOpen(1, false);
        e.is("when the other one is closed", Edges.NOTHING.getName(), Edges.outcome(a, call));
        a.setOpen(1, true);
        e.is("when it is open again", "1", Edges.outcome(a, call));
        a.setOpen(0, true);
        e.is("when both are open", "0", Edges.outcome(a, call));
        a.addTurn(1, 0, 60, 1);
        a.place(1, 0, 1);
        a.setOpen(0, false);
        e.is("when the other one is taken", Edges.NOTHING.getName(), Edges.outcome(a, call));
        a.lift(1, 0);
        e.is("when it is free", "1", Edges.outcome(a, call));
    }

    private static void carriedOut(Edges e) {
        StandAssigner a = lastStands();
        a.repair();
        for (int turn = 7; turn < 10; turn++) {
            e.is("stand of turn " + turn, turn - 2, a.ofStay(turn, 0, 2));
        }
        e.is("none hindered", 0, a.account(8));
        e.is("moved", 3, a.account(9));
        e.is("nothing more to repair", 0, a.leastMoves());
        e.is("nothing is moved again", 0, a.repair());
        e.is("moved so far", 3, a.account(9));
        StandAssigner swapped = makingRoom(1, 1);
        swapped.repair();
        e.is("the one", 1, swapped.ofStay(0, 0, 2));
        e.is("the other", 2, swapped.ofStay(1, 0, 2));
    }

    private static void pairsInConflict(Edges e) {
        e.is("nothing", 0, Airports.empty().conflicts());
        e.is("none of all there can be", 0, Airports.full().conflicts());
        e.is("one", 1, tooNear().conflicts());
        e.is("none by one minute less", 0, Edges.called(EdgesOfRepairs::tooNear, a -> a.setBuffer(40)).conflicts());
        StandAssigner a = Airports.of(1, 0);
        a.setBuffer(0);
        for (int turn = 0; turn < 10; turn++) {
            a.addTurn(1, 30 * turn, 30 * turn + 30, 1);
            a.place(turn, 0, 0);
        }
        for (int turn = 0; turn < 9; turn++) {
            a.delay(turn, 30 * (9 - turn));
        }
        e.is("each with each", 45, a.conflicts());
        StandAssigner last = Airports.full();
        last.setBuffer(0);
        last.place(9, 1, 1);
        last.setBuffer(11);
        e.is("the last two stays", 1, last.conflicts());
    }
}
