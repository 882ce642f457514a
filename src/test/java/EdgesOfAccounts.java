/** The sentences of promises 29 to 32, and those of "Terms" on accounts, that name an edge. */
final class EdgesOfAccounts {
    private EdgesOfAccounts() {
    }

    static void run(Edges e) {
        e.ofPromise(29, "- `account`: 0 for the stands, 1 for the turns, 2 for the stays, 3 for the stays on stands, 4"
            + " for the cost of all, 5 for the tows, 6 for the sum of the lengths of all stays, 7 for that of the stays"
            + " on stands, 8 for the hindered stays on stands, 9 for the stays that were moved by repairs so far, 10"
            + " for the sum of the weights of turns with a stay on a remote stand", EdgesOfAccounts::accounts);
        e.ofPromise(29, "Throws `IllegalArgumentException` if account is not 0 to 10",
            f -> f.range("account", 0, 10, Edges.ARGUMENT, Airports::busy, StandAssigner::account));
        e.ofTerms("A turn with both stays on remote stands counts once for account 10.",
            EdgesOfAccounts::remoteTurns);
        e.ofTerms("Account 9 goes back with what is undone.", EdgesOfAccounts::movedAndUndone);
        e.ofPromise(30, "Returns the same as the account 7 by a second way: minute by minute, the stays that are on"
            + " stands then.", EdgesOfAccounts::minutes);
        e.ofPromise(31, "Returns the greatest number of stays that are on stands in one minute.",
            EdgesOfAccounts::greatest);
        e.ofPromise(31, "- `isMinute`: false for the number, true for the first such minute",
            EdgesOfAccounts::firstMinute);
        e.ofPromise(31, "Returns the number, or the minute, 0 if no stay is on a stand.", EdgesOfAccounts::noPeak);
        e.ofPromise(32, "Returns the mean cost of a turn: the cost of all divided by the number of turns, both"
            + " converted to float.", EdgesOfAccounts::means);
        e.ofPromise(32, "Throws `ArithmeticException` if there are no turns", EdgesOfAccounts::noMean);
    }

    private static void accounts(Edges e) {
        StandAssigner full = Airports.full();
        int cost = full.account(4);
        int[] ofFull = {8, 10, 20, 20, cost, 10, 700, 700, 0, 0, 17};
        StandAssigner unplaced = Airports.of(0, 10);
        int[] ofUnplaced = {0, 10, 10, 0, 200, 0, 600, 0, 0, 0, 0};
        for (int account = 0; account <= 10; account++) {
            e.is("of nothing, " + account, 0, Airports.empty().account(account));
            e.is("of all there can be, " + account, ofFull[account], full.account(account));
            e.is("of turns alone, " + account, ofUnplaced[account], unplaced.account(account));
        }
        for (int stand = 0; stand < 8; stand++) {
            full.setOpen(stand, false);
        }
        e.is("all are hindered", 20, full.account(8));
        full.lift(9, 1);
        e.is("one on none is not", 19, full.account(8));
        e.is("stays on stands", 19, full.account(3));
        e.is("their lengths", 670, full.account(7));
        e.is("the lengths of all", 700, full.account(6));
        e.is("its turn is on no remote stand then", 16, full.account(10));
        StandAssigner moved = EdgesOfRepairs.closedUnder(3);
        moved.repair();
        e.is("three were moved", 3, moved.account(9));
        moved.setOpen(0, true);
        moved.setOpen(1, false);
        moved.repair();
        e.is("six were moved", 6, moved.account(9));
        moved.setOpen(1, true);
        moved.place(0, 0, 1);
        e.is("by repairs alone", 6, moved.account(9));
    }

    private static void remoteTurns(Edges e) {
        StandAssigner a = Airports.empty();
        a.addStand(2, 3);
        a.addStand(2, 3);
        a.addTurn(1, 100, 200, 9);
        a.place(0, 0, 0);
        e.is("the one stay", 9, a.account(10));
        a.tow(0, 150);
        e.is("stay 0 alone", 9, a.account(10));
        a.place(0, 1, 1);
        e.is("both stays", 9, a.account(10));
        a.lift(0, 0);
        e.is("stay 1 alone", 9, a.account(10));
        a.lift(0, 1);
        e.is("neither", 0, a.account(10));
        StandAssigner one = Airports.of(0, 0);
        one.addStand(2, 3);
        one.setBuffer(10);
        one.addTurn(1, 100, 200, 9);
        one.tow(0, 150);
        e.is("both on one remote stand", 2, one.assignAll());
        e.is("counts once", 9, one.account(10));
    }

    private static void movedAndUndone(Edges e) {
        StandAssigner a = EdgesOfRepairs.closedUnder(3);
        a.repair();
        e.is("moved", 3, a.account(9));
        a.setBuffer(20);
        a.undo();
        e.is("another change is undone", 3, a.account(9));
        a.undo();
        e.is("the repair is undone", 0, a.account(9));
        a.repair();
        a.save();
        a.clear();
        e.is("cleared", 0, a.account(9));
        a.restore();
        e.is("restored", 3, a.account(9));
    }

    private static void minutes(Edges e) {
        StandAssigner whole = Airports.of(8, 0);
        for (int turn = 0; turn < 8; turn++) {
            whole.addTurn(1, 0, 1440, 1);
            whole.place(turn, 0, turn);
        }
        e.is("nothing", 0, Airports.empty().minutes());
        e.is("none on a stand", 0, Airports.of(8, 10).minutes());
        e.is("from 0 to 1440", 8 * 1440, whole.minutes());
        e.is("the first way", 8 * 1440, whole.account(7));
        StandAssigner early = Airports.of(1, 1);
        early.place(0, 0, 0);
        e.is("from minute 0", 60, early.minutes());
        StandAssigner late = Airports.of(1, 0);
        late.addTurn(1, 1410, 1440, 1);
        late.place(0, 0, 0);
        e.is("up to minute 1440", 30, late.minutes());
        e.is("without the minutes of the tow", 50, Edges.called(EdgesOfTurns::twoAndOne, a -> {
            a.lift(1, 0);
            return a.lift(0, 1);
        }).minutes());
        e.is("all there can be", 700, Airports.full().minutes());
        StandAssigner twice = EdgesOfRepairs.tooNear();
        twice.delay(0, 100);
        e.is("two on one stand at once", 30 + 60, twice.minutes());
        e.is("the first way", twice.account(7), twice.minutes());
    }

    private static void greatest(Edges e) {
        StandAssigner a = Airports.of(3, 0);
        a.addTurn(1, 100, 200, 1);
        a.addTurn(1, 200, 300, 1);
        a.addTurn(1, 199, 260, 1);
        a.place(0, 0, 0);
        a.place(1, 0, 1);
        e.is("one ends where one begins", 1, a.peak(false));
        a.place(2, 0, 2);
        e.is("one minute with two", 2, a.peak(false));
        StandAssigner eight = EdgesOfStands.row();
        e.is("all at once", 3, eight.peak(false));
        eight.setOpen(0, false);
        e.is("on a closed stand too", 3, eight.peak(false));
        eight.lift(0, 0);
        e.is("not those on none", 2, eight.peak(false));
        StandAssigner one = Airports.of(1, 0);
        one.setBuffer(0);
        for (int turn = 0; turn < 10; turn++) {
            one.addTurn(1, 30 * turn, 30 * turn + 30, 1);
            one.place(turn, 0, 0);
        }
        for (int turn = 0; turn < 9; turn++) {
            one.delay(turn, 30 * (9 - turn));
        }
        e.is("ten on one stand", 10, one.peak(false));
        e.is("from its minute on", 270, one.peak(true));
    }

    private static void firstMinute(Edges e) {
        StandAssigner a = Airports.of(3, 0);
        a.addTurn(1, 1410, 1440, 1);
        a.addTurn(1, 200, 300, 1);
        a.addTurn(1, 0, 30, 1);
        a.place(0, 0, 0);
        e.is("the last one there can be", 1410, a.peak(true));
        StandAssigner ascending = Airports.of(1, 10);
        for (int turn = 0; turn < 10; turn++) {
            ascending.place(turn, 0, 0);
        }
        e.is("the first of ten, when the lowest is first", 0, ascending.peak(true));
        ascending.lift(0, 0);
        e.is("the first of nine", 100, ascending.peak(true));
        a.place(1, 0, 1);
        e.is("the first of two", 200, a.peak(true));
        a.place(2, 0, 2);
        e.is("minute 0", 0, a.peak(true));
        e.is("its number", 1, a.peak(false));
        a.addTurn(1, 299, 400, 1);
        a.place(3, 0, 0);
        e.is("a greater number later", 299, a.peak(true));
        e.is("that number", 2, a.peak(false));
    }

    private static void noPeak(Edges e) {
        for (boolean isMinute : new boolean[] {false, true}) {
            e.is("of nothing", 0, Airports.empty().peak(isMinute));
            e.is("all on none", 0, Airports.of(8, 10).peak(isMinute));
            e.is("lifted", 0, Edges.called(Airports::one, a -> a.lift(0, 0)).peak(isMinute));
        }
        e.is("the number of one", 1, Airports.one().peak(false));
        e.is("the minute of one", 100, Airports.one().peak(true));
    }

    private static void means(Edges e) {
        e.is("nothing to pay", 0.0f, Airports.one().meanCost());
        e.is("of one turn", 20.0f, Airports.of(0, 1).meanCost());
        StandAssigner a = Airports.of(0, 3);
        e.is("of three", 20.0f, a.meanCost());
        a.tow(0, 30);
        e.is("with a tow", 30.0f, a.meanCost());
        a.tow(1, 130);
        e.is("with two tows", 40.0f, a.meanCost());
        a.addStand(0, 3);
        a.place(0, 0, 0);
        e.is("100 by 3, which is no whole number", 100.0f / 3.0f, a.meanCost());
        StandAssigner full = Airports.full();
        e.is("of ten", full.account(4) / 10.0f, full.meanCost());
    }

    private static void noMean(Edges e) {
        e.refused("nothing", Edges.ARITHMETIC, Airports::empty, StandAssigner::meanCost);
        e.refused("stands alone", Edges.ARITHMETIC, () -> Airports.of(8, 0), StandAssigner::meanCost);
        e.refused("cleared", Edges.ARITHMETIC, () -> Edges.called(Airports::full, StandAssigner::clear),
            StandAssigner::meanCost);
        e.refused("undone", Edges.ARITHMETIC, () -> Edges.called(() -> Airports.of(0, 1), StandAssigner::undo),
            StandAssigner::meanCost);
        e.is("one turn", 20.0f, Airports.of(0, 1).meanCost());
    }
}
