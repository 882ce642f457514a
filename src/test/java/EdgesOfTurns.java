/** The sentences of promises 10 to 12 and 19 to 21, and those of "Terms" on tows and delays, that name an edge. */
final class EdgesOfTurns {
    private EdgesOfTurns() {
    }

    static void run(Edges e) {
        adding(e);
        asking(e);
        towing(e);
        untowing(e);
        delaying(e);
        delays(e);
    }

    private static void adding(Edges e) {
        e.ofPromise(10, "Adds a turn without a tow, whose stay is on no stand.", EdgesOfTurns::oneMore);
        e.ofPromise(10, "Returns the number of the turn.", EdgesOfTurns::numberOfTurn);
        e.ofPromise(10, "Throws `IllegalArgumentException` if a number is out of range, or the departure is less than"
            + " 30 minutes after the arrival", EdgesOfTurns::wrongTurn);
        e.ofPromise(10, "Throws `IllegalStateException` if there are 10 turns", EdgesOfTurns::eleventhTurn);
    }

    private static void asking(Edges e) {
        e.ofPromise(11, "- `what`: 0 for its size, 1 for its arrival, 2 for its departure, 3 for its weight, 4 for the"
            + " minute of its tow, -1 without one, 5 for its cost with that of its tow", EdgesOfTurns::numbersOfATurn);
        e.ofPromise(11, "Throws `IndexOutOfBoundsException` if there is no such turn",
            f -> noTurn(f, (a, turn) -> a.turn(turn, 5)));
        e.ofPromise(11, "Throws `IllegalArgumentException` if what is not 0 to 5",
            f -> f.range("what", 0, 5, Edges.ARGUMENT, Airports::busy, (a, what) -> a.turn(1, what)));
        e.ofPromise(12, "- `stay`: the stay, 0 or 1", f -> noStay(f, (a, turn, stay) -> a.ofStay(turn, stay, 2)));
        e.ofPromise(12, "- `what`: 0 for its beginning, 1 for its end, 2 for its stand, -1 if it is on none, 3 for its"
            + " cost, 4 for the stays with which it is in conflict, as a set of their numbers, 5 for 1 if it is"
            + " hindered, otherwise 0", EdgesOfTurns::numbersOfAStay);
        e.ofPromise(12, "Throws `IndexOutOfBoundsException` if there is no such turn or stay",
            f -> noTurnOrStay(f, (a, turn, stay) -> a.ofStay(turn, stay, 0)));
        e.ofPromise(12, "Throws `IllegalArgumentException` if what is not 0 to 5",
            f -> f.range("what", 0, 5, Edges.ARGUMENT, Airports::busy, (a, what) -> a.ofStay(1, 1, what)));
    }

    private static void towing(Edges e) {
        e.ofPromise(19, "Divides the stay of a turn by a tow; stay 0 remains where it is, stay 1 is on no stand.",
            EdgesOfTurns::dividing);
        e.ofPromise(19, "Returns the length of stay 1.", EdgesOfTurns::lengthOfStayOne);
        e.ofPromise(19, "Throws `IndexOutOfBoundsException` if there is no such turn",
            f -> noTurn(f, EdgesOfTurns::towInTheMiddle));
        e.ofPromise(19, "Throws `IllegalArgumentException` if the minute is not at least 10 minutes after the arrival"
            + " and at least 20 before the departure",
            f -> noMinuteOfATow(f, (a, minute) -> a.tow(0, minute)));
        e.ofPromise(19, "Throws `IllegalStateException` if it has a tow",
            f -> towTwice(f, (a, minute) -> a.tow(0, minute)));
    }

    private static void untowing(Edges e) {
        e.ofPromise(20, "Ends a tow; the turn has one stay then, which is where stay 0 was.", EdgesOfTurns::joining);
        e.ofPromise(20, "Returns the stand on which stay 1 was, or -1.", EdgesOfTurns::standOfStayOne);
        e.ofPromise(20, "Throws `IndexOutOfBoundsException` if there is no such turn", EdgesOfTurns::noTurnToUntow);
        e.ofPromise(20, "Throws `IllegalStateException` if it has no tow", EdgesOfTurns::noTow);
        e.ofTerms("When a tow ends, conflicts may come, and stay 0 stays where it is, also on none.",
            EdgesOfTurns::whenATowEnds);
    }

    private static void delaying(Edges e) {
        e.ofPromise(21, "- `minutes`: the minutes, 1 to 300", EdgesOfTurns::fewestAndMostMinutes);
        e.ofPromise(21, "Returns by how many minutes its departure is later then.", EdgesOfTurns::laterDepartures);
        e.ofPromise(21, "Throws `IndexOutOfBoundsException` if there is no such turn",
            f -> noTurn(f, (a, turn) -> a.delay(turn, 300)));
        e.ofPromise(21, "Throws `IllegalArgumentException` if minutes is out of range", f -> f.range("minutes", 1, 300,
            Edges.ARGUMENT, Airports::busy, (a, minutes) -> a.delay(1, minutes)));
        e.ofPromise(21, "Throws `IllegalStateException` if its departure would be after minute 1440",
            EdgesOfTurns::tooLate);
    }

    private static void delays(Edges e) {
        e.ofTerms("When a turn is delayed by some minutes, its arrival is later by these.",
            EdgesOfTurns::laterArrivals);
        e.ofTerms("If it has a tow that would be less than 10 minutes after the arrival, this becomes 10 minutes after"
            + " the arrival.", EdgesOfTurns::laterTows);
        e.ofTerms("The departure becomes as late as it must to be at least 30 minutes after the arrival, and at least"
            + " 20 after the tow, if there is one; otherwise it stays.", EdgesOfTurns::departureAsItMust);
        e.ofTerms("All stays remain where they are.", EdgesOfTurns::staysRemain);
        e.ofTerms("A tow stays at its minute when the turn is delayed, if it is still at least 10 minutes after the"
            + " arrival.", EdgesOfTurns::towStays);
    }

    // ---- what several sentences ask

    interface CallOfStay {
        Object on(StandAssigner airport, int turn, int stay);
    }

    /** Three turns, of which none has a tow, all on one stand. */
    static StandAssigner three() {
        StandAssigner a = Airports.of(2, 3);
        for (int turn = 0; turn < 3; turn++) {
            a.place(turn, 0, 0);
        }
        return a;
    }

    /** Turns are there from 0 up to their number less one, also if this is 0 or 10, was 10, or was more. */
    static void noTurn(Edges e, Edges.CallWith call) {
        e.range("turn", 0, 2, Edges.INDEX, EdgesOfTurns::three, call);
        e.refused("turn -2147483647, of which twice is 2", Edges.INDEX, EdgesOfTurns::three,
            a -> call.on(a, Integer.MIN_VALUE + 1));
        e.refused("turn 0 of none", Edges.INDEX, () -> Airports.of(8, 0), a -> call.on(a, 0));
        e.refused("turn 10 of 10", Edges.INDEX, Airports::full, a -> call.on(a, 10));
        e.refused("turn 0 when cleared", Edges.INDEX, () -> Edges.called(Airports::full, StandAssigner::clear),
            a -> call.on(a, 0));
        e.refused("turn 1 when undone", Edges.INDEX, () -> Edges.called(() -> Airports.of(2, 2), StandAssigner::undo),
            a -> call.on(a, 1));
    }

    /** Both stays of a turn with a tow, on two stands, and a turn without one. */
    static StandAssigner twoAndOne() {
        StandAssigner a = Airports.of(3, 0);
        a.addTurn(1, 100, 200, 1);
        a.addTurn(1, 300, 400, 1);
        a.place(0, 0, 0);
        a.tow(0, 150);
        a.place(0, 1, 1);
        a.place(1, 0, 1);
        return a;
    }

    /** Stay 0 is there always, stay 1 with a tow alone, no other ever. */
    static void noStay(Edges e, CallOfStay call) {
        e.range("stay of a turn with a tow", 0, 1, Edges.INDEX, EdgesOfTurns::twoAndOne,
            (a, stay) -> call.on(a, 0, stay));
        e.range("stay of a turn without one", 0, 0, Edges.INDEX, EdgesOfTurns::twoAndOne,
            (a, stay) -> call.on(a, 1, stay));
        e.refused("stay -2 of turn 1, where the number would be 0", Edges.INDEX, EdgesOfTurns::twoAndOne,
            a -> call.on(a, 1, -2));
        e.refused("stay 1 of a tow that ended", Edges.INDEX, () -> Edges.called(EdgesOfTurns::twoAndOne,
            a -> a.untow(0)), a -> call.on(a, 0, 1));
        e.refused("stay 1 of a tow that was undone", Edges.INDEX, () -> Edges.called(Airports::towed,
            StandAssigner::undo), a -> call.on(a, 0, 1));
    }

    static void noTurnOrStay(Edges e, CallOfStay call) {
        noTurn(e, (a, turn) -> call.on(a, turn, 0));
        noStay(e, call);
        e.refused("neither is there", Edges.INDEX, EdgesOfTurns::twoAndOne, a -> call.on(a, 2, 2));
        e.refused("stay 1 of no turn", Edges.INDEX, EdgesOfTurns::twoAndOne, a -> call.on(a, -1, 1));
    }

    private static Object towInTheMiddle(StandAssigner airport, int turn) {
        return airport.tow(turn, turn >= 0 && turn < 3 ? 100 * turn + 30 : 30);
    }

    /** From 10 minutes after the arrival, at 100, to 20 before the departure, at 200; and of the shortest turn. */
    static void noMinuteOfATow(Edges e, Edges.CallWith call) {
        e.range("minute", 110, 180, Edges.ARGUMENT, Airports::one, call);
        Edges.Maker shortest = () -> {
            StandAssigner a = Airports.of(1, 0);
            a.addTurn(0, 0, 30, 9);
            return a;
        };
        e.range("minute of the shortest turn", 10, 10, Edges.ARGUMENT, shortest, call);
        Edges.Maker latest = () -> {
            StandAssigner a = Airports.of(1, 0);
            a.addTurn(0, 0, 1440, 9);
            return a;
        };
        e.range("minute of the longest turn", 10, 1420, Edges.ARGUMENT, latest, call);
        e.refused("a wrong minute of a turn with a tow", Edges.ARGUMENT, Airports::towed, a -> call.on(a, 109));
        e.refused("a late minute of a turn with a tow", Edges.ARGUMENT, Airports::towed, a -> call.on(a, 181));
        Edges.Maker delayed = () -> Edges.called(Airports::one, a -> a.delay(0, 20));
        e.range("minute of a delayed turn", 130, 180, Edges.ARGUMENT, delayed, call);
    }

    static void towTwice(Edges e, Edges.CallWith call) {
        for (int minute : new int[] {110, 150, 180}) {
            e.refused("again at " + minute, Edges.STATE, Airports::towed, a -> call.on(a, minute));
        }
        e.is("when the tow ended", false, Edges.outcome(
            Edges.called(Airports::towed, a -> a.untow(0)), a -> call.on(a, 150)).endsWith("Exception"));
        e.is("when it was undone", false, Edges.outcome(
            Edges.called(Airports::towed, StandAssigner::undo), a -> call.on(a, 150)).endsWith("Exception"));
    }

    // ---- promises 10 to 12

    private static void oneMore(Edges e) {
        StandAssigner a = Airports.of(1, 9);
        e.is("nine", 9, a.account(1));
        a.addTurn(3, 1410, 1440, 9);
        e.is("ten", 10, a.account(1));
        int[] numbers = {3, 1410, 1440, 9, -1, 180};
        for (int what = 0; what <= 5; what++) {
            e.is("its number " + what, numbers[what], a.turn(9, what));
        }
        e.is("its stay is on no stand", -1, a.ofStay(9, 0, 2));
        e.throwing("it has no stay 1", Edges.INDEX, a, b -> b.ofStay(9, 1, 2));
        StandAssigner again = Edges.called(Airports::full, StandAssigner::clear);
        again.addStand(0, 3);
        again.addTurn(1, 0, 60, 1);
        e.is("without a tow where one had one", -1, again.turn(0, 4));
        e.is("on no stand where one was on one", -1, again.ofStay(0, 0, 2));
        StandAssigner undone = Airports.of(1, 1);
        undone.place(0, 0, 0);
        undone.tow(0, 30);
        undone.undo();
        undone.undo();
        undone.undo();
        undone.addTurn(1, 0, 60, 1);
        e.is("on no stand where one was undone", -1, undone.ofStay(0, 0, 2));
        e.is("without a tow where one was undone", -1, undone.turn(0, 4));
    }

    private static void numberOfTurn(Edges e) {
        e.is("the first", 0, Airports.empty().addTurn(0, 0, 30, 1));
        e.is("the last", 9, Airports.of(0, 9).addTurn(3, 0, 1440, 9));
        e.is("the first when cleared", 0, Edges.called(Airports::full, StandAssigner::clear).addTurn(0, 0, 30, 1));
    }

    private static void wrongTurn(Edges e) {
        e.range("size", 0, 3, Edges.ARGUMENT, Airports::busy, (a, size) -> a.addTurn(size, 0, 1440, 9));
        e.range("weight", 1, 9, Edges.ARGUMENT, Airports::busy, (a, weight) -> a.addTurn(3, 0, 1440, weight));
        e.range("arrival", 0, 1410, Edges.ARGUMENT, Airports::busy, (a, minute) -> a.addTurn(3, minute, 1440, 9));
        e.range("departure", 30, 1440, Edges.ARGUMENT, Airports::busy, (a, minute) -> a.addTurn(3, 0, minute, 9));
        e.range("departure of a late one", 1430, 1440, Edges.ARGUMENT, Airports::busy,
            (a, minute) -> a.addTurn(3, 1400, minute, 9));
        e.refused("both minutes behind the last", Edges.ARGUMENT, Airports::busy, a -> a.addTurn(0, 1441, 1471, 1));
        e.refused("both minutes before the first", Edges.ARGUMENT, Airports::busy, a -> a.addTurn(0, -60, -30, 1));
        e.refused("the farthest apart", Edges.ARGUMENT, Airports::busy,
            a -> a.addTurn(0, Integer.MIN_VALUE, Integer.MAX_VALUE, 1));
        e.refused("so far apart that the difference wraps around", Edges.ARGUMENT, Airports::busy,
            a -> a.addTurn(0, Integer.MAX_VALUE, Integer.MIN_VALUE, 1));
        e.refused("backwards", Edges.ARGUMENT, Airports::busy, a -> a.addTurn(0, 60, 30, 1));
        e.refused("no length", Edges.ARGUMENT, Airports::busy, a -> a.addTurn(0, 60, 60, 1));
        e.refused("a wrong eleventh", Edges.ARGUMENT, Airports::full, a -> a.addTurn(0, 0, 29, 1));
        e.refused("an eleventh of a wrong size", Edges.ARGUMENT, Airports::full, a -> a.addTurn(4, 0, 30, 1));
        e.refused("an eleventh of a wrong weight", Edges.ARGUMENT, Airports::full, a -> a.addTurn(0, 0, 30, 10));
        e.refused("an eleventh that is too late", Edges.ARGUMENT, Airports::full, a -> a.addTurn(0, 0, 1441, 1));
    }

    private static void eleventhTurn(Edges e) {
        e.is("there are 9", 9, Airports.of(0, 9).addTurn(0, 0, 30, 1));
        e.refused("there are 10", Edges.STATE, Airports::full, a -> a.addTurn(0, 0, 30, 1));
        e.is("one was undone", 9, Edges.called(() -> Airports.of(0, 10), StandAssigner::undo).addTurn(0, 0, 30, 1));
    }

    private static void numbersOfATurn(Edges e) {
        StandAssigner a = Airports.of(0, 0);
        a.addTurn(0, 0, 30, 1);
        a.addTurn(3, 1000, 1440, 9);
        int[] first = {0, 0, 30, 1, -1, 20};
        int[] second = {3, 1000, 1440, 9, -1, 180};
        for (int what = 0; what <= 5; what++) {
            e.is("the first turn, " + what, first[what], a.turn(0, what));
            e.is("the second turn, " + what, second[what], a.turn(1, what));
        }
        a.tow(1, 1010);
        e.is("its tow", 1010, a.turn(1, 4));
        e.is("its cost with the tow, both on none", 180 + 10 + 180, a.turn(1, 5));
        e.is("not the tow of the first", -1, a.turn(0, 4));
        a.addStand(2, 3);
        a.addStand(0, 3);
        a.place(1, 0, 1);
        e.is("stay 0 on a gate", 10 + 180, a.turn(1, 5));
        a.place(1, 1, 0);
        e.is("stay 1 on a remote stand", 10 + 45, a.turn(1, 5));
        a.untow(1);
        e.is("when it ended", -1, a.turn(1, 4));
        e.is("its cost then", 0, a.turn(1, 5));
        a.tow(0, 10);
        e.is("the earliest tow", 10, a.turn(0, 4));
    }

    private static void numbersOfAStay(Edges e) {
        StandAssigner a = Airports.full();
        int[] last = {950, 980, 2, 5, 0, 0};
        int[] first = {0, 40, 0, 0, 0, 0};
        for (int what = 0; what <= 5; what++) {
            e.is("the first stay, " + what, first[what], a.ofStay(0, 0, what));
            e.is("the last stay, " + what, last[what], a.ofStay(9, 1, what));
        }
        a.setBuffer(31);
        a.lift(9, 1);
        e.is("on none", -1, a.ofStay(9, 1, 2));
        e.is("its cost on none", 20, a.ofStay(9, 1, 3));
        a.setBuffer(0);
        a.place(9, 1, 1);
        a.setBuffer(11);
        e.is("in conflict with the one before", 1 << 18, a.ofStay(9, 1, 4));
        e.is("which is in conflict with the last", 1 << 19, a.ofStay(9, 0, 4));
        e.is("not hindered", 0, a.ofStay(9, 1, 5));
        a.setOpen(1, false);
        e.is("hindered", 1, a.ofStay(9, 1, 5));
        e.is("the first is not", 0, a.ofStay(0, 0, 5));
    }

    // ---- promises 19 and 20

    private static void dividing(Edges e) {
        StandAssigner a = Airports.one();
        a.addTurn(1, 300, 400, 1);
        a.tow(0, 110);
        e.is("two stays", 3, a.account(2));
        e.is("stay 0 remains", 0, a.ofStay(0, 0, 2));
        e.is("stay 1 is on none", -1, a.ofStay(0, 1, 2));
        e.is("end of stay 0", 110, a.ofStay(0, 0, 1));
        e.is("beginning of stay 1", 120, a.ofStay(0, 1, 0));
        a.tow(1, 380);
        e.is("stay 0 on none remains there", -1, a.ofStay(1, 0, 2));
        e.is("and stay 1", -1, a.ofStay(1, 1, 2));
        StandAssigner again = Edges.called(EdgesOfTurns::twoAndOne, b -> b.untow(0));
        again.tow(0, 120);
        e.is("stay 1 on none, where an earlier one was on a stand", -1, again.ofStay(0, 1, 2));
    }

    private static void lengthOfStayOne(Edges e) {
        e.is("the longest of 100 minutes", 80, Airports.one().tow(0, 110));
        e.is("the shortest", 10, Airports.one().tow(0, 180));
        StandAssigner a = Airports.empty();
        a.addTurn(0, 0, 1440, 1);
        e.is("the longest of all", 1420, a.tow(0, 10));
        e.is("which it has", 1420, a.ofStay(0, 1, 1) - a.ofStay(0, 1, 0));
        StandAssigner ten = Airports.of(0, 10);
        for (int turn = 0; turn < 10; turn++) {
            e.is("of turn " + turn, 50 - 10 - 2 * turn, ten.tow(turn, 100 * turn + 10 + 2 * turn));
        }
    }

    private static void joining(Edges e) {
        StandAssigner a = twoAndOne();
        a.untow(0);
        e.is("one stay", 2, a.account(2));
        e.is("where stay 0 was", 0, a.ofStay(0, 0, 2));
        e.is("from the arrival", 100, a.ofStay(0, 0, 0));
        e.is("to the departure", 200, a.ofStay(0, 0, 1));
        e.is("none where stay 1 was", 1, a.stand(1, 4));
        e.is("no tow", -1, a.turn(0, 4));
        e.is("no tows", 0, a.account(5));
        e.throwing("no stay 1", Edges.INDEX, a, b -> b.ofStay(0, 1, 0));
    }

    private static void standOfStayOne(Edges e) {
        e.is("on none", -1, Airports.towed().untow(0));
        e.is("stand 1", 1, twoAndOne().untow(0));
        e.is("the lowest stand", 0, Airports.full().untow(7));
        e.is("the highest stand", 7, Airports.full().untow(6));
        StandAssigner apart = Airports.of(4, 2);
        for (int turn = 0; turn < 2; turn++) {
            apart.tow(turn, 100 * turn + 30);
            apart.place(turn, 0, turn);
            apart.place(turn, 1, 3 - turn);
        }
        e.is("not that of the next turn", 3, apart.untow(0));
        e.is("not that of the turn before", 2, apart.untow(1));
    }

    private static void noTurnToUntow(Edges e) {
        Edges.Maker all = () -> {
            StandAssigner a = three();
            for (int turn = 0; turn < 3; turn++) {
                a.tow(turn, 100 * turn + 30);
            }
            return a;
        };
        e.range("turn", 0, 2, Edges.INDEX, all, StandAssigner::untow);
        e.refused("turn 0 of none", Edges.INDEX, Airports::empty, a -> a.untow(0));
        e.refused("turn 10 of 10", Edges.INDEX, Airports::full, a -> a.untow(10));
    }

    private static void noTow(Edges e) {
        e.refused("never", Edges.STATE, Airports::one, a -> a.untow(0));
        e.refused("no more", Edges.STATE, () -> Edges.called(Airports::towed, a -> a.untow(0)), a -> a.untow(0));
        e.refused("undone", Edges.STATE, () -> Edges.called(Airports::towed, StandAssigner::undo), a -> a.untow(0));
        e.refused("another has one", Edges.STATE, EdgesOfTurns::twoAndOne, a -> a.untow(1));
        e.is("it has one", -1, Airports.towed().untow(0));
    }

    private static void whenATowEnds(Edges e) {
        StandAssigner a = Airports.towed();
        a.addTurn(1, 165, 260, 1);
        a.place(1, 0, 0);
        e.is("no conflict with the tow", 0, a.conflicts());
        a.untow(0);
        e.is("a conflict without it", 1, a.conflicts());
        e.is("stay 0 stays", 0, a.ofStay(0, 0, 2));
        e.is("so does the other", 0, a.ofStay(1, 0, 2));
        StandAssigner none = twoAndOne();
        none.lift(0, 0);
        none.untow(0);
        e.is("stay 0 stays on none", -1, none.ofStay(0, 0, 2));
        e.is("nothing goes where stay 1 was", 1, none.account(3));
    }

    // ---- promise 21

    private static void fewestAndMostMinutes(Edges e) {
        StandAssigner a = Airports.one();
        a.delay(0, 1);
        e.is("one minute", 101, a.turn(0, 1));
        a.delay(0, 300);
        e.is("300 minutes", 401, a.turn(0, 1));
        e.refused("0 minutes", Edges.ARGUMENT, Airports::busy, b -> b.delay(1, 0));
        e.refused("301 minutes", Edges.ARGUMENT, Airports::busy, b -> b.delay(1, 301));
        e.refused("301 minutes that would be too late", Edges.ARGUMENT, EdgesOfTurns::lateTurn, b -> b.delay(0, 301));
    }

    private static void laterDepartures(Edges e) {
        e.is("by none", 0, Airports.one().delay(0, 1));
        e.is("by none, just 30 minutes are left", 0, Airports.one().delay(0, 70));
        e.is("by one", 1, Airports.one().delay(0, 71));
        e.is("by the most of it", 230, Airports.one().delay(0, 300));
        StandAssigner shortest = Airports.empty();
        shortest.addTurn(0, 0, 30, 1);
        e.is("by all of it", 300, shortest.delay(0, 300));
        e.is("by none with a tow", 0, Airports.towed().delay(0, 70));
        e.is("by one with a tow", 1, Airports.towed().delay(0, 71));
    }

    private static StandAssigner lateTurn() {
        StandAssigner a = Airports.of(1, 0);
        a.addTurn(1, 1300, 1400, 1);
        a.place(0, 0, 0);
        return a;
    }

    private static void tooLate(Edges e) {
        StandAssigner a = lateTurn();
        e.is("just to 1440", 40, a.delay(0, 110));
        e.is("its departure", 1440, a.turn(0, 2));
        e.refused("to 1441", Edges.STATE, EdgesOfTurns::lateTurn, b -> b.delay(0, 111));
        e.refused("one more minute", Edges.STATE, () -> Edges.called(EdgesOfTurns::lateTurn, b -> b.delay(0, 110)),
            b -> b.delay(0, 1));
        Edges.Maker withTow = () -> Edges.called(EdgesOfTurns::lateTurn, b -> b.tow(0, 1380));
        e.is("just to 1440 with a tow", 40, withTow.make().delay(0, 110));
        e.refused("to 1441 with a tow", Edges.STATE, withTow, b -> b.delay(0, 111));
        e.refused("as late as can be", Edges.STATE, EdgesOfTurns::lateTurn, b -> b.delay(0, 300));
        Edges.Maker whole = () -> {
            StandAssigner b = Airports.of(1, 0);
            b.addTurn(1, 1100, 1440, 1);
            return b;
        };
        e.is("a departure at 1440 that stays", 0, whole.make().delay(0, 300));
    }

    private static void laterArrivals(Edges e) {
        for (int minutes : new int[] {1, 70, 71, 300}) {
            e.is("by " + minutes, 100 + minutes,
                Edges.called(Airports::one, a -> a.delay(0, minutes)).turn(0, 1));
            e.is("with a tow, by " + minutes, 100 + minutes,
                Edges.called(Airports::towed, a -> a.delay(0, minutes)).ofStay(0, 0, 0));
        }
        StandAssigner a = twoAndOne();
        a.delay(0, 50);
        e.is("not of another turn", 300, a.turn(1, 1));
        a.delay(0, 50);
        e.is("again", 200, a.turn(0, 1));
    }

    private static int towAfter(int minutes) {
        return Edges.called(Airports::towed, a -> a.delay(0, minutes)).turn(0, 4);
    }

    private static void laterTows(Edges e) {
        e.is("still 10 minutes after the arrival", 150, towAfter(40));
        e.is("9 minutes after it", 151, towAfter(41));
        e.is("at the arrival", 160, towAfter(50));
        e.is("before the arrival", 410, towAfter(300));
        StandAssigner a = Edges.called(Airports::towed, b -> b.delay(0, 41));
        e.is("end of stay 0", 151, a.ofStay(0, 0, 1));
        e.is("beginning of stay 1", 161, a.ofStay(0, 1, 0));
        e.is("no tow comes", -1, Edges.called(Airports::one, b -> b.delay(0, 300)).turn(0, 4));
    }

    private static void towStays(Edges e) {
        e.is("by one minute", 150, towAfter(1));
        e.is("10 minutes after the arrival", 150, towAfter(40));
        e.is("less than 10 minutes after it", 151, towAfter(41));
    }

    private static int departureAfter(Edges.Maker maker, int minutes) {
        return Edges.called(maker, a -> a.delay(0, minutes)).turn(0, 2);
    }

    private static void departureAsItMust(Edges e) {
        e.is("30 minutes after the arrival", 200, departureAfter(Airports::one, 70));
        e.is("29 minutes after it", 201, departureAfter(Airports::one, 71));
        e.is("behind it", 430, departureAfter(Airports::one, 300));
        e.is("20 minutes after the tow", 200, departureAfter(Airports::towed, 70));
        e.is("19 minutes after the tow", 201, departureAfter(Airports::towed, 71));
        e.is("behind it with a tow", 430, departureAfter(Airports::towed, 300));
        e.is("otherwise it stays", 200, departureAfter(Airports::one, 1));
        e.is("otherwise it stays with a tow that stays", 200, departureAfter(Airports::towed, 1));
        e.is("and with a tow that does not", 200, departureAfter(Airports::towed, 41));
        Edges.Maker late = () -> {
            StandAssigner a = Airports.of(1, 0);
            a.addTurn(1, 100, 200, 1);
            a.tow(0, 180);
            return a;
        };
        e.is("20 minutes after a tow that stays", 200, departureAfter(late, 70));
        e.is("the tow is moved by one", 201, departureAfter(late, 71));
        StandAssigner a = Edges.called(late, b -> b.delay(0, 71));
        e.is("end of stay 1", 201, a.ofStay(0, 1, 1));
    }

    private static void staysRemain(Edges e) {
        StandAssigner a = twoAndOne();
        a.delay(0, 180);
        e.is("stay 0", 0, a.ofStay(0, 0, 2));
        e.is("stay 1", 1, a.ofStay(0, 1, 2));
        e.is("the other turn", 1, a.ofStay(1, 0, 2));
        e.is("also in conflict", 1, a.conflicts());
        a.lift(0, 1);
        a.delay(0, 10);
        e.is("on none", -1, a.ofStay(0, 1, 2));
        StandAssigner closed = Edges.called(Airports::one, b -> b.setOpen(0, false));
        closed.delay(0, 1);
        e.is("on a closed stand", 0, closed.ofStay(0, 0, 2));
    }
}
