/** The sentences of "What it is" and of "Terms" up to "Repairs" that name an edge. */
final class EdgesOfTerms {
    private EdgesOfTerms() {
    }

    static void run(Edges e) {
        e.of("What it is", "An object is used for at most 512 calls after it has been made; what later calls answer"
            + " is free.", EdgesOfTerms::theLastCall);
        e.ofTerms("Minutes are numbered from 0 to 1440.", EdgesOfTerms::minutes);
        e.ofTerms("There is a buffer from 0 to 60 minutes, at first 15.", EdgesOfTerms::buffer);
        e.ofTerms("There are at most 8 stands, numbered from 0 in the order in which they were added.",
            EdgesOfTerms::eightStands);
        e.ofTerms("A stand is of a kind, 0 gate, 1 apron, 2 remote, and has a size from 0 to 3; it is open, as at"
            + " first, or closed.", EdgesOfTerms::kindsAndSizes);
        e.ofTerms("Two different stands can be a pair with a limit from 0 to 6.", EdgesOfTerms::limits);
        e.ofTerms("There are at most 10 turns, numbered from 0 in the order in which they were added.",
            EdgesOfTerms::tenTurns);
        e.ofTerms("A turn is of an aircraft with a size from 0 to 3; it has an arrival and a departure, which is at"
            + " least 30 minutes later, a weight from 1 to 9, and perhaps a tow at a minute that is at least 10"
            + " minutes after the arrival and at least 20 before the departure.", EdgesOfTerms::numbersOfTurns);
        e.ofTerms("Without a tow, a turn has one stay, stay 0, from the arrival to the departure.",
            EdgesOfTerms::oneStay);
        e.ofTerms("With one, stay 0 is from the arrival to the minute of the tow, and stay 1 is from 10 minutes after"
            + " the tow to the departure.", EdgesOfTerms::twoStays);
        e.ofTerms("The number of a stay is 2 times that of its turn plus 0 or 1.", EdgesOfTerms::numbersOfStays);
        e.ofTerms("A stay is on a stand or on none.", EdgesOfTerms::onAStandOrNone);
        conflicts(e);
        refusals(e);
        costs(e);
        assigning(e);
    }

    private static void conflicts(Edges e) {
        e.ofTerms("A stay is hindered on a stand if the stand is closed, or is smaller than the aircraft.",
            EdgesOfTerms::hindered);
        e.ofTerms("Two stays are in conflict if they are on the same stand, and the later one does not begin at least"
            + " the buffer after the end of the other one; or if they are on two stands that are a pair, there is a"
            + " minute in which both are there, where a stay is there from its first minute up to the one before its"
            + " last, and the sum of the sizes of both aircraft is greater than the limit.",
            EdgesOfTerms::inConflict);
        e.ofTerms("The stays of a turn can be in conflict with each other only on the same stand, and only by the"
            + " buffer.", EdgesOfTerms::staysOfOneTurn);
        e.ofTerms("Of two stays on one stand, the later one is the one that begins later; two that begin together are"
            + " in conflict.", EdgesOfTerms::theLaterOne);
        e.ofTerms("With a buffer above 10, both stays of a turn on one stand are in conflict, and each counts when the"
            + " other one is placed.", EdgesOfTerms::bufferAboveTen);
        e.ofTerms("A stay on no stand is neither hindered nor in conflict.", EdgesOfTerms::onNoStand);
        e.ofTerms("No stay is there at minute 1440, and gaps do not look at buffers or at closed stands.",
            EdgesOfTerms::theLastMinute);
    }

    private static void refusals(Edges e) {
        e.ofTerms("A call of place that is refused throws an UnsupportedOperationException, and a reason is kept, the"
            + " first one that applies: 1 the stay is on this stand already; 2 the stand is closed; 3 the stand is"
            + " smaller than the aircraft; 4 the stay would be in conflict with another one on this stand; 5 it would"
            + " be in conflict with one on another stand.", EdgesOfTerms::reasons);
        e.ofTerms("The stay is looked at as if it was on no stand before.", EdgesOfTerms::asIfOnNone);
    }

    private static void costs(Edges e) {
        e.ofTerms("A stay on a gate costs nothing, on an apron 2 times the weight of its turn, on a remote stand 5"
            + " times the weight, and on no stand 20 times the weight.", EdgesOfTerms::costsOfStays);
        e.ofTerms("A tow costs 10.", EdgesOfTerms::costOfTow);
        e.ofTerms("The cost of all is the sum of these.", EdgesOfTerms::costOfAll);
        e.ofTerms("Hindered stays cost what their stands cost.", EdgesOfTerms::costOfHindered);
    }

    private static void assigning(Edges e) {
        e.ofTerms("To assign all means: the stays that are on no stand are looked at in ascending order of their"
            + " beginnings, of several in descending order of the weights of their turns, of several in ascending"
            + " order of their numbers; each one is placed on the cheapest stand on which it would not be refused, of"
            + " several the one with the lowest number, if there is one.", EdgesOfTerms::orderOfAssigning);
    }

    private static void theLastCall(Edges e) {
        StandAssigner a = Airports.of(1, 0);
        int was = 15;
        for (int call = 2; call < 512; call++) {
            int buffer = call % 61;
            e.is("call " + call, was, a.setBuffer(buffer));
            was = buffer;
        }
        e.is("call 512", 5, a.undo());
    }

    private static void minutes(Edges e) {
        StandAssigner a = Airports.of(1, 0);
        e.is("a turn from 0 to 1440", 0, a.addTurn(0, 0, 1440, 1));
        e.is("its arrival", 0, a.turn(0, 1));
        e.is("its departure", 1440, a.turn(0, 2));
        a.place(0, 0, 0);
        e.is("minute 0", 0, a.at(0, 0));
        e.is("minute 1439", 0, a.at(0, 1439));
        e.is("minute 1440", 0, a.gap(0, 1440));
        e.is("all minutes", 1440, a.minutes());
        e.refused("arrival at -1", Edges.ARGUMENT, Airports::busy, b -> b.addTurn(0, -1, 1440, 1));
        e.refused("departure at 1441", Edges.ARGUMENT, Airports::busy, b -> b.addTurn(0, 0, 1441, 1));
        e.refused("at -1", Edges.ARGUMENT, Airports::busy, b -> b.at(1, -1));
        e.refused("at 1441", Edges.ARGUMENT, Airports::busy, b -> b.at(1, 1441));
        e.refused("gap from -1", Edges.ARGUMENT, Airports::busy, b -> b.gap(1, -1));
        e.refused("gap from 1441", Edges.ARGUMENT, Airports::busy, b -> b.gap(1, 1441));
    }

    private static void buffer(Edges e) {
        e.is("at first", 15, Airports.empty().setBuffer(0));
        e.range("buffer", 0, 60, Edges.ARGUMENT, Airports::busy, StandAssigner::setBuffer);
        e.is("15 at first, 15 minutes behind", 0, reasonBehind(-1, 15));
        e.is("15 at first, 14 minutes behind", 4, reasonBehind(-1, 14));
        e.is("0, at the end", 0, reasonBehind(0, 0));
        e.is("0, one minute before the end", 4, reasonBehind(0, -1));
        e.is("60, 60 minutes behind", 0, reasonBehind(60, 60));
        e.is("60, 59 minutes behind", 4, reasonBehind(60, 59));
    }

    /** Why a stay could not be placed some minutes behind the end of one that ends at minute 100. */
    private static int reasonBehind(int buffer, int minutes) {
        StandAssigner a = Airports.of(1, 0);
        if (buffer >= 0) {
            a.setBuffer(buffer);
        }
        a.addTurn(1, 0, 100, 1);
        a.addTurn(1, 100 + minutes, 300, 1);
        a.place(0, 0, 0);
        return a.whyNot(1, 0, 0);
    }

    private static void eightStands(Edges e) {
        StandAssigner a = Airports.empty();
        for (int stand = 0; stand < 8; stand++) {
            e.is("stand " + stand, stand, a.addStand((stand + 1) % 3, (stand + 2) % 4));
        }
        for (int stand = 0; stand < 8; stand++) {
            e.is("kind of " + stand, (stand + 1) % 3, a.stand(stand, 0));
            e.is("size of " + stand, (stand + 2) % 4, a.stand(stand, 1));
        }
        e.is("stands", 8, a.account(0));
        e.refused("a ninth", Edges.STATE, Airports::full, b -> b.addStand(0, 0));
    }

    private static void kindsAndSizes(Edges e) {
        e.range("kind", 0, 2, Edges.ARGUMENT, Airports::busy, (a, kind) -> a.addStand(kind, 1));
        e.range("size", 0, 3, Edges.ARGUMENT, Airports::busy, (a, size) -> a.addStand(1, size));
        StandAssigner a = Airports.of(0, 1);
        a.addStand(0, 3);
        a.addStand(1, 3);
        a.addStand(2, 0);
        int[] costs = {0, 2};
        for (int stand = 0; stand < 2; stand++) {
            a.place(0, 0, stand);
            e.is("cost on kind " + stand, costs[stand], a.turn(0, 5));
        }
        for (int stand = 0; stand < 3; stand++) {
            e.is("open at first", 1, a.stand(stand, 2));
        }
        e.is("size 0 is too small for size 1", 3, a.whyNot(0, 0, 2));
        a.setOpen(2, false);
        e.is("closed", 0, a.stand(2, 2));
    }

    private static void limits(Edges e) {
        for (int limit = 0; limit <= 6; limit += 6) {
            StandAssigner a = Airports.of(3, 0);
            a.pair(0, 2, limit);
            e.is("a pair by limit " + limit, 4, a.stand(0, 3));
            e.is("the other one too", 1, a.stand(2, 3));
            e.is("not the third", 0, a.stand(1, 3));
            e.is("the limit", limit, a.pair(2, 0, 3));
        }
        e.refused("limit 7", Edges.ARGUMENT, Airports::busy, a -> a.pair(0, 1, 7));
        e.refused("limit -2", Edges.ARGUMENT, Airports::busy, a -> a.pair(0, 1, -2));
        e.refused("a stand with itself", Edges.ARGUMENT, Airports::busy, a -> a.pair(1, 1, 3));
    }

    private static void tenTurns(Edges e) {
        StandAssigner a = Airports.empty();
        for (int turn = 0; turn < 10; turn++) {
            e.is("turn " + turn, turn, a.addTurn(turn % 4, 7 * turn, 500 + turn, 1 + turn % 9));
        }
        for (int turn = 0; turn < 10; turn++) {
            e.is("size of " + turn, turn % 4, a.turn(turn, 0));
            e.is("arrival of " + turn, 7 * turn, a.turn(turn, 1));
        }
        e.is("turns", 10, a.account(1));
        e.refused("an eleventh", Edges.STATE, Airports::full, b -> b.addTurn(0, 0, 30, 1));
    }

    private static void numbersOfTurns(Edges e) {
        e.range("size", 0, 3, Edges.ARGUMENT, Airports::busy, (a, size) -> a.addTurn(size, 0, 60, 1));
        e.range("weight", 1, 9, Edges.ARGUMENT, Airports::busy, (a, weight) -> a.addTurn(0, 0, 60, weight));
        e.range("departure", 130, 1440, Edges.ARGUMENT, Airports::busy, (a, minute) -> a.addTurn(0, 100, minute, 1));
        e.range("arrival", 0, 1410, Edges.ARGUMENT, Airports::busy, (a, minute) -> a.addTurn(0, minute, 1440, 1));
        e.range("tow", 110, 180, Edges.ARGUMENT, Airports::one, (a, minute) -> a.tow(0, minute));
        StandAssigner shortest = Airports.empty();
        shortest.addTurn(0, 50, 80, 1);
        e.throwing("9 minutes after the arrival", Edges.ARGUMENT, shortest, a -> a.tow(0, 59));
        e.throwing("19 before the departure", Edges.ARGUMENT, shortest, a -> a.tow(0, 61));
        e.is("the only minute of the shortest turn", 10, shortest.tow(0, 60));
    }

    private static void oneStay(Edges e) {
        StandAssigner a = Airports.one();
        e.is("its beginning", 100, a.ofStay(0, 0, 0));
        e.is("its end", 200, a.ofStay(0, 0, 1));
        e.is("one stay", 1, a.account(2));
        e.is("its length", 100, a.account(6));
        e.refused("stay 1", Edges.INDEX, Airports::one, b -> b.ofStay(0, 1, 0));
        e.refused("stay -1", Edges.INDEX, Airports::one, b -> b.ofStay(0, -1, 0));
    }

    private static void twoStays(Edges e) {
        StandAssigner a = Airports.towed();
        e.is("beginning of stay 0", 100, a.ofStay(0, 0, 0));
        e.is("end of stay 0", 150, a.ofStay(0, 0, 1));
        e.is("beginning of stay 1", 160, a.ofStay(0, 1, 0));
        e.is("end of stay 1", 200, a.ofStay(0, 1, 1));
        e.is("two stays", 2, a.account(2));
        e.refused("stay 2", Edges.INDEX, Airports::towed, b -> b.ofStay(0, 2, 0));
        a.addStand(0, 3);
        a.place(0, 1, 1);
        e.is("the last minute of stay 0", 0, a.at(0, 149));
        e.throwing("the minute of the tow", Edges.NOTHING, a, b -> b.at(0, 150));
        e.throwing("the last minute of the tow", Edges.NOTHING, a, b -> b.at(1, 159));
        e.is("the first minute of stay 1", 1, a.at(1, 160));
        e.is("the last minute of stay 1", 1, a.at(1, 199));
    }

    private static void numbersOfStays(Edges e) {
        StandAssigner a = Airports.full();
        for (int turn = 0; turn < 10; turn += 9) {
            for (int stay = 0; stay <= 1; stay++) {
                int minute = a.ofStay(turn, stay, 0);
                e.is("stay " + stay + " of turn " + turn, 2 * turn + stay, a.at(a.ofStay(turn, stay, 2), minute));
            }
        }
    }

    private static void onAStandOrNone(Edges e) {
        StandAssigner a = Airports.of(8, 1);
        e.is("on none at first", -1, a.ofStay(0, 0, 2));
        for (int stand = 0; stand < 8; stand++) {
            a.place(0, 0, stand);
            e.is("on stand " + stand, stand, a.ofStay(0, 0, 2));
            e.is("on one stand", 1, a.account(3));
        }
        e.is("not on the one before", 0, a.stand(6, 4));
        a.lift(0, 0);
        e.is("on none again", -1, a.ofStay(0, 0, 2));
        e.is("on no stand", 0, a.account(3));
    }

    private static void hindered(Edges e) {
        StandAssigner a = Airports.empty();
        for (int size = 0; size < 4; size++) {
            a.addStand(0, size);
            a.addTurn(size, 0, 60, 1);
        }
        for (int size = 0; size < 4; size++) {
            if (size > 0) {
                e.is("smaller than size " + size, 3, a.whyNot(size, 0, size - 1));
            }
            e.is("just as large as size " + size, 0, a.whyNot(size, 0, size));
            a.place(size, 0, size);
            e.is("not hindered", 0, a.ofStay(size, 0, 5));
        }
        a.setOpen(3, false);
        e.is("on a closed stand", 1, a.ofStay(3, 0, 5));
        e.is("not the others", 0, a.ofStay(2, 0, 5));
        e.is("one is hindered", 1, a.account(8));
        a.setOpen(3, true);
        e.is("open again", 0, a.ofStay(3, 0, 5));
    }

    private static void inConflict(Edges e) {
        for (int buffer : new int[] {0, 15, 60}) {
            e.is("on one stand, just the buffer of " + buffer, 0, onOneStand(buffer, buffer));
            e.is("on one stand, a minute less than " + buffer, 1, onOneStand(buffer, buffer - 1));
            e.is("the earlier one later, just " + buffer, 0, onOneStand(buffer, -buffer - 160));
            e.is("the earlier one later, less than " + buffer, 1, onOneStand(buffer, -buffer - 159));
        }
        e.is("a pair, both there in one minute", 1, onAPair(100, 199, 3, 3, 5));
        e.is("a pair, one ends where the other begins", 0, onAPair(100, 200, 3, 3, 5));
        e.is("a pair, the other ends one minute behind", 1, onAPair(100, 41, 3, 3, 5));
        e.is("a pair, the other ends where the one begins", 0, onAPair(100, 40, 3, 3, 5));
        e.is("a pair, one within the other", 1, onAPair(100, 120, 3, 3, 5));
        e.is("a pair, sum at the limit", 0, onAPair(100, 120, 3, 2, 5));
        e.is("a pair, sum above the limit", 1, onAPair(100, 120, 3, 2, 4));
        e.is("a pair of the greatest limit", 0, onAPair(100, 120, 3, 3, 6));
        e.is("a pair of the least limit", 1, onAPair(100, 120, 0, 1, 0));
        e.is("a pair of the least limit, smallest sizes", 0, onAPair(100, 120, 0, 0, 0));
        e.is("no pair", 0, onAPair(100, 120, 3, 3, -1));
    }

    /** The conflicts of two stays on one stand: one from 400 to 500, one of 60 minutes some minutes behind its end. */
    private static int onOneStand(int buffer, int minutes) {
        StandAssigner a = Airports.of(2, 0);
        a.setBuffer(buffer);
        a.addTurn(1, 400, 500, 1);
        a.addTurn(1, 500 + minutes, 560 + minutes, 1);
        a.place(0, 0, 0);
        boolean isRefused = a.whyNot(1, 0, 0) == 4;
        a.setBuffer(0);
        boolean isApart = a.whyNot(1, 0, 0) == 0;
        if (isApart) {
            a.place(1, 0, 0);
        }
        a.setBuffer(buffer);
        // Those that could not be placed even without a buffer are in conflict with every buffer.
        int found = isApart ? a.conflicts() : 1;
        return isRefused == (found == 1) ? found : -1;
    }

    /** The conflicts of two stays on two stands: one of 100 minutes and one of 60. */
    private static int onAPair(int begin, int otherBegin, int size, int otherSize, int limit) {
        StandAssigner a = Airports.of(2, 0);
        a.addTurn(size, begin, begin + 100, 1);
        a.addTurn(otherSize, otherBegin, otherBegin + 60, 1);
        a.place(0, 0, 0);
        a.pair(1, 0, limit);
        boolean isRefused = a.whyNot(1, 0, 1) == 5;
        a.pair(0, 1, -1);
        a.place(1, 0, 1);
        a.pair(0, 1, limit);
        int found = a.conflicts();
        boolean isSeen = a.ofStay(0, 0, 4) == 4 * found && a.ofStay(1, 0, 4) == found;
        return isSeen && isRefused == (found == 1) ? found : -1;
    }

    private static void staysOfOneTurn(Edges e) {
        StandAssigner a = Airports.of(2, 0);
        a.addTurn(3, 100, 200, 1);
        a.tow(0, 150);
        a.setBuffer(60);
        a.pair(0, 1, 0);
        a.place(0, 0, 0);
        e.is("on a pair of limit 0", 0, a.whyNot(0, 1, 1));
        e.is("on the same stand, by the buffer", 4, a.whyNot(0, 1, 0));
        a.place(0, 1, 1);
        e.is("no conflict", 0, a.conflicts());
        a.setBuffer(0);
        a.place(0, 1, 0);
        e.is("on the same stand without a buffer", 0, a.conflicts());
        a.setBuffer(60);
        e.is("on the same stand with one", 1, a.conflicts());
    }

    private static void theLaterOne(Edges e) {
        StandAssigner a = Airports.of(2, 0);
        a.setBuffer(0);
        a.addTurn(1, 100, 400, 1);
        a.addTurn(1, 101, 131, 1);
        a.addTurn(1, 100, 130, 1);
        a.addTurn(1, 400, 430, 1);
        a.place(0, 0, 0);
        e.is("begins later, ends earlier", 4, a.whyNot(1, 0, 0));
        e.is("begins together", 4, a.whyNot(2, 0, 0));
        e.is("begins at the end", 0, a.whyNot(3, 0, 0));
        a.lift(0, 0);
        a.place(2, 0, 0);
        e.is("begins together, the longer one is placed", 4, a.whyNot(0, 0, 0));
        e.is("begins one minute later", 4, a.whyNot(1, 0, 0));
        a.lift(2, 0);
        a.place(1, 0, 0);
        e.is("began one minute earlier", 4, a.whyNot(0, 0, 0));
    }

    private static void bufferAboveTen(Edges e) {
        for (int first = 0; first <= 1; first++) {
            StandAssigner a = Airports.of(1, 0);
            a.addTurn(1, 100, 200, 1);
            a.tow(0, 150);
            a.place(0, first, 0);
            a.setBuffer(11);
            e.is("buffer 11, stay " + first + " is there", 4, a.whyNot(0, 1 - first, 0));
            e.throwing("placing the other one", Edges.REFUSED, a, b -> b.place(0, b.ofStay(0, 0, 2) < 0 ? 0 : 1, 0));
            a.setBuffer(10);
            e.is("buffer 10, stay " + first + " is there", 0, a.whyNot(0, 1 - first, 0));
            a.place(0, 1 - first, 0);
            e.is("no conflict by 10", 0, a.conflicts());
            a.setBuffer(11);
            e.is("a conflict by 11", 1, a.conflicts());
            e.is("of stay 0 with stay 1", 2, a.ofStay(0, 0, 4));
            e.is("of stay 1 with stay 0", 1, a.ofStay(0, 1, 4));
        }
    }

    private static void onNoStand(Edges e) {
        StandAssigner a = Airports.of(2, 0);
        a.setBuffer(0);
        a.addTurn(1, 0, 60, 1);
        a.addTurn(1, 60, 120, 1);
        a.place(0, 0, 0);
        a.place(1, 0, 0);
        a.setBuffer(1);
        a.setOpen(0, false);
        e.is("both on a stand", 1, a.conflicts());
        e.is("both are hindered", 2, a.account(8));
        a.lift(1, 0);
        e.is("in conflict with none", 0, a.ofStay(1, 0, 4));
        e.is("not hindered", 0, a.ofStay(1, 0, 5));
        e.is("no conflicts", 0, a.conflicts());
        e.is("one is hindered", 1, a.account(8));
        a.lift(0, 0);
        e.is("none is hindered", 0, a.account(8));
        e.is("nothing to repair", 0, a.leastMoves());
        e.is("nothing to repair by the second way", 0, a.leastAgain());
    }

    private static void theLastMinute(Edges e) {
        StandAssigner a = Airports.of(1, 0);
        a.addTurn(1, 1410, 1440, 1);
        a.addTurn(1, 1000, 1100, 1);
        a.place(0, 0, 0);
        a.place(1, 0, 0);
        e.is("there at 1439", 0, a.at(0, 1439));
        e.throwing("not at 1440", Edges.NOTHING, a, b -> b.at(0, 1440));
        e.is("no minutes at 1440", 130, a.minutes());
        e.is("from 1440 on", 0, a.gap(0, 1440));
        a.setBuffer(60);
        e.is("from 1100 on, whatever the buffer", 310, a.gap(0, 1100));
        a.setBuffer(0);
        e.is("from 1100 on without a buffer", 310, a.gap(0, 1100));
        a.setOpen(0, false);
        e.is("from 1100 on, when it is closed", 310, a.gap(0, 1100));
        e.is("there when it is closed", 0, a.gap(0, 1050));
    }

    private static void reasons(Edges e) {
        refusedBy(e, 1, "on this stand already", () -> crowded(0, 0, 0, -1, false, false), 0, 0);
        refusedBy(e, 1, "and it is closed", () -> crowded(0, 0, 0, -1, true, false), 0, 0);
        refusedBy(e, 1, "and in conflict there", () -> crowded(60, 0, 1, -1, false, true), 0, 0);
        refusedBy(e, 1, "and in conflict with another stand", () -> crowded(15, 0, 1, 0, false, false), 0, 0);
        refusedBy(e, 2, "closed", () -> crowded(15, 1, 1, -1, true, false), 2, 0);
        refusedBy(e, 2, "and smaller", () -> closedSmall(), 0, 2);
        refusedBy(e, 2, "and a conflict there", () -> crowded(15, 0, 1, -1, true, false), 2, 0);
        refusedBy(e, 2, "and a conflict elsewhere", () -> crowded(15, 1, 1, 0, true, false), 2, 0);
        refusedBy(e, 3, "smaller", () -> crowded(15, 1, 1, -1, false, false), 0, 2);
        refusedBy(e, 3, "and a conflict there", () -> crowded(15, 0, 2, -1, false, false), 0, 2);
        refusedBy(e, 3, "and a conflict elsewhere", () -> smallBesideAPair(), 2, 2);
        refusedBy(e, 4, "a conflict there", () -> crowded(15, 0, 1, -1, false, false), 2, 0);
        refusedBy(e, 4, "and one elsewhere", () -> crowded(15, 0, 1, 0, false, false), 2, 0);
        refusedBy(e, 5, "a conflict elsewhere alone", () -> crowded(15, 1, 1, 0, false, false), 2, 0);
        theReasonsBehind(e);
    }

    /** That the airports of reasons() have the second reason too: it comes when the first one is taken away. */
    private static void theReasonsBehind(Edges e) {
        Edges.Call lift = a -> a.lift(0, 0);
        Edges.Call open = a -> a.setOpen(0, true);
        behind(e, 2, () -> crowded(0, 0, 0, -1, true, false), lift, 0, 0);
        behind(e, 4, () -> crowded(60, 0, 1, -1, false, true), lift, 0, 0);
        behind(e, 5, () -> crowded(15, 0, 1, 0, false, false), lift, 0, 0);
        behind(e, 3, () -> closedSmall(), a -> a.setOpen(2, true), 0, 2);
        behind(e, 4, () -> crowded(15, 0, 1, -1, true, false), open, 2, 0);
        behind(e, 5, () -> crowded(15, 1, 1, 0, true, false), open, 2, 0);
        behind(e, 4, () -> crowded(15, 0, 2, -1, false, false), lift, 3, 2);
        behind(e, 5, () -> smallBesideAPair(), a -> a.lift(1, 0), 1, 2);
        behind(e, 5, () -> crowded(15, 0, 1, 0, false, false), lift, 2, 0);
    }

    private static void behind(Edges e, int reason, Edges.Maker maker, Edges.Call takeAway, int turn, int stand) {
        e.is("the reason behind", reason, Edges.called(maker, takeAway).whyNot(turn, 0, stand));
    }

    /** The call is refused by this reason, only the reason is new, and whyNot says the same without keeping it. */
    private static void refusedBy(Edges e, int reason, String what, Edges.Maker maker, int turn, int stand) {
        e.refused(reason + " " + what, Edges.REFUSED, maker, a -> a.place(turn, 0, stand), "reason");
        e.is("the reason kept, " + what, reason, Edges.called(maker, a -> a.place(turn, 0, stand)).reason());
        e.is("the reason asked for, " + what, reason, maker.make().whyNot(turn, 0, stand));
        e.onlyAsks("asking, " + what, maker, a -> a.whyNot(turn, 0, stand));
    }

    /**
     * Stands 0 and 1 of size 3, stand 2 of size 1; turn 0 of size 2 from 0 to 100, turn 1 of size 1 from 50 to 150,
     * turn 2 of size 3 from 0 to 100, turn 3 of size 1 from 115 to 200; the first two on the stands that are told.
     */
    private static StandAssigner crowded(int buffer, int ofFirst, int ofSecond, int limit, boolean isClosed,
            boolean isThird) {
        StandAssigner a = Airports.of(2, 0);
        a.addStand(0, 1);
        a.addTurn(2, 0, 100, 1);
        a.addTurn(1, 50, 150, 1);
        a.addTurn(3, 0, 100, 1);
        a.addTurn(1, 115, 200, 1);
        a.place(0, 0, ofFirst);
        if (ofSecond != ofFirst) {
            a.place(1, 0, ofSecond);
        }
        if (isThird) {
            a.place(3, 0, ofFirst);
        }
        a.pair(0, 1, limit);
        a.setBuffer(buffer);
        a.setOpen(0, !isClosed);
        return a;
    }

    private static StandAssigner closedSmall() {
        StandAssigner a = crowded(15, 1, 0, -1, false, false);
        a.setOpen(2, false);
        return a;
    }

    private static StandAssigner smallBesideAPair() {
        StandAssigner a = crowded(15, 1, 0, -1, false, false);
        a.pair(2, 1, 0);
        return a;
    }

    private static void asIfOnNone(Edges e) {
        StandAssigner a = Airports.of(2, 0);
        a.addTurn(3, 100, 200, 1);
        a.pair(0, 1, 0);
        a.place(0, 0, 0);
        e.is("to the other one of a pair", 0, a.whyNot(0, 0, 1));
        e.is("from where it was", 0, a.place(0, 0, 1));
        a.addTurn(1, 100, 200, 1);
        e.is("another one is refused there", 5, a.whyNot(1, 0, 0));
        e.is("its own place is not in its way", 2, a.options(0, 0) + 1);
    }

    private static void costsOfStays(Edges e) {
        for (int weight : new int[] {1, 9}) {
            StandAssigner a = Airports.empty();
            for (int kind = 0; kind < 3; kind++) {
                a.addStand(kind, 3);
            }
            a.addTurn(1, 100, 200, weight);
            e.is("on none, weight " + weight, 20 * weight, a.ofStay(0, 0, 3));
            int[] rates = {0, 2, 5};
            for (int kind = 0; kind < 3; kind++) {
                a.place(0, 0, kind);
                e.is("on kind " + kind + ", weight " + weight, rates[kind] * weight, a.ofStay(0, 0, 3));
            }
        }
    }

    private static void costOfTow(Edges e) {
        StandAssigner a = Airports.one();
        e.is("without it", 0, a.account(4));
        a.addStand(0, 3);
        a.tow(0, 150);
        a.place(0, 1, 1);
        e.is("both stays on gates", 10, a.account(4));
        e.is("of the turn", 10, a.turn(0, 5));
        e.is("not of stay 0", 0, a.ofStay(0, 0, 3));
        e.is("not of stay 1", 0, a.ofStay(0, 1, 3));
        a.untow(0);
        e.is("when it ended", 0, a.account(4));
    }

    private static void costOfAll(Edges e) {
        e.is("of nothing", 0, Airports.empty().account(4));
        e.is("of stands alone", 0, Airports.of(8, 0).account(4));
        StandAssigner a = Airports.full();
        int sum = 0;
        for (int turn = 0; turn < 10; turn++) {
            int[] rates = {0, 2, 5};
            int weight = 1 + turn % 9;
            sum += weight * (rates[turn % 8 % 3] + rates[(turn + 1) % 8 % 3]) + 10;
        }
        e.is("of all that there can be", sum, a.account(4));
        a.lift(9, 1);
        e.is("one on none", sum + 1 * 20 - 5, a.account(4));
    }

    private static void costOfHindered(Edges e) {
        for (int kind = 0; kind < 3; kind++) {
            StandAssigner a = Airports.of(0, 1);
            a.addStand(kind, 3);
            a.place(0, 0, 0);
            int open = a.ofStay(0, 0, 3);
            a.setOpen(0, false);
            e.is("hindered", 1, a.ofStay(0, 0, 5));
            e.is("cost on kind " + kind, open, a.ofStay(0, 0, 3));
            e.is("the known cost", new int[] {0, 2, 5}[kind], a.account(4));
        }
    }

    private static void orderOfAssigning(Edges e) {
        e.is("the earlier of two", 0, winner(49, 50, 1, 9));
        e.is("the earlier of two, the other way", 1, winner(50, 49, 9, 1));
        e.is("of two beginnings the heavier", 1, winner(50, 50, 1, 2));
        e.is("of two beginnings the heavier, the other way", 0, winner(50, 50, 2, 1));
        e.is("of two weights the lower number", 0, winner(50, 50, 5, 5));
        int[] weights = {3, 1, 4, 1, 5, 9, 2, 6, 5, 3};
        int[] byWeight = {5, -1, 4, -1, 2, 0, 7, 1, 3, 6};
        int[] byBeginning = {-1, -1, 7, 6, 5, 4, 3, 2, 1, 0};
        StandAssigner heavy = Airports.of(8, 0);
        StandAssigner early = Airports.of(8, 0);
        for (int turn = 0; turn < 10; turn++) {
            heavy.addTurn(1, 100, 200, weights[turn]);
            early.addTurn(1, 100 - turn, 200, weights[turn]);
        }
        e.is("eight of ten, by weights", 8, heavy.assignAll());
        e.is("eight of ten, by beginnings", 8, early.assignAll());
        for (int turn = 0; turn < 10; turn++) {
            e.is("by weights, turn " + turn, byWeight[turn], heavy.ofStay(turn, 0, 2));
            e.is("by beginnings, turn " + turn, byBeginning[turn], early.ofStay(turn, 0, 2));
        }
        StandAssigner three = Airports.of(3, 0);
        for (int turn = 0; turn < 3; turn++) {
            three.addTurn(1, 100, 200, turn == 1 ? 1 : 5);
        }
        e.is("all of three", 3, three.assignAll());
        e.is("the lightest comes last", 2, three.ofStay(1, 0, 2));
        e.is("behind the heavy one of a higher number", 1, three.ofStay(2, 0, 2));
        StandAssigner a = Airports.of(1, 0);
        a.setBuffer(10);
        a.addTurn(1, 50, 200, 5);
        a.addTurn(1, 110, 200, 5);
        a.tow(0, 100);
        e.is("both stays of a turn", 2, a.assignAll());
        e.is("stay 1 of turn 0 is before stay 0 of turn 1", 0, a.ofStay(0, 1, 2));
        e.is("which finds no stand", -1, a.ofStay(1, 0, 2));
        StandAssigner later = Airports.of(2, 0);
        later.addTurn(1, 50, 200, 9);
        later.addTurn(1, 108, 200, 1);
        later.place(0, 0, 1);
        later.tow(0, 99);
        later.setOpen(1, false);
        e.is("one of two", 1, later.assignAll());
        e.is("that of turn 1, which begins at 108", 0, later.ofStay(1, 0, 2));
        e.is("not stay 1, which begins at 109, of an earlier turn", -1, later.ofStay(0, 1, 2));
        StandAssigner b = Airports.of(0, 2);
        b.addStand(2, 3);
        b.addStand(1, 3);
        b.addStand(1, 3);
        e.is("those on stands remain", -1, b.place(0, 0, 0));
        e.is("one is placed", 1, b.assignAll());
        e.is("on the remote one still", 0, b.ofStay(0, 0, 2));
        e.is("the cheapest, of several the lowest", 1, b.ofStay(1, 0, 2));
        b.setOpen(1, false);
        b.lift(1, 0);
        b.assignAll();
        e.is("not the closed one", 2, b.ofStay(1, 0, 2));
        b.lift(1, 0);
        b.setOpen(2, false);
        b.setOpen(0, false);
        e.is("if there is one", 0, b.assignAll());
        e.is("there is none", -1, b.ofStay(1, 0, 2));
    }

    /** Which of two turns that are in conflict finds the only stand. */
    private static int winner(int begin, int otherBegin, int weight, int otherWeight) {
        StandAssigner a = Airports.of(1, 0);
        a.addTurn(1, begin, 200, weight);
        a.addTurn(1, otherBegin, 200, otherWeight);
        return a.assignAll() == 1 ? a.at(0, 100) / 2 : -1;
    }
}
