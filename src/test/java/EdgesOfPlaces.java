/** The sentences of promises 13 to 18 that name an edge. */
final class EdgesOfPlaces {
    private EdgesOfPlaces() {
    }

    static void run(Edges e) {
        placing(e);
        asking(e);
        lifting(e);
    }

    private static void placing(Edges e) {
        e.ofPromise(13, "Places a stay on a stand, possibly from another one.", EdgesOfPlaces::fromAnother);
        e.ofPromise(13, "- `stay`: the stay, 0 or 1",
            f -> EdgesOfTurns.noStay(f, (a, turn, stay) -> a.place(turn, stay, 2)));
        e.ofPromise(13, "Returns the previous stand, or -1.", EdgesOfPlaces::previousStand);
        e.ofPromise(13, "Throws `IndexOutOfBoundsException` if there is no such turn, stay or stand",
            f -> nothingToPlace(f, StandAssigner::place));
        e.ofPromise(13, "Throws `UnsupportedOperationException` if it is refused; the reason is then kept",
            EdgesOfPlaces::refusedPlaces);
        e.ofPromise(14, "- `stay`: the stay, 0 or 1",
            f -> EdgesOfTurns.noStay(f, (a, turn, stay) -> a.whyNot(turn, stay, 2)));
        e.ofPromise(14, "Returns the reason, 1 to 5, or 0 if it could be placed there.", EdgesOfPlaces::allReasons);
        e.ofPromise(14, "Throws `IndexOutOfBoundsException` if there is no such turn, stay or stand",
            f -> nothingToPlace(f, StandAssigner::whyNot));
    }

    private static void asking(Edges e) {
        e.ofPromise(15, "Returns the stands on which a stay could be placed.", EdgesOfPlaces::allOptions);
        e.ofPromise(15, "- `stay`: the stay, 0 or 1", f -> EdgesOfTurns.noStay(f, StandAssigner::options));
        e.ofPromise(15, "Throws `IndexOutOfBoundsException` if there is no such turn or stay",
            f -> EdgesOfTurns.noTurnOrStay(f, StandAssigner::options));
        e.ofPromise(16, "Returns the cheapest stand on which a stay could be placed, of several the one with the lowest"
            + " number.", EdgesOfPlaces::cheapestStand);
        e.ofPromise(16, "- `stay`: the stay, 0 or 1", f -> EdgesOfTurns.noStay(f, StandAssigner::cheapest));
        e.ofPromise(16, "Throws `IndexOutOfBoundsException` if there is no such turn or stay",
            f -> EdgesOfTurns.noTurnOrStay(f, StandAssigner::cheapest));
        e.ofPromise(16, "Throws `NoSuchElementException` if there is none", EdgesOfPlaces::noCheapest);
    }

    private static void lifting(Edges e) {
        e.ofPromise(17, "Lifts a stay: it is on no stand then.", EdgesOfPlaces::onNoStandThen);
        e.ofPromise(17, "- `stay`: the stay, 0 or 1", f -> EdgesOfTurns.noStay(f, StandAssigner::lift));
        e.ofPromise(17, "Returns the stand on which it was.", EdgesOfPlaces::liftedFrom);
        e.ofPromise(17, "Throws `IndexOutOfBoundsException` if there is no such turn or stay",
            f -> EdgesOfTurns.noTurnOrStay(f, StandAssigner::lift));
        e.ofPromise(17, "Throws `IllegalStateException` if it is on no stand", EdgesOfPlaces::nothingToLift);
        e.ofPromise(18, "Returns the reason that was kept last.", EdgesOfPlaces::lastReason);
        e.ofPromise(18, "Returns the reason, 1 to 5.", EdgesOfPlaces::firstAndLastReason);
        e.ofPromise(18, "Throws `NoSuchElementException` if none was kept", EdgesOfPlaces::noReason);
    }

    private interface CallOfPlace {
        Object on(StandAssigner airport, int turn, int stay, int stand);
    }

    private static void nothingToPlace(Edges e, CallOfPlace call) {
        EdgesOfTurns.noTurnOrStay(e, (a, turn, stay) -> call.on(a, turn, stay, a.account(0) - 1));
        e.range("stand", 1, 2, Edges.INDEX, EdgesOfPlaces::closedFirst,
            (a, stand) -> call.on(a, 0, 0, stand == 0 ? 3 : stand));
        e.refused("stand 8 of 8", Edges.INDEX, Airports::full, a -> call.on(a, 0, 0, 8));
        e.refused("stand 0 of none", Edges.INDEX, () -> Airports.of(0, 1), a -> call.on(a, 0, 0, 0));
        e.refused("no turn, and a closed stand", Edges.INDEX, EdgesOfPlaces::closedFirst, a -> call.on(a, 1, 0, 0));
        e.refused("no stay, and a closed stand", Edges.INDEX, EdgesOfPlaces::closedFirst, a -> call.on(a, 0, 1, 0));
        e.refused("nothing of it", Edges.INDEX, Airports::empty, a -> call.on(a, -1, -1, -1));
    }

    /** Three stands, of which stand 0 is closed, and a turn. */
    private static StandAssigner closedFirst() {
        StandAssigner a = Airports.of(3, 1);
        a.setOpen(0, false);
        return a;
    }

    // ---- promises 13 and 14

    private static void fromAnother(Edges e) {
        StandAssigner a = Airports.of(8, 1);
        a.place(0, 0, 7);
        e.is("on the highest", 7, a.ofStay(0, 0, 2));
        e.is("it is there", 1, a.stand(7, 4));
        a.place(0, 0, 0);
        e.is("on the lowest", 0, a.ofStay(0, 0, 2));
        e.is("not where it was", 0, a.stand(7, 4));
        StandAssigner last = Airports.full();
        last.place(9, 1, 7);
        e.is("the last stay", 19, last.at(7, 950));
        e.throwing("not where it was", Edges.NOTHING, last, b -> b.at(2, 950));
    }

    private static void previousStand(Edges e) {
        StandAssigner a = Airports.of(8, 1);
        e.is("from none", -1, a.place(0, 0, 0));
        e.is("from the lowest", 0, a.place(0, 0, 7));
        e.is("from the highest", 7, a.place(0, 0, 0));
        a.lift(0, 0);
        e.is("from none again", -1, a.place(0, 0, 7));
    }

    private static void refusedPlaces(Edges e) {
        e.refused("already there", Edges.REFUSED, Airports::one, a -> a.place(0, 0, 0), "reason");
        e.is("its reason", 1, Edges.called(Airports::one, a -> a.place(0, 0, 0)).reason());
        e.refused("a closed one", Edges.REFUSED, EdgesOfPlaces::closedFirst, a -> a.place(0, 0, 0), "reason");
        e.is("its reason", 2, Edges.called(EdgesOfPlaces::closedFirst, a -> a.place(0, 0, 0)).reason());
        e.refused("another reason was kept", Edges.REFUSED, Airports::busy, a -> a.place(2, 0, 0), "reason");
        e.is("the new one is kept", 2, Edges.called(Airports::busy, a -> a.place(2, 0, 0)).reason());
        e.refused("the same reason again", Edges.REFUSED, Airports::busy, a -> a.place(2, 0, 1));
        StandAssigner a = closedFirst();
        e.is("one that is not refused", -1, a.place(0, 0, 1));
        e.throwing("keeps none", Edges.NOTHING, a, StandAssigner::reason);
    }

    /** One airport with a stand for each reason: of turn 1 from 100 to 200, size 2, that is on stand 0. */
    private static StandAssigner everyReason() {
        StandAssigner a = Airports.of(3, 0);
        a.addStand(0, 1);
        a.addStand(0, 2);
        a.addStand(0, 3);
        a.addTurn(2, 50, 150, 1);
        a.addTurn(2, 100, 200, 1);
        a.place(0, 0, 2);
        a.place(1, 0, 0);
        a.setOpen(1, false);
        a.pair(2, 4, 3);
        a.pair(2, 5, 4);
        return a;
    }

    private static void allReasons(Edges e) {
        StandAssigner a = everyReason();
        int[] want = {1, 2, 4, 3, 5, 0};
        for (int stand = 0; stand < 6; stand++) {
            e.is("stand " + stand, want[stand], a.whyNot(1, 0, stand));
            int asked = stand;
            e.onlyAsks("asking for stand " + stand, EdgesOfPlaces::everyReason, b -> b.whyNot(1, 0, asked));
            String placed = want[stand] == 0 ? "0" : Edges.REFUSED.getName();
            e.is("as place does", placed, Edges.outcome(everyReason(), b -> b.place(1, 0, asked)));
        }
        e.throwing("none was kept", Edges.NOTHING, a, StandAssigner::reason);
    }

    // ---- promises 15 and 16

    private static void allOptions(Edges e) {
        e.is("of no stands", 0, Airports.of(0, 1).options(0, 0));
        e.is("all", 255, Airports.of(8, 1).options(0, 0));
        e.is("all but its own", 127, Edges.called(() -> Airports.of(8, 1), a -> a.place(0, 0, 7)).options(0, 0));
        e.is("only where none is in its way", 1 << 5, everyReason().options(1, 0));
        e.is("all are closed", 0, Edges.called(() -> Airports.of(1, 1), a -> a.setOpen(0, false)).options(0, 0));
        e.is("of the last stay", 1 << 3 | 1 << 4 | 1 << 5 | 1 << 6 | 1 << 7 | 1, Airports.full().options(9, 1));
    }

    private static void cheapestStand(Edges e) {
        StandAssigner a = Airports.of(0, 1);
        for (int stand = 0; stand < 8; stand++) {
            a.addStand(stand < 2 ? 2 : stand < 5 ? 1 : 0, stand == 5 ? 0 : 3);
        }
        e.is("the lowest gate that is large enough", 6, a.cheapest(0, 0));
        a.place(0, 0, 6);
        e.is("not its own", 7, a.cheapest(0, 0));
        a.setOpen(7, false);
        e.is("the lowest apron", 2, a.cheapest(0, 0));
        a.setOpen(2, false);
        a.setOpen(3, false);
        e.is("the last apron", 4, a.cheapest(0, 0));
        a.setOpen(4, false);
        e.is("the lowest remote one", 0, a.cheapest(0, 0));
        a.setOpen(0, false);
        e.is("the last of all", 1, a.cheapest(0, 0));
        StandAssigner full = Airports.full();
        e.is("of the last stay", 0, full.cheapest(9, 1));
        full.setOpen(0, false);
        e.is("of the last stay on another gate", 3, full.cheapest(9, 1));
        e.is("of stay 1 of a turn, which is on that gate", 6, full.cheapest(2, 1));
        StandAssigner light = Airports.of(0, 0);
        light.addStand(2, 3);
        light.addStand(1, 3);
        light.addTurn(0, 0, 30, 1);
        e.is("of the least weight", 1, light.cheapest(0, 0));
    }

    private static void noCheapest(Edges e) {
        e.refused("no stands", Edges.NOTHING, () -> Airports.of(0, 1), a -> a.cheapest(0, 0));
        e.refused("only its own", Edges.NOTHING, Airports::one, a -> a.cheapest(0, 0));
        e.refused("all are closed", Edges.NOTHING, () -> Edges.called(() -> Airports.of(1, 1),
            a -> a.setOpen(0, false)), a -> a.cheapest(0, 0));
        e.refused("all are taken or too small", Edges.NOTHING, Airports::busy, a -> a.cheapest(2, 0));
        e.refused("stay 1, where stay 0 is too near", Edges.NOTHING, Airports::towed, a -> a.cheapest(0, 1));
        e.is("one is left", 7, Edges.called(() -> Airports.of(8, 1), a -> {
            for (int stand = 0; stand < 7; stand++) {
                a.setOpen(stand, false);
            }
            return 0;
        }).cheapest(0, 0));
    }

    // ---- promises 17 and 18

    private static void onNoStandThen(Edges e) {
        StandAssigner a = EdgesOfTurns.twoAndOne();
        a.lift(0, 1);
        e.is("stay 1", -1, a.ofStay(0, 1, 2));
        e.is("stay 0 remains", 0, a.ofStay(0, 0, 2));
        e.is("the other on its stand remains", 1, a.ofStay(1, 0, 2));
        e.is("one is there", 1, a.stand(1, 4));
        StandAssigner closed = Edges.called(Airports::one, b -> b.setOpen(0, false));
        e.is("from a closed one", 0, closed.lift(0, 0));
        e.is("on none then", -1, closed.ofStay(0, 0, 2));
        e.is("the last stay", 2, Airports.full().lift(9, 1));
    }

    private static void liftedFrom(Edges e) {
        e.is("the lowest", 0, Airports.one().lift(0, 0));
        e.is("the highest", 7, Airports.full().lift(7, 0));
    }

    private static void nothingToLift(Edges e) {
        e.refused("never placed", Edges.STATE, () -> Airports.of(1, 1), a -> a.lift(0, 0));
        e.refused("lifted already", Edges.STATE, () -> Edges.called(Airports::one, a -> a.lift(0, 0)),
            a -> a.lift(0, 0));
        e.refused("stay 1 behind a tow", Edges.STATE, Airports::towed, a -> a.lift(0, 1));
        e.refused("undone", Edges.STATE, () -> Edges.called(Airports::one, StandAssigner::undo), a -> a.lift(0, 0));
        e.is("stay 0 beside it", 0, Airports.towed().lift(0, 0));
    }

    private static void lastReason(Edges e) {
        StandAssigner a = everyReason();
        int[] want = {1, 2, 4, 3, 5};
        for (int stand = 0; stand < 5; stand++) {
            int asked = stand;
            Edges.outcome(a, b -> b.place(1, 0, asked));
            e.is("of stand " + stand, want[stand], a.reason());
        }
        a.whyNot(1, 0, 1);
        e.is("asking keeps none", 5, a.reason());
        e.is("placing", 0, a.place(1, 0, 5));
        e.is("keeps none", 5, a.reason());
        Edges.outcome(a, b -> b.place(1, 0, 6));
        e.is("no such stand keeps none", 5, a.reason());
        a.undo();
        e.is("undoing", 5, a.reason());
        a.save();
        a.restore();
        e.is("restoring", 5, a.reason());
        a.clear();
        e.is("clearing", 5, a.reason());
        e.is("asked twice", 5, a.reason());
    }

    private static void firstAndLastReason(Edges e) {
        e.is("the first", 1, Edges.called(EdgesOfPlaces::everyReason, a -> a.place(1, 0, 0)).reason());
        e.is("the last", 5, Edges.called(EdgesOfPlaces::everyReason, a -> a.place(1, 0, 4)).reason());
    }

    private static void noReason(Edges e) {
        e.refused("a new one", Edges.NOTHING, Airports::empty, StandAssigner::reason);
        e.refused("one without refusals", Edges.NOTHING, Airports::full, StandAssigner::reason);
        e.refused("no such stand", Edges.NOTHING, () -> Edges.called(Airports::one, a -> a.place(0, 0, 1)),
            StandAssigner::reason);
        e.refused("asked alone", Edges.NOTHING, () -> Edges.called(Airports::one, a -> a.whyNot(0, 0, 0)),
            StandAssigner::reason);
        e.refused("a lift that fails", Edges.NOTHING, () -> Edges.called(Airports::towed, a -> a.lift(0, 1)),
            StandAssigner::reason);
        e.refused("assigning without room", Edges.NOTHING, () -> Edges.called(Airports::towed,
            StandAssigner::assignAll), StandAssigner::reason);
        e.is("one was kept", 1, Edges.called(Airports::one, a -> a.place(0, 0, 0)).reason());
    }
}
