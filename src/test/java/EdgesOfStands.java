/** The sentences of promises 1 to 9 that name an edge. */
final class EdgesOfStands {
    private EdgesOfStands() {
    }

    static void run(Edges e) {
        e.ofPromise(1, "Creates an airport without stands and turns.", EdgesOfStands::creating);
        e.ofPromise(2, "Makes everything as in a new object, apart from the reason, the input, the error position and"
            + " what was saved.", EdgesOfStands::clearing);
        e.ofPromise(2, "Returns the number of turns that there were.", EdgesOfStands::clearedTurns);
        adding(e);
        pairing(e);
        opening(e);
        buffers(e);
        asking(e);
        minutes(e);
        gaps(e);
    }

    private static void adding(Edges e) {
        e.ofPromise(3, "Adds a stand.", EdgesOfStands::oneMore);
        e.ofPromise(3, "Returns the number of the stand.", EdgesOfStands::numberOfStand);
        e.ofPromise(3, "Throws `IllegalArgumentException` if a number is out of range", EdgesOfStands::wrongStand);
        e.ofPromise(3, "Throws `IllegalStateException` if there are 8 stands", EdgesOfStands::ninthStand);
    }

    private static void pairing(Edges e) {
        e.ofPromise(4, "Makes two stands a pair, sets its limit, or ends it.", EdgesOfStands::makingAPair);
        e.ofPromise(4, "- `limit`: the limit, or -1 to end it", EdgesOfStands::endingAPair);
        e.ofPromise(4, "Returns the previous limit, -1 if they were no pair.", EdgesOfStands::previousLimit);
        e.ofPromise(4, "Throws `IndexOutOfBoundsException` if one of the stands does not exist",
            EdgesOfStands::noStandOfAPair);
        e.ofPromise(4, "Throws `IllegalArgumentException` if both are the same, or the limit is out of range",
            EdgesOfStands::wrongPair);
    }

    private static void opening(Edges e) {
        e.ofPromise(5, "Opens or closes a stand.", EdgesOfStands::openAndClosed);
        e.ofPromise(5, "Stays remain where they are.", EdgesOfStands::staysOnClosed);
        e.ofPromise(5, "Returns whether it was open.", EdgesOfStands::wasOpen);
        e.ofPromise(5, "Throws `IndexOutOfBoundsException` if there is no such stand",
            f -> noStand(f, (a, stand) -> a.setOpen(stand, true)));
    }

    private static void buffers(Edges e) {
        e.ofPromise(6, "Sets the buffer.", EdgesOfStands::settingTheBuffer);
        e.ofPromise(6, "Returns the previous buffer.", EdgesOfStands::previousBuffer);
        e.ofPromise(6, "Throws `IllegalArgumentException` if the buffer is out of range",
            f -> f.range("buffer", 0, 60, Edges.ARGUMENT, Airports::busy, StandAssigner::setBuffer));
    }

    private static void asking(Edges e) {
        e.ofPromise(7, "- `what`: 0 for its kind, 1 for its size, 2 for 1 if it is open, otherwise 0, 3 for the stands"
            + " with which it is a pair, as a set, 4 for the number of stays on it, 5 for the sum of the lengths of"
            + " these stays, 6 for the stays on it that are hindered or in conflict, as a set of their numbers",
            EdgesOfStands::numbersOfAStand);
        e.ofPromise(7, "Throws `IndexOutOfBoundsException` if there is no such stand",
            f -> noStand(f, (a, stand) -> a.stand(stand, 6)));
        e.ofPromise(7, "Throws `IllegalArgumentException` if what is not 0 to 6",
            f -> f.range("what", 0, 6, Edges.ARGUMENT, Airports::busy, (a, what) -> a.stand(1, what)));
    }

    private static void minutes(Edges e) {
        e.ofPromise(8, "Returns the stay on a stand at a minute; of several the one with the lowest number.",
            EdgesOfStands::lowestStay);
        e.ofPromise(8, "- `minute`: the minute, 0 to 1440", EdgesOfStands::firstAndLastMinute);
        e.ofPromise(8, "Returns the number of the stay, which is there from its first minute up to the one before its"
            + " last.", EdgesOfStands::minutesOfAStay);
        e.ofPromise(8, "Throws `IndexOutOfBoundsException` if there is no such stand",
            f -> noStand(f, (a, stand) -> a.at(stand, 150)));
        e.ofPromise(8, "Throws `IllegalArgumentException` if the minute is out of range",
            f -> f.range("minute", 0, 1440, Edges.ARGUMENT, () -> crowdedStand(), EdgesOfStands::stayOrNone));
        e.ofPromise(8, "Throws `NoSuchElementException` if there is none", EdgesOfStands::noStay);
    }

    private static void gaps(Edges e) {
        e.ofPromise(9, "- `minute`: the minute, 0 to 1440", EdgesOfStands::gapsAtTheEnds);
        e.ofPromise(9, "Returns the number of minutes up to the beginning of the next stay on it, or up to minute 1440"
            + " if there is none; 0 if a stay is on it at this minute.", EdgesOfStands::gapsBetween);
        e.ofPromise(9, "Throws `IndexOutOfBoundsException` if there is no such stand",
            f -> noStand(f, (a, stand) -> a.gap(stand, 0)));
        e.ofPromise(9, "Throws `IllegalArgumentException` if the minute is out of range",
            f -> f.range("minute", 0, 1440, Edges.ARGUMENT, Airports::busy, (a, minute) -> a.gap(1, minute)));
    }

    // ---- what several sentences ask

    /** Three stands, on each of them a turn from minute 100 to 200. */
    static StandAssigner row() {
        StandAssigner a = Airports.of(3, 0);
        for (int stand = 0; stand < 3; stand++) {
            a.addTurn(1, 100, 200, 1);
            a.place(stand, 0, stand);
        }
        return a;
    }

    /** Stands are there from 0 up to their number less one, also if this is 0 or 8, was 8, or was more. */
    private static void noStand(Edges e, Edges.CallWith call) {
        e.range("stand", 0, 2, Edges.INDEX, EdgesOfStands::row, call);
        e.refused("stand 0 of none", Edges.INDEX, Airports::empty, a -> call.on(a, 0));
        e.refused("stand 8 of 8", Edges.INDEX, Airports::full, a -> call.on(a, 8));
        e.refused("stand 0 when cleared", Edges.INDEX, () -> Edges.called(Airports::full, StandAssigner::clear),
            a -> call.on(a, 0));
        e.refused("stand 1 when undone", Edges.INDEX, () -> Edges.called(() -> Airports.of(2, 0), StandAssigner::undo),
            a -> call.on(a, 1));
    }

    /** Two stays on stand 0 that are there at once, of which the lower number begins later. */
    private static StandAssigner crowdedStand() {
        StandAssigner a = Airports.of(2, 0);
        a.addTurn(1, 200, 300, 1);
        a.addTurn(1, 100, 160, 1);
        a.addTurn(1, 1000, 1440, 1);
        a.addTurn(1, 0, 30, 1);
        for (int turn = 0; turn < 4; turn++) {
            a.place(turn, 0, 0);
        }
        a.delay(1, 150);
        return a;
    }

    private static Object stayOrNone(StandAssigner airport, int minute) {
        String answer = Edges.outcome(airport, a -> a.at(0, minute));
        if (answer.equals(Edges.ARGUMENT.getName())) {
            throw new IllegalArgumentException();
        }
        return minute == 1440 ? answer.equals(Edges.NOTHING.getName()) : answer;
    }

    // ---- promises 1 to 3

    private static void creating(Edges e) {
        for (int account = 0; account <= 10; account++) {
            e.is("account " + account, 0, Airports.empty().account(account));
        }
        StandAssigner a = Airports.empty();
        e.throwing("stand 0", Edges.INDEX, a, b -> b.stand(0, 0));
        e.throwing("turn 0", Edges.INDEX, a, b -> b.turn(0, 0));
        e.throwing("a reason", Edges.NOTHING, a, StandAssigner::reason);
        e.throwing("an error position", Edges.NOTHING, a, StandAssigner::errorPosition);
        e.throwing("a change", Edges.NOTHING, a, StandAssigner::undo);
        e.throwing("what was saved", Edges.STATE, a, StandAssigner::restore);
        e.throwing("a mean", Edges.ARITHMETIC, a, StandAssigner::meanCost);
        e.is("the first character", 1, a.append(';'));
        e.is("the first stand", 0, a.addStand(0, 0));
        e.is("the first turn", 0, a.addTurn(0, 0, 30, 1));
        e.is("the buffer", 15, a.setBuffer(15));
        e.same("two objects share nothing", Airports::empty, () -> {
            Airports.busy();
            return Airports.empty();
        });
    }

    private static void clearing(Edges e) {
        Edges.Maker cleared = () -> Edges.called(Airports::busy, StandAssigner::clear);
        e.same("as in a new object", Airports::empty, cleared, "reason", "error position", "input", "saved");
        e.is("the reason stays", 3, cleared.make().reason());
        e.is("the error position stays", 2, cleared.make().errorPosition());
        e.is("the input stays", 5, cleared.make().append('.'));
        StandAssigner a = cleared.make();
        e.throwing("its characters stay", Edges.ARGUMENT, a, StandAssigner::read);
        e.is("they are a;l1", 4, a.errorPosition());
        e.same("what was saved stays", () -> Edges.called(Airports::busy, StandAssigner::restore),
            () -> Edges.called(cleared, StandAssigner::restore));
        e.same("of a full one", Airports::empty, () -> Edges.called(Airports::full, StandAssigner::clear));
        e.same("of a new one", Airports::empty, () -> Edges.called(Airports::empty, StandAssigner::clear));
        e.same("what comes then", () -> fill(Airports.empty()),
            () -> fill(Edges.called(Airports::full, StandAssigner::clear)));
    }

    private static StandAssigner fill(StandAssigner a) {
        for (int stand = 0; stand < 8; stand++) {
            a.addStand(0, 3);
        }
        for (int turn = 0; turn < 10; turn++) {
            a.addTurn(1, 0, 60, 1);
        }
        return a;
    }

    private static void clearedTurns(Edges e) {
        e.is("none", 0, Airports.empty().clear());
        e.is("stands alone", 0, Airports.of(8, 0).clear());
        e.is("ten", 10, Airports.full().clear());
        e.is("three", 3, Airports.busy().clear());
        e.is("none are left", 0, Edges.called(Airports::full, StandAssigner::clear).clear());
    }

    private static void oneMore(Edges e) {
        StandAssigner a = Airports.of(7, 0);
        e.is("seven", 7, a.account(0));
        a.addStand(2, 1);
        e.is("eight", 8, a.account(0));
        e.is("its kind", 2, a.stand(7, 0));
        e.is("its size", 1, a.stand(7, 1));
        e.is("it is open", 1, a.stand(7, 2));
        e.is("in no pair", 0, a.stand(7, 3));
        e.is("no stay", 0, a.stand(7, 4));
        StandAssigner grown = Airports.of(3, 0);
        grown.pair(0, 1, 1);
        grown.pair(0, 2, 2);
        grown.pair(1, 2, 3);
        for (int stand = 3; stand < 8; stand++) {
            grown.addStand(0, 3);
            e.is("in no pair with those before", 0, grown.stand(stand, 3));
        }
        e.is("the pairs of those before remain", 2 | 4, grown.stand(0, 3));
        e.is("also of the second", 1 | 4, grown.stand(1, 3));
        e.is("also of the third", 1 | 2, grown.stand(2, 3));
        e.is("with their limits", 1 + 2 + 3, grown.pair(1, 0, 0) + grown.pair(2, 0, 0) + grown.pair(2, 1, 0));
        StandAssigner b = Airports.of(8, 0);
        b.pair(7, 0, 3);
        b.setOpen(7, false);
        b.undo();
        b.undo();
        b.undo();
        e.is("where one was undone", 7, b.addStand(1, 2));
        e.is("open again", 1, b.stand(7, 2));
        e.is("in no pair again", 0, b.stand(7, 3));
    }

    private static void numberOfStand(Edges e) {
        e.is("the first", 0, Airports.empty().addStand(2, 3));
        e.is("the last", 7, Airports.of(7, 0).addStand(2, 3));
        e.is("the first when cleared", 0, Edges.called(Airports::full, StandAssigner::clear).addStand(2, 3));
    }

    private static void wrongStand(Edges e) {
        e.range("kind", 0, 2, Edges.ARGUMENT, Airports::busy, (a, kind) -> a.addStand(kind, 3));
        e.range("size", 0, 3, Edges.ARGUMENT, Airports::busy, (a, size) -> a.addStand(2, size));
        e.refused("a wrong ninth", Edges.ARGUMENT, Airports::full, a -> a.addStand(3, 0));
        e.refused("a ninth of a wrong size", Edges.ARGUMENT, Airports::full, a -> a.addStand(0, 4));
    }

    private static void ninthStand(Edges e) {
        e.is("there are 7", 7, Airports.of(7, 0).addStand(0, 0));
        e.refused("there are 8", Edges.STATE, Airports::full, a -> a.addStand(0, 0));
        e.is("one was undone", 7, Edges.called(() -> Airports.of(8, 0), StandAssigner::undo).addStand(0, 0));
    }

    // ---- promises 4 to 6

    private static void makingAPair(Edges e) {
        StandAssigner a = Airports.of(8, 0);
        a.pair(0, 7, 3);
        e.is("a pair", 128, a.stand(0, 3));
        e.is("from the other side", 1, a.stand(7, 3));
        a.addTurn(2, 0, 60, 1);
        a.addTurn(2, 0, 60, 1);
        a.place(0, 0, 0);
        e.is("its limit", 5, a.whyNot(1, 0, 7));
        a.pair(7, 0, 4);
        e.is("another limit, from the other side", 0, a.whyNot(1, 0, 7));
        e.is("a pair still", 128, a.stand(0, 3));
        a.pair(7, 0, 3);
        a.pair(7, 0, -1);
        e.is("ended", 0, a.stand(0, 3));
        e.is("on both sides", 0, a.stand(7, 3));
        e.is("without a limit", 0, a.whyNot(1, 0, 7));
        for (int other = 1; other < 8; other++) {
            a.pair(0, other, other - 1);
        }
        e.is("a pair with all others", 254, a.stand(0, 3));
        e.is("the others only with it", 1, a.stand(5, 3));
    }

    private static void endingAPair(Edges e) {
        e.range("limit", -1, 6, Edges.ARGUMENT, Airports::busy, (a, limit) -> a.pair(0, 1, limit));
        StandAssigner a = Airports.of(2, 0);
        a.pair(0, 1, 0);
        e.is("0 does not end it", 2, a.stand(0, 3));
        a.pair(0, 1, -1);
        e.is("-1 ends it", 0, a.stand(0, 3));
        a.pair(0, 1, -1);
        e.is("-1 ends what is none", 0, a.stand(0, 3));
    }

    private static void previousLimit(Edges e) {
        StandAssigner a = Airports.of(3, 0);
        e.is("no pair before", -1, a.pair(0, 1, 0));
        e.is("limit 0 before", 0, a.pair(0, 1, 6));
        e.is("limit 6 before", 6, a.pair(1, 0, 6));
        e.is("another pair", -1, a.pair(0, 2, 1));
        e.is("ended from 6", 6, a.pair(1, 0, -1));
        e.is("no pair again", -1, a.pair(0, 1, -1));
        e.is("and then", -1, a.pair(0, 1, 2));
    }

    private static void noStandOfAPair(Edges e) {
        e.range("the one stand", 0, 1, Edges.INDEX, () -> Airports.of(2, 0),
            (a, stand) -> a.pair(stand, stand == 0 ? 1 : 0, 3));
        e.range("the other stand", 0, 1, Edges.INDEX, () -> Airports.of(2, 0),
            (a, stand) -> a.pair(stand == 0 ? 1 : 0, stand, 3));
        e.refused("the ninth of eight", Edges.INDEX, Airports::full, a -> a.pair(0, 8, 3));
        e.refused("neither is there", Edges.INDEX, Airports::empty, a -> a.pair(0, 1, 3));
        e.refused("both are the same, and not there", Edges.INDEX, Airports::busy, a -> a.pair(3, 3, 3));
        e.refused("not there, and a wrong limit", Edges.INDEX, Airports::busy, a -> a.pair(0, 3, 7));
    }

    private static void wrongPair(Edges e) {
        e.range("limit", -1, 6, Edges.ARGUMENT, Airports::busy, (a, limit) -> a.pair(1, 2, limit));
        for (int stand = 0; stand < 8; stand += 7) {
            int same = stand;
            e.refused("the same, stand " + stand, Edges.ARGUMENT, Airports::full, a -> a.pair(same, same, 3));
            e.refused("ending the same, stand " + stand, Edges.ARGUMENT, Airports::full, a -> a.pair(same, same, -1));
        }
    }

    private static void openAndClosed(Edges e) {
        StandAssigner a = Airports.of(8, 0);
        for (int stand = 0; stand < 8; stand += 7) {
            a.setOpen(stand, false);
            e.is("closed", 0, a.stand(stand, 2));
            a.setOpen(stand, false);
            e.is("closed twice", 0, a.stand(stand, 2));
            e.is("the one beside it is open", 1, a.stand(stand == 0 ? 1 : 6, 2));
            a.setOpen(stand, true);
            e.is("opened", 1, a.stand(stand, 2));
            a.setOpen(stand, true);
            e.is("opened twice", 1, a.stand(stand, 2));
        }
    }

    private static void staysOnClosed(Edges e) {
        StandAssigner a = Airports.one();
        a.setOpen(0, false);
        e.is("on the closed one", 0, a.ofStay(0, 0, 2));
        e.is("there", 0, a.at(0, 100));
        a.setOpen(0, true);
        e.is("on the opened one", 0, a.ofStay(0, 0, 2));
        e.is("none comes by opening", 1, a.account(3));
    }

    private static void wasOpen(Edges e) {
        StandAssigner a = Airports.of(8, 0);
        for (int stand = 0; stand < 8; stand += 7) {
            e.is("open at first", true, a.setOpen(stand, true));
            e.is("open when closed", true, a.setOpen(stand, false));
            e.is("closed when closed", false, a.setOpen(stand, false));
            e.is("closed when opened", false, a.setOpen(stand, true));
        }
    }

    private static void settingTheBuffer(Edges e) {
        StandAssigner a = Airports.of(1, 0);
        a.addTurn(1, 0, 60, 1);
        a.addTurn(1, 90, 150, 1);
        a.place(0, 0, 0);
        a.setBuffer(30);
        e.is("just so long", 0, a.whyNot(1, 0, 0));
        a.setBuffer(31);
        e.is("one minute more", 4, a.whyNot(1, 0, 0));
        a.setBuffer(0);
        a.place(1, 0, 0);
        a.setBuffer(31);
        e.is("stays in conflict remain", 2, a.stand(0, 4));
        e.is("in conflict", 1, a.conflicts());
    }

    private static void previousBuffer(Edges e) {
        StandAssigner a = Airports.empty();
        e.is("the first", 15, a.setBuffer(0));
        e.is("the least", 0, a.setBuffer(60));
        e.is("the greatest", 60, a.setBuffer(60));
        e.throwing("a refused one", Edges.ARGUMENT, a, b -> b.setBuffer(61));
        e.is("is not the previous", 60, a.setBuffer(15));
    }

    // ---- promises 7 to 9

    private static void numbersOfAStand(Edges e) {
        StandAssigner bare = Airports.of(0, 0);
        bare.addStand(2, 0);
        int[] ofBare = {2, 0, 1, 0, 0, 0, 0};
        for (int what = 0; what <= 6; what++) {
            e.is("a bare stand, " + what, ofBare[what], bare.stand(0, what));
        }
        StandAssigner a = Airports.full();
        a.pair(7, 0, 6);
        a.pair(7, 1, 6);
        int[] ofLast = {1, 3, 1, 3, 2, 30 + 40, 0};
        for (int what = 0; what <= 6; what++) {
            e.is("the last stand, " + what, ofLast[what], a.stand(7, what));
        }
        int ofSecond = 1 << 18 | 1 << 1 | 1 << 17 | 1 << 2;
        e.is("four stays", 4, a.stand(1, 4));
        e.is("their lengths", 40 + 30 + 40 + 30, a.stand(1, 5));
        e.is("none of them hindered", 0, a.stand(1, 6));
        a.setOpen(1, false);
        e.is("closed", 0, a.stand(1, 2));
        e.is("all of them hindered", ofSecond, a.stand(1, 6));
        a.setOpen(1, true);
        a.setBuffer(21);
        e.is("those in conflict", ofSecond, a.stand(1, 6));
        a.setBuffer(20);
        e.is("none by one minute less", 0, a.stand(1, 6));
        a.lift(9, 1);
        a.place(9, 1, 3);
        a.setOpen(3, false);
        e.is("the last of the stays", 1 << 19 | 1 << 5 | 1 << 6, a.stand(3, 6));
        StandAssigner whole = Airports.of(1, 0);
        whole.addTurn(0, 0, 1440, 1);
        whole.place(0, 0, 0);
        e.is("the longest stay", 1440, whole.stand(0, 5));
    }

    private static void lowestStay(Edges e) {
        StandAssigner a = crowdedStand();
        e.is("the one alone", 0, a.at(0, 249));
        e.is("both are there, the lower number", 0, a.at(0, 250));
        e.is("as long as it is there", 0, a.at(0, 279));
        a.lift(0, 0);
        e.is("then the higher one", 2, a.at(0, 250));
        e.throwing("not before it", Edges.NOTHING, a, b -> b.at(0, 249));
        e.throwing("nor on the other stand", Edges.NOTHING, a, b -> b.at(1, 250));
    }

    private static void firstAndLastMinute(Edges e) {
        StandAssigner a = crowdedStand();
        e.is("minute 0", 6, a.at(0, 0));
        e.is("minute 1439", 4, a.at(0, 1439));
        e.throwing("minute 1440", Edges.NOTHING, a, b -> b.at(0, 1440));
        e.throwing("minute -1", Edges.ARGUMENT, a, b -> b.at(0, -1));
        e.throwing("minute 1441", Edges.ARGUMENT, a, b -> b.at(0, 1441));
    }

    private static void minutesOfAStay(Edges e) {
        StandAssigner a = Airports.one();
        e.throwing("one before its first", Edges.NOTHING, a, b -> b.at(0, 99));
        e.is("its first", 0, a.at(0, 100));
        e.is("the one before its last", 0, a.at(0, 199));
        e.throwing("its last", Edges.NOTHING, a, b -> b.at(0, 200));
        StandAssigner last = Airports.full();
        e.is("the number of the last stay", 19, last.at(2, 979));
        e.throwing("its last minute", Edges.NOTHING, last, b -> b.at(2, 980));
    }

    private static void noStay(Edges e) {
        e.refused("an empty stand", Edges.NOTHING, () -> Airports.of(1, 10), a -> a.at(0, 0));
        e.refused("before", Edges.NOTHING, Airports::one, a -> a.at(0, 99));
        e.refused("behind", Edges.NOTHING, Airports::one, a -> a.at(0, 200));
        e.refused("where one was lifted", Edges.NOTHING, () -> Edges.called(Airports::one, a -> a.lift(0, 0)),
            a -> a.at(0, 150));
        e.refused("during a tow", Edges.NOTHING, Airports::towed, a -> a.at(0, 150));
    }

    private static void gapsAtTheEnds(Edges e) {
        StandAssigner a = Airports.of(1, 0);
        e.is("from 0", 1440, a.gap(0, 0));
        e.is("from 1439", 1, a.gap(0, 1439));
        e.is("from 1440", 0, a.gap(0, 1440));
        e.refused("from -1", Edges.ARGUMENT, Airports::busy, b -> b.gap(0, -1));
        e.refused("from 1441", Edges.ARGUMENT, Airports::busy, b -> b.gap(0, 1441));
    }

    private static void gapsBetween(Edges e) {
        StandAssigner a = Airports.of(2, 0);
        a.addTurn(1, 300, 400, 1);
        a.addTurn(1, 100, 200, 1);
        a.addTurn(1, 1400, 1440, 1);
        a.place(0, 0, 0);
        a.place(1, 0, 0);
        a.place(2, 0, 0);
        e.is("up to the next", 100, a.gap(0, 0));
        e.is("one minute before", 1, a.gap(0, 99));
        e.is("its first minute", 0, a.gap(0, 100));
        e.is("the first minute of stay 0", 0, a.gap(0, 300));
        e.is("the one before the last of stay 0", 0, a.gap(0, 399));
        e.is("the one before its last", 0, a.gap(0, 199));
        e.is("its last, up to the one behind", 100, a.gap(0, 200));
        e.is("between", 1, a.gap(0, 299));
        e.is("up to the last stay", 1000, a.gap(0, 400));
        e.is("during the last stay", 0, a.gap(0, 1439));
        e.is("at 1440, where none is there", 0, a.gap(0, 1440));
        e.is("the other stand", 1340, a.gap(1, 100));
        a.lift(2, 0);
        e.is("up to 1440", 1040, a.gap(0, 400));
        e.is("where none is next", 1, a.gap(0, 1439));
    }
}
