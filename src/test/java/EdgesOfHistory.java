import java.util.LinkedHashMap;
import java.util.Map;

/** The sentences of promises 36 to 38, and those of "Terms" on history and exceptions, that name an edge. */
final class EdgesOfHistory {
    private EdgesOfHistory() {
    }

    static void run(Edges e) {
        history(e);
        exceptions(e);
        undoing(e);
        saving(e);
    }

    private static void history(Edges e) {
        e.ofTerms("A change is a call of addStand, pair, setOpen, setBuffer, addTurn, place, lift, tow, untow, delay,"
            + " assignAll, repair or read that returns without an exception, also if nothing is different then.",
            EdgesOfHistory::whatIsAChange);
        e.ofTerms("The object remembers everything except the reason, the input, the error position and what was saved,"
            + " as it is just before a change, for at most 6 changes, of which the oldest one is forgotten for good"
            + " when there would be more.", EdgesOfHistory::sixChanges);
        e.ofTerms("clear and restore forget all of them.", EdgesOfHistory::forgettingAll);
    }

    private static void exceptions(Edges e) {
        e.ofTerms("A method that throws an exception leaves the state unchanged, unless its documentation says"
            + " otherwise.", EdgesOfHistory::nothingIsChanged);
        e.ofTerms("If several exceptions apply, the one that is documented first is thrown.",
            EdgesOfHistory::firstDocumented);
        e.ofTerms("Sets are bit masks, bit k for number k.", EdgesOfHistory::bitsOfSets);
        e.ofTerms("Methods whose documentation does not mention a change only answer a question.",
            EdgesOfHistory::onlyQuestions);
    }

    private static void undoing(Edges e) {
        e.ofPromise(36, "Undoes the latest change that is remembered.", EdgesOfHistory::latestFirst);
        e.ofPromise(36, "Returns the number of changes that are still remembered.", EdgesOfHistory::stillRemembered);
        e.ofPromise(36, "Throws `NoSuchElementException` if no change is remembered", EdgesOfHistory::nothingToUndo);
    }

    private static void saving(Edges e) {
        e.ofPromise(37, "Saves all that the history remembers for a change.", EdgesOfHistory::allIsSaved);
        e.ofPromise(37, "What was saved before is replaced.", EdgesOfHistory::replaced);
        e.ofPromise(37, "Returns the number of turns.", EdgesOfHistory::savedTurns);
        e.ofPromise(38, "Restores what was saved.", EdgesOfHistory::restored);
        e.ofPromise(38, "It stays saved.", EdgesOfHistory::staysSaved);
        e.ofPromise(38, "Returns the number of turns.", EdgesOfHistory::restoredTurns);
        e.ofPromise(38, "Throws `IllegalStateException` if nothing was saved", EdgesOfHistory::nothingSaved);
    }

    /** The busy one, with its reason, its input and what was saved, that remembers no change. */
    private static StandAssigner quiet() {
        StandAssigner a = Airports.busy();
        a.save();
        a.restore();
        return a;
    }

    /** For each change its call on the busy airport. */
    private static Map<String, Edges.Call> changes() {
        Map<String, Edges.Call> changes = new LinkedHashMap<>();
        changes.put("addStand", a -> a.addStand(1, 2));
        changes.put("pair", a -> a.pair(0, 1, 5));
        changes.put("setOpen", a -> a.setOpen(0, true));
        changes.put("setBuffer", a -> a.setBuffer(60));
        changes.put("addTurn", a -> a.addTurn(3, 0, 30, 9));
        changes.put("lift", a -> a.lift(1, 1));
        changes.put("tow", a -> a.tow(2, 440));
        changes.put("untow", a -> a.untow(1));
        changes.put("delay", a -> a.delay(1, 300));
        return changes;
    }

    /** Changes by which nothing is different on the busy airport. */
    private static Map<String, Edges.Call> changesOfNothing() {
        Map<String, Edges.Call> changes = new LinkedHashMap<>();
        changes.put("pair", a -> a.pair(0, 1, -1));
        changes.put("pair with its limit", a -> a.pair(2, 1, 2));
        changes.put("setOpen of an open one", a -> a.setOpen(1, true));
        changes.put("setOpen of a closed one", a -> a.setOpen(0, false));
        changes.put("setBuffer", a -> a.setBuffer(25));
        changes.put("assignAll", StandAssigner::assignAll);
        return changes;
    }

    // ---- history

    private static void whatIsAChange(Edges e) {
        Map<String, Edges.Call> calls = changes();
        calls.putAll(changesOfNothing());
        for (Map.Entry<String, Edges.Call> change : calls.entrySet()) {
            isAChange(e, change.getKey(), EdgesOfHistory::quiet, change.getValue());
            e.is("one of six: " + change.getKey(), 5, Edges.called(Airports::busy, change.getValue()).undo());
        }
        isAChange(e, "place", () -> forgotten(Airports.of(2, 1)), a -> a.place(0, 0, 1));
        isAChange(e, "place from another", () -> forgotten(EdgesOfTurns.twoAndOne()), a -> a.place(1, 0, 2));
        isAChange(e, "lift", () -> forgotten(Airports.one()), a -> a.lift(0, 0));
        isAChange(e, "assignAll of some", () -> forgotten(Airports.of(1, 10)), StandAssigner::assignAll);
        isAChange(e, "repair of nothing", () -> forgotten(Airports.full()), StandAssigner::repair);
        isAChange(e, "repair", () -> forgotten(EdgesOfRepairs.closedUnder(3)), StandAssigner::repair);
        isAChange(e, "read of nothing", () -> typed("a;"), StandAssigner::read, "input");
        isAChange(e, "read", () -> typed("l0.0;t0@150;"), StandAssigner::read, "input");
        for (Edges.Call refused : new Edges.Call[] {a -> a.addStand(3, 0), a -> a.pair(0, 0, 0),
            a -> a.setOpen(3, true), a -> a.setBuffer(61), a -> a.addTurn(0, 0, 29, 1), a -> a.place(2, 0, 0),
            a -> a.lift(2, 0), a -> a.tow(1, 300), a -> a.untow(0), a -> a.delay(0, 0), StandAssigner::repair,
            StandAssigner::read}) {
            StandAssigner a = quiet();
            e.is("refused", true, Edges.outcome(a, refused).endsWith("Exception"));
            e.throwing("a refused call is none", Edges.NOTHING, a, StandAssigner::undo);
        }
        for (Edges.Call other : new Edges.Call[] {a -> a.append('x'), StandAssigner::save, StandAssigner::conflicts,
            a -> a.towGain(2, 450), StandAssigner::clear, StandAssigner::restore}) {
            e.throwing("no other call is one", Edges.NOTHING, Edges.called(EdgesOfHistory::quiet, other),
                StandAssigner::undo);
        }
    }

    private static StandAssigner forgotten(StandAssigner a) {
        a.save();
        a.restore();
        return a;
    }

    private static StandAssigner typed(String text) {
        StandAssigner a = forgotten(Airports.one());
        Due.type(a, text);
        return a;
    }

    /** After the call one change is remembered, and undoing it makes everything as it was but for what is excepted. */
    private static void isAChange(Edges e, String what, Edges.Maker quiet, Edges.Call call, String... excepted) {
        e.is(what + " answers", false, Edges.outcome(quiet.make(), call).endsWith("Exception"));
        StandAssigner a = Edges.called(quiet, call);
        e.is(what + " is undone", 0, a.undo());
        e.throwing(what + " is one change", Edges.NOTHING, a, StandAssigner::undo);
        e.same("as before " + what, quiet, () -> Edges.called(() -> Edges.called(quiet, call), StandAssigner::undo),
            excepted);
    }

    private static void sixChanges(Edges e) {
        for (int changes : new int[] {0, 1, 5, 6, 7, 8, 11, 12, 13, 30}) {
            StandAssigner a = Airports.empty();
            for (int change = 1; change <= changes; change++) {
                a.setBuffer(change);
            }
            int most = Math.min(changes, 6);
            for (int left = most - 1; left >= 0; left--) {
                e.is("changes left of " + changes, left, a.undo());
            }
            e.throwing("no more of " + changes, Edges.NOTHING, a, StandAssigner::undo);
            e.is("the buffer behind those forgotten of " + changes, changes > 6 ? changes - 6 : 15, a.setBuffer(60));
        }
        StandAssigner again = Airports.of(8, 0);
        again.undo();
        again.undo();
        again.undo();
        for (int turn = 0; turn < 4; turn++) {
            again.addTurn(0, 0, 30, 1);
        }
        for (int left = 5; left >= 0; left--) {
            e.is("three that were left, and four", left, again.undo());
        }
        e.throwing("the oldest is forgotten for good", Edges.NOTHING, again, StandAssigner::undo);
        e.is("three stands are there still", 3, again.account(0));
        notRemembered(e);
    }

    private static void notRemembered(Edges e) {
        StandAssigner a = Airports.of(1, 1);
        a.setOpen(0, false);
        Edges.outcome(a, b -> b.place(0, 0, 0));
        Edges.outcome(a, b -> Due.readText(b, "a;x"));
        Due.type(a, "a;a");
        a.save();
        a.undo();
        e.is("the reason", 2, a.reason());
        e.is("the error position", 2, a.errorPosition());
        e.is("the input", 4, a.append(';'));
        e.is("its characters", 2, a.read());
        e.is("the stand is open", 1, a.stand(0, 2));
        e.is("what was saved", 1, a.restore());
        e.is("where it is closed", 0, a.stand(0, 2));
    }

    private static void forgettingAll(Edges e) {
        e.throwing("clear", Edges.NOTHING, Edges.called(Airports::busy, StandAssigner::clear), StandAssigner::undo);
        e.throwing("restore", Edges.NOTHING, Edges.called(Airports::busy, StandAssigner::restore),
            StandAssigner::undo);
        StandAssigner a = Edges.called(Airports::busy, StandAssigner::clear);
        a.addStand(0, 0);
        e.is("only what comes then", 0, a.undo());
        e.throwing("no more", Edges.NOTHING, a, StandAssigner::undo);
        StandAssigner none = Airports.busy();
        none.clear();
        Edges.outcome(none, StandAssigner::undo);
        e.is("nothing comes back", 0, none.account(0));
        StandAssigner kept = Edges.called(Airports::empty, StandAssigner::restore);
        e.throwing("a restore that fails", Edges.NOTHING, kept, StandAssigner::undo);
        StandAssigner failed = Airports.of(2, 0);
        Edges.outcome(failed, StandAssigner::restore);
        e.is("forgets none", 1, failed.undo());
    }

    // ---- exceptions

    /** Every method that throws, by each of its exceptions, on the busy airport; read has tests of its own. */
    private static void nothingIsChanged(Edges e) {
        Edges.Maker busy = Airports::busy;
        e.refused("addStand", Edges.ARGUMENT, busy, a -> a.addStand(-1, 0));
        e.refused("addStand of a ninth", Edges.STATE, Airports::full, a -> a.addStand(0, 0));
        e.refused("pair", Edges.INDEX, busy, a -> a.pair(0, 3, 0));
        e.refused("pair of the same", Edges.ARGUMENT, busy, a -> a.pair(0, 0, 0));
        e.refused("setOpen", Edges.INDEX, busy, a -> a.setOpen(3, false));
        e.refused("setBuffer", Edges.ARGUMENT, busy, a -> a.setBuffer(-1));
        e.refused("stand", Edges.INDEX, busy, a -> a.stand(3, 0));
        e.refused("stand by a wrong what", Edges.ARGUMENT, busy, a -> a.stand(0, 7));
        e.refused("at", Edges.INDEX, busy, a -> a.at(3, 0));
        e.refused("at a wrong minute", Edges.ARGUMENT, busy, a -> a.at(0, -1));
        e.refused("at where none is", Edges.NOTHING, busy, a -> a.at(0, 0));
        e.refused("gap", Edges.INDEX, busy, a -> a.gap(3, 0));
        e.refused("gap from a wrong minute", Edges.ARGUMENT, busy, a -> a.gap(0, 1441));
        e.refused("addTurn", Edges.ARGUMENT, busy, a -> a.addTurn(0, 0, 29, 1));
        e.refused("addTurn of an eleventh", Edges.STATE, Airports::full, a -> a.addTurn(0, 0, 30, 1));
        e.refused("turn", Edges.INDEX, busy, a -> a.turn(3, 0));
        e.refused("turn by a wrong what", Edges.ARGUMENT, busy, a -> a.turn(0, 6));
        e.refused("ofStay", Edges.INDEX, busy, a -> a.ofStay(0, 1, 0));
        e.refused("ofStay by a wrong what", Edges.ARGUMENT, busy, a -> a.ofStay(1, 1, 6));
        e.refused("place", Edges.INDEX, busy, a -> a.place(0, 0, 3));
        e.refused("place that is refused", Edges.REFUSED, busy, a -> a.place(0, 0, 1), "reason");
        e.refused("whyNot", Edges.INDEX, busy, a -> a.whyNot(0, 1, 0));
        e.refused("options", Edges.INDEX, busy, a -> a.options(3, 0));
        e.refused("cheapest", Edges.INDEX, busy, a -> a.cheapest(0, 1));
        e.refused("cheapest of none", Edges.NOTHING, busy, a -> a.cheapest(2, 0));
        e.refused("lift", Edges.INDEX, busy, a -> a.lift(0, 1));
        e.refused("lift from none", Edges.STATE, busy, a -> a.lift(2, 0));
        e.refused("reason", Edges.NOTHING, Airports::full, StandAssigner::reason);
        e.refused("tow", Edges.INDEX, busy, a -> a.tow(3, 450));
        e.refused("tow at a wrong minute", Edges.ARGUMENT, busy, a -> a.tow(2, 429));
        e.refused("tow of a turn with one", Edges.STATE, busy, a -> a.tow(1, 300));
        e.refused("untow", Edges.INDEX, busy, a -> a.untow(-1));
        e.refused("untow of a turn without one", Edges.STATE, busy, a -> a.untow(0));
        moreCallsThatChangeNothing(e);
    }

    private static void moreCallsThatChangeNothing(Edges e) {
        Edges.Maker busy = Airports::busy;
        Edges.Maker late = () -> Edges.called(Airports::busy, a -> a.addTurn(1, 1400, 1440, 1));
        Edges.Maker four = () -> EdgesOfRepairs.closedUnder(4);
        e.refused("delay", Edges.INDEX, busy, a -> a.delay(3, 1));
        e.refused("delay by wrong minutes", Edges.ARGUMENT, busy, a -> a.delay(0, 301));
        e.refused("delay beyond the day", Edges.STATE, late, a -> a.delay(3, 11));
        e.refused("towGain", Edges.INDEX, busy, a -> a.towGain(3, 450));
        e.refused("towGain at a wrong minute", Edges.ARGUMENT, busy, a -> a.towGain(2, 481));
        e.refused("towGain of a turn with a tow", Edges.STATE, busy, a -> a.towGain(1, 300));
        e.refused("leastMoves", Edges.NOTHING, four, StandAssigner::leastMoves);
        e.refused("leastAgain", Edges.NOTHING, four, StandAssigner::leastAgain);
        e.refused("moveOf", Edges.NOTHING, four, a -> a.moveOf(0, true));
        e.refused("repair", Edges.NOTHING, four, StandAssigner::repair);
        e.refused("account", Edges.ARGUMENT, busy, a -> a.account(11));
        e.refused("meanCost", Edges.ARITHMETIC, Airports::empty, StandAssigner::meanCost);
        e.refused("append", Edges.ARGUMENT, busy, a -> a.append('\t'));
        e.refused("append to a full input", Edges.STATE, () -> typed("a;".repeat(30)), a -> a.append('a'));
        e.refused("errorPosition", Edges.NOTHING, Airports::full, StandAssigner::errorPosition);
        e.refused("undo", Edges.NOTHING, EdgesOfHistory::quiet, StandAssigner::undo);
        e.refused("restore", Edges.STATE, Airports::full, StandAssigner::restore);
    }

    private static void firstDocumented(Edges e) {
        Edges.Maker busy = Airports::busy;
        e.refused("addStand: out of range, and 8 stands", Edges.ARGUMENT, Airports::full, a -> a.addStand(0, 4));
        e.refused("pair: no stand, and the same", Edges.INDEX, busy, a -> a.pair(-1, -1, 0));
        e.refused("pair: no other stand, and a wrong limit", Edges.INDEX, busy, a -> a.pair(0, 3, 7));
        e.refused("stand: no stand, and a wrong what", Edges.INDEX, busy, a -> a.stand(3, 7));
        e.refused("at: no stand, and a wrong minute", Edges.INDEX, busy, a -> a.at(3, 1441));
        e.refused("at: no stand, and none is there", Edges.INDEX, busy, a -> a.at(3, 1440));
        e.refused("at: a wrong minute, and none is there", Edges.ARGUMENT, busy, a -> a.at(0, 1441));
        e.refused("gap: no stand, and a wrong minute", Edges.INDEX, busy, a -> a.gap(-1, -1));
        e.refused("addTurn: out of range, and 10 turns", Edges.ARGUMENT, Airports::full, a -> a.addTurn(0, 0, 30, 0));
        e.refused("addTurn: too short, and 10 turns", Edges.ARGUMENT, Airports::full, a -> a.addTurn(0, 1, 30, 1));
        e.refused("turn: no turn, and a wrong what", Edges.INDEX, busy, a -> a.turn(3, 6));
        e.refused("ofStay: no turn, and a wrong what", Edges.INDEX, busy, a -> a.ofStay(3, 0, 6));
        e.refused("ofStay: no stay, and a wrong what", Edges.INDEX, busy, a -> a.ofStay(0, 1, -1));
        e.refused("place: no turn, and the stand is closed", Edges.INDEX, busy, a -> a.place(3, 0, 0));
        e.refused("place: no stay, and the stand is closed", Edges.INDEX, busy, a -> a.place(0, 1, 0));
        e.refused("cheapest: no stay, and none that is open", Edges.INDEX,
            () -> Edges.called(Airports::one, a -> a.setOpen(0, false)), a -> a.cheapest(0, 1));
        e.refused("lift: no stay, and it is on none", Edges.INDEX, busy, a -> a.lift(2, 1));
        e.refused("tow: no turn, and a wrong minute", Edges.INDEX, busy, a -> a.tow(3, -1));
        e.refused("tow: a wrong minute, and it has a tow", Edges.ARGUMENT, busy, a -> a.tow(1, 259));
        e.refused("untow: no turn, and no tow", Edges.INDEX, busy, a -> a.untow(3));
        e.refused("delay: no turn, and wrong minutes", Edges.INDEX, busy, a -> a.delay(3, 0));
        e.refused("delay: wrong minutes, and too late", Edges.ARGUMENT, () -> lateTurn(), a -> a.delay(0, 301));
        e.refused("towGain: no turn, and a wrong minute", Edges.INDEX, busy, a -> a.towGain(-1, 1441));
        e.refused("towGain: a wrong minute, and it has a tow", Edges.ARGUMENT, busy, a -> a.towGain(1, 381));
        e.refused("append: out of range, and 60 characters", Edges.ARGUMENT, () -> typed("a;".repeat(30)),
            a -> a.append((char) 127));
        e.refused("read: no text, and an entry that fails", Edges.ARGUMENT, () -> typed("p0.0@0;l0.1;x"),
            StandAssigner::read, "input", "error position");
    }

    private static StandAssigner lateTurn() {
        StandAssigner a = Airports.empty();
        a.addTurn(0, 1300, 1440, 1);
        return a;
    }

    private static void bitsOfSets(Edges e) {
        StandAssigner a = Airports.of(8, 1);
        a.pair(0, 7, 3);
        e.is("bit 7 for stand 7", 1 << 7, a.stand(0, 3));
        e.is("bit 0 for stand 0", 1, a.stand(7, 3));
        for (int stand = 1; stand < 7; stand++) {
            a.setOpen(stand, false);
        }
        e.is("options on the first and the last", 1 | 1 << 7, a.options(0, 0));
        StandAssigner full = Airports.full();
        full.setBuffer(0);
        full.place(9, 1, 1);
        full.place(0, 1, 0);
        full.setBuffer(11);
        e.is("bit 19 for stay 19", 1 << 19, full.ofStay(9, 0, 4));
        e.is("bit 18 for stay 18", 1 << 18, full.ofStay(9, 1, 4));
        e.is("bit 0 for stay 0", 1, full.ofStay(0, 1, 4));
        e.is("bit 1 for stay 1", 2, full.ofStay(0, 0, 4));
        e.is("those of stand 1", 1 << 19 | 1 << 18, full.stand(1, 6));
        e.is("those of stand 0", 3, full.stand(0, 6));
        e.is("none", 0, full.stand(7, 6));
    }

    private static void onlyQuestions(Edges e) {
        for (Edges.Maker maker : new Edges.Maker[] {Airports::busy, Airports::full}) {
            for (int what = 0; what <= 6; what++) {
                int asked = what;
                e.onlyAsks("stand", maker, a -> a.stand(1, asked));
            }
            for (int what = 0; what <= 5; what++) {
                int asked = what;
                e.onlyAsks("turn", maker, a -> a.turn(1, asked));
                e.onlyAsks("ofStay", maker, a -> a.ofStay(1, 1, asked));
            }
            for (int account = 0; account <= 10; account++) {
                int asked = account;
                e.onlyAsks("account", maker, a -> a.account(asked));
            }
            e.onlyAsks("at", maker, a -> a.at(a.ofStay(1, 1, 2), a.ofStay(1, 1, 0)));
            e.onlyAsks("gap", maker, a -> a.gap(0, 0));
            e.onlyAsks("whyNot", maker, a -> a.whyNot(1, 1, 0));
            e.onlyAsks("options", maker, a -> a.options(1, 1));
            e.onlyAsks("conflicts", maker, StandAssigner::conflicts);
            e.onlyAsks("minutes", maker, StandAssigner::minutes);
            e.onlyAsks("peak", maker, a -> a.peak(false));
            e.onlyAsks("the minute of the peak", maker, a -> a.peak(true));
            e.onlyAsks("meanCost", maker, StandAssigner::meanCost);
        }
        Edges.Maker busy = Airports::busy;
        e.onlyAsks("cheapest", () -> Airports.of(8, 10), a -> a.cheapest(9, 0));
        e.onlyAsks("reason", busy, StandAssigner::reason);
        e.onlyAsks("errorPosition", busy, StandAssigner::errorPosition);
        e.onlyAsks("towGain", busy, a -> a.towGain(2, 450));
        e.onlyAsks("towGain where all is assigned", () -> Airports.of(8, 10), a -> a.towGain(9, 930));
        for (int stays = 0; stays <= 3; stays++) {
            int number = stays;
            e.onlyAsks("leastMoves", () -> EdgesOfRepairs.closedUnder(number), StandAssigner::leastMoves);
            e.onlyAsks("leastAgain", () -> EdgesOfRepairs.closedUnder(number), StandAssigner::leastAgain);
        }
        e.onlyAsks("moveOf", () -> EdgesOfRepairs.closedUnder(3), a -> a.moveOf(2, true));
    }

    // ---- promise 36

    private static void latestFirst(Edges e) {
        for (int undone = 0; undone <= 6; undone++) {
            StandAssigner a = Airports.empty();
            for (int buffer = 1; buffer <= 7; buffer++) {
                a.setBuffer(buffer);
            }
            for (int time = 0; time < undone; time++) {
                a.undo();
            }
            e.is("the buffer when " + undone + " of seven are undone", 7 - undone, a.setBuffer(0));
            a.undo();
            e.is("and when that is undone", 7 - undone, a.setBuffer(60));
        }
        StandAssigner twice = Airports.one();
        twice.lift(0, 0);
        twice.undo();
        e.is("on its stand again", 0, twice.ofStay(0, 0, 2));
        twice.undo();
        e.is("not placed yet", -1, twice.ofStay(0, 0, 2));
        twice.place(0, 0, 0);
        twice.undo();
        e.is("undone once more", -1, twice.ofStay(0, 0, 2));
        twice.undo();
        e.is("no turn", 0, twice.account(1));
        twice.undo();
        e.is("no stand", 0, twice.account(0));
        e.throwing("undoing is no change", Edges.NOTHING, twice, StandAssigner::undo);
    }

    private static void stillRemembered(Edges e) {
        StandAssigner a = Airports.full();
        for (int left = 5; left >= 0; left--) {
            e.is("of six", left, a.undo());
        }
        e.is("of one", 0, Airports.of(1, 0).undo());
        e.is("of seven", 5, Airports.of(7, 0).undo());
        StandAssigner again = Airports.of(3, 0);
        again.undo();
        again.addStand(0, 0);
        again.addStand(0, 0);
        e.is("of two and two", 3, again.undo());
    }

    private static void nothingToUndo(Edges e) {
        e.refused("a new one", Edges.NOTHING, Airports::empty, StandAssigner::undo);
        e.refused("cleared", Edges.NOTHING, () -> Edges.called(Airports::busy, StandAssigner::clear),
            StandAssigner::undo);
        e.refused("restored", Edges.NOTHING, () -> Edges.called(Airports::busy, StandAssigner::restore),
            StandAssigner::undo);
        e.refused("all undone", Edges.NOTHING, () -> Edges.called(() -> Airports.of(1, 0), StandAssigner::undo),
            StandAssigner::undo);
        e.refused("six undone", Edges.NOTHING, () -> Edges.called(Airports::full, a -> {
            for (int undone = 0; undone < 6; undone++) {
                a.undo();
            }
            return 0;
        }), StandAssigner::undo);
    }

    // ---- promises 37 and 38

    private static void allIsSaved(Edges e) {
        for (Edges.Maker maker : new Edges.Maker[] {Airports::empty, Airports::busy, Airports::full,
            () -> Edges.called(() -> EdgesOfRepairs.closedUnder(3), StandAssigner::repair)}) {
            Edges.Maker saved = () -> Edges.called(maker, StandAssigner::save);
            e.same("saving changes nothing else", maker, saved, "saved");
            e.same("all of it comes back", () -> Edges.called(saved, StandAssigner::restore),
                () -> Edges.called(() -> Edges.called(saved, StandAssigner::clear), StandAssigner::restore));
            e.same("as it was, but for the changes", maker, () -> Edges.called(saved, StandAssigner::restore),
                "saved", "changes");
        }
        StandAssigner a = Airports.of(1, 1);
        a.save();
        a.setOpen(0, false);
        Edges.outcome(a, b -> b.place(0, 0, 0));
        Edges.outcome(a, b -> Due.readText(b, "x"));
        Due.type(a, "a;");
        a.restore();
        e.is("not the reason", 2, a.reason());
        e.is("not the error position", 0, a.errorPosition());
        e.is("not the input", 1, a.read());
        e.is("the stand", 1, a.stand(0, 2));
    }

    private static void replaced(Edges e) {
        StandAssigner a = Airports.of(8, 10);
        a.save();
        a.clear();
        e.is("an empty one", 0, a.save());
        a.addStand(0, 0);
        a.restore();
        e.is("the later one", 0, a.account(0));
        e.is("of turns too", 0, a.account(1));
        a.setBuffer(20);
        a.save();
        a.setBuffer(30);
        a.save();
        a.setBuffer(40);
        a.restore();
        e.is("the buffer saved last", 30, a.setBuffer(0));
    }

    private static void savedTurns(Edges e) {
        e.is("none", 0, Airports.empty().save());
        e.is("stands alone", 0, Airports.of(8, 0).save());
        e.is("ten", 10, Airports.full().save());
        e.is("those of now", 3, Airports.busy().save());
    }

    private static void restored(Edges e) {
        Edges.Maker saved = () -> Edges.called(Airports::full, StandAssigner::save);
        e.same("what came behind is gone", () -> Edges.called(saved, StandAssigner::restore),
            () -> Edges.called(() -> Edges.called(saved, a -> a.place(9, 1, 7) + a.untow(0) + a.setBuffer(1)),
                StandAssigner::restore));
        StandAssigner a = Airports.empty();
        a.save();
        a.addStand(0, 3);
        a.addTurn(1, 0, 60, 1);
        a.restore();
        e.is("no stands", 0, a.account(0));
        e.is("no turns", 0, a.account(1));
        e.is("new numbers", 0, a.addStand(2, 1));
        e.is("the new stand", 2, a.stand(0, 0));
    }

    private static void staysSaved(Edges e) {
        StandAssigner a = Airports.one();
        a.save();
        for (int time = 0; time < 3; time++) {
            a.lift(0, 0);
            a.setBuffer(0);
            e.is("turns", 1, a.restore());
            e.is("on its stand, time " + time, 0, a.ofStay(0, 0, 2));
            e.is("the buffer", 15, a.setBuffer(20));
            a.undo();
        }
        a.clear();
        e.is("also when cleared", 1, a.restore());
        e.is("on its stand", 0, a.ofStay(0, 0, 2));
        a.setBuffer(1);
        a.undo();
        e.is("also when undone", 1, a.restore());
    }

    private static void restoredTurns(Edges e) {
        e.is("none", 0, Edges.called(Airports::empty, StandAssigner::save).restore());
        e.is("ten", 10, Edges.called(Airports::full, StandAssigner::save).restore());
        StandAssigner a = Edges.called(Airports::full, StandAssigner::save);
        a.clear();
        e.is("those saved, not those of now", 10, a.restore());
    }

    private static void nothingSaved(Edges e) {
        e.refused("a new one", Edges.STATE, Airports::empty, StandAssigner::restore);
        e.refused("one with changes", Edges.STATE, Airports::full, StandAssigner::restore);
        e.refused("cleared", Edges.STATE, () -> Edges.called(Airports::full, StandAssigner::clear),
            StandAssigner::restore);
        e.is("an empty one was saved", 0, Edges.called(Airports::empty, StandAssigner::save).restore());
    }
}
