/** Promises 1 to 9. */
public final class StandsTest {
    private static final Class<IndexOutOfBoundsException> INDEX = IndexOutOfBoundsException.class;
    private static final Class<IllegalArgumentException> ARGUMENT = IllegalArgumentException.class;
    private static final Class<IllegalStateException> STATE = IllegalStateException.class;
    private static final Class<java.util.NoSuchElementException> NOTHING = java.util.NoSuchElementException.class;
    private static final Due due = new Due("StandsTest");

    public static void main(String[] args) {
        newObject();
        clearing();
        addingStands();
        pairs();
        opening();
        buffers();
        numbersOfStands();
        troubledSets();
        staysAtMinutes();
        gaps();
        due.end();
    }

    private static void newObject() {
        StandAssigner a = new StandAssigner();
        for (int account = 0; account <= 10; account++) {
            int asked = account;
            due.is("1: account(" + account + ")", 0, () -> a.account(asked));
        }
        due.is("1: conflicts", 0, a::conflicts);
        due.is("1: minutes", 0, a::minutes);
        due.is("1: peak", 0, () -> a.peak(false));
        due.is("1: peak minute", 0, () -> a.peak(true));
        due.is("1: leastMoves", 0, a::leastMoves);
        due.is("1: leastAgain", 0, a::leastAgain);
        due.refuses("1: reason", NOTHING, a::reason);
        due.refuses("1: errorPosition", NOTHING, a::errorPosition);
        due.refuses("1: undo", NOTHING, a::undo);
        due.refuses("1: restore", STATE, a::restore);
        due.refuses("1: stand", INDEX, () -> a.stand(0, 0));
        due.refuses("1: turn", INDEX, () -> a.turn(0, 0));
        due.is("1: buffer", 15, () -> a.setBuffer(15));
    }

    private static void clearing() {
        StandAssigner a = new StandAssigner();
        due.is("2: clear of nothing", 0, a::clear);
        a.addStand(0, 3);
        a.addStand(0, 3);
        a.pair(0, 1, 4);
        a.setOpen(0, false);
        a.setBuffer(40);
        a.addTurn(1, 0, 60, 1);
        a.addTurn(1, 0, 60, 1);
        a.tow(0, 20);
        a.setOpen(0, true);
        a.place(0, 0, 0);
        a.setOpen(0, false);
        due.is("2: a move", 1, a::repair);
        due.is("2: save", 2, a::save);
        due.refuses("2: a kept reason", UnsupportedOperationException.class, () -> a.place(0, 0, 0));
        due.refuses("2: a kept error position", ARGUMENT, () -> Due.readText(a, "p0x"));
        Due.type(a, "a;");
        due.is("2: clear", 2, a::clear);
        due.is("2: no stands", 0, () -> a.account(0));
        due.is("2: no turns", 0, () -> a.account(1));
        due.is("2: no tows", 0, () -> a.account(5));
        due.is("2: no moves", 0, () -> a.account(9));
        due.refuses("2: no changes", NOTHING, a::undo);
        due.is("2: the reason stays", 2, a::reason);
        due.is("2: the error position stays", 2, a::errorPosition);
        due.is("2: the input stays", 1, a::read);
        due.is("2: the buffer is new", 15, () -> a.setBuffer(3));
        a.addStand(1, 2);
        a.addStand(1, 2);
        due.is("2: new stands are open", 1, () -> a.stand(0, 2));
        due.is("2: new stands are no pair", 0, () -> a.stand(0, 3));
        a.addTurn(1, 0, 60, 1);
        due.is("2: new turns have no tow", -1, () -> a.turn(0, 4));
        due.is("2: what was saved stays", 2, a::restore);
        due.is("2: the saved buffer", 40, () -> a.setBuffer(3));
    }

    private static void addingStands() {
        StandAssigner a = new StandAssigner();
        due.refuses("3: kind -1", ARGUMENT, () -> a.addStand(-1, 0));
        due.refuses("3: kind 3", ARGUMENT, () -> a.addStand(3, 0));
        due.refuses("3: size -1", ARGUMENT, () -> a.addStand(0, -1));
        due.refuses("3: size 4", ARGUMENT, () -> a.addStand(0, 4));
        for (int stand = 0; stand < 8; stand++) {
            int kind = stand % 3;
            int size = stand % 4;
            due.is("3: stand " + stand, stand, () -> a.addStand(kind, size));
        }
        due.refuses("3: a ninth", STATE, () -> a.addStand(0, 0));
        due.refuses("3: a ninth of a wrong kind", ARGUMENT, () -> a.addStand(3, 0));
        due.is("3: its kind", 2, () -> a.stand(5, 0));
        due.is("3: its size", 1, () -> a.stand(5, 1));
        due.is("3: it is open", 1, () -> a.stand(5, 2));
    }

    private static void pairs() {
        StandAssigner a = new StandAssigner();
        a.addStand(0, 3);
        a.addStand(0, 3);
        a.addStand(0, 3);
        due.refuses("4: no stand", INDEX, () -> a.pair(3, 0, 1));
        due.refuses("4: no other", INDEX, () -> a.pair(0, -1, 1));
        due.refuses("4: no stand comes first", INDEX, () -> a.pair(7, 7, 9));
        due.refuses("4: the same", ARGUMENT, () -> a.pair(1, 1, 1));
        due.refuses("4: limit 7", ARGUMENT, () -> a.pair(0, 1, 7));
        due.refuses("4: limit -2", ARGUMENT, () -> a.pair(0, 1, -2));
        due.is("4: new pair", -1, () -> a.pair(0, 2, 0));
        due.is("4: from the other side", 0, () -> a.pair(2, 0, 6));
        due.is("4: set 0", 4, () -> a.stand(0, 3));
        due.is("4: set 2", 1, () -> a.stand(2, 3));
        a.pair(0, 2, 0);
        due.is("4: a limit of 0 is a pair", 4, () -> a.stand(0, 3));
        a.pair(0, 2, 6);
        due.is("4: set 1", 0, () -> a.stand(1, 3));
        due.is("4: ending", 6, () -> a.pair(0, 2, -1));
        due.is("4: ending none", -1, () -> a.pair(0, 2, -1));
        due.is("4: set 0 then", 0, () -> a.stand(0, 3));
        a.pair(0, 1, 3);
        a.addTurn(2, 100, 200, 1);
        a.addTurn(2, 199, 300, 1);
        a.place(0, 0, 0);
        due.is("4: sum above the limit", 5, () -> a.whyNot(1, 0, 1));
        due.is("4: limit of the sum", 3, () -> a.pair(1, 0, 4));
        due.is("4: sum at the limit", 0, () -> a.whyNot(1, 0, 1));
        a.pair(0, 1, 0);
        due.is("4: limit 0", 5, () -> a.whyNot(1, 0, 1));
        a.addTurn(2, 200, 230, 1);
        a.addTurn(2, 70, 100, 1);
        due.is("4: none is there at its last minute", 0, () -> a.whyNot(2, 0, 1));
        due.is("4: nor before its first", 0, () -> a.whyNot(3, 0, 1));
    }

    private static void opening() {
        StandAssigner a = new StandAssigner();
        due.refuses("5: no stand", INDEX, () -> a.setOpen(0, true) ? 1 : 0);
        a.addStand(0, 3);
        a.addStand(0, 3);
        a.addTurn(1, 0, 60, 1);
        a.place(0, 0, 1);
        due.is("5: was open", 1, () -> a.setOpen(1, false) ? 1 : 0);
        due.is("5: was closed", 0, () -> a.setOpen(1, false) ? 1 : 0);
        due.is("5: the stay remains", 1, () -> a.ofStay(0, 0, 2));
        due.is("5: it is closed", 0, () -> a.stand(1, 2));
        due.is("5: the other is open", 1, () -> a.stand(0, 2));
        due.is("5: opening", 0, () -> a.setOpen(1, true) ? 1 : 0);
        due.is("5: it is open", 1, () -> a.stand(1, 2));
        due.refuses("5: below", INDEX, () -> a.setOpen(-1, true) ? 1 : 0);
    }

    private static void buffers() {
        StandAssigner a = new StandAssigner();
        due.refuses("6: -1", ARGUMENT, () -> a.setBuffer(-1));
        due.refuses("6: 61", ARGUMENT, () -> a.setBuffer(61));
        due.is("6: 60", 15, () -> a.setBuffer(60));
        due.is("6: 0", 60, () -> a.setBuffer(0));
        a.addStand(0, 3);
        a.addTurn(0, 0, 60, 1);
        a.addTurn(0, 75, 120, 1);
        a.place(0, 0, 0);
        a.place(1, 0, 0);
        due.is("6: no conflict", 0, a::conflicts);
        a.setBuffer(15);
        due.is("6: just the buffer", 0, a::conflicts);
        a.setBuffer(16);
        due.is("6: one minute less", 1, a::conflicts);
    }

    private static void numbersOfStands() {
        StandAssigner a = new StandAssigner();
        a.addStand(2, 1);
        a.addTurn(1, 0, 60, 1);
        a.addTurn(1, 100, 200, 1);
        a.place(0, 0, 0);
        a.place(1, 0, 0);
        a.tow(1, 150);
        due.refuses("7: no stand", INDEX, () -> a.stand(1, 0));
        due.refuses("7: no stand comes first", INDEX, () -> a.stand(-1, 9));
        due.refuses("7: what -1", ARGUMENT, () -> a.stand(0, -1));
        due.refuses("7: what 7", ARGUMENT, () -> a.stand(0, 7));
        due.is("7: kind", 2, () -> a.stand(0, 0));
        due.is("7: size", 1, () -> a.stand(0, 1));
        due.is("7: stays", 2, () -> a.stand(0, 4));
        due.is("7: lengths", 110, () -> a.stand(0, 5));
        due.is("7: no trouble", 0, () -> a.stand(0, 6));
        a.place(0, 0, a.addStand(0, 3));
        due.is("7: one stay less", 1, () -> a.stand(0, 4));
        due.is("7: lengths less", 50, () -> a.stand(0, 5));
    }

    private static void troubledSets() {
        StandAssigner a = new StandAssigner();
        a.addStand(0, 2);
        a.addStand(0, 2);
        a.addTurn(2, 0, 60, 1);
        a.addTurn(2, 0, 60, 1);
        a.addTurn(1, 100, 160, 1);
        a.place(0, 0, 0);
        a.place(1, 0, 1);
        a.place(2, 0, 1);
        due.is("7: no trouble on stand 1", 0, () -> a.stand(1, 6));
        a.pair(0, 1, 3);
        due.is("7: a conflict with another stand", 1, () -> a.stand(0, 6));
        due.is("7: the other of it", 4, () -> a.stand(1, 6));
        a.setOpen(1, false);
        due.is("7: hindered ones too", 4 + 16, () -> a.stand(1, 6));
        a.lift(0, 0);
        a.lift(1, 0);
        due.is("7: only those there", 16, () -> a.stand(1, 6));
    }

    private static void staysAtMinutes() {
        StandAssigner a = new StandAssigner();
        a.addStand(0, 3);
        a.addStand(0, 3);
        a.addTurn(1, 200, 260, 1);
        a.addTurn(1, 100, 150, 1);
        a.addTurn(1, 1410, 1440, 1);
        a.setBuffer(0);
        a.place(0, 0, 0);
        a.place(1, 0, 0);
        a.place(2, 0, 0);
        due.refuses("8: no stand", INDEX, () -> a.at(2, 0));
        due.refuses("8: no stand comes first", INDEX, () -> a.at(-1, -1));
        due.refuses("8: minute -1", ARGUMENT, () -> a.at(0, -1));
        due.refuses("8: minute 1441", ARGUMENT, () -> a.at(0, 1441));
        due.refuses("8: before", NOTHING, () -> a.at(0, 99));
        due.is("8: first minute", 2, () -> a.at(0, 100));
        due.is("8: the one before its last", 2, () -> a.at(0, 149));
        due.refuses("8: its last", NOTHING, () -> a.at(0, 150));
        due.is("8: late", 4, () -> a.at(0, 1439));
        due.refuses("8: minute 1440", NOTHING, () -> a.at(0, 1440));
        due.refuses("8: another stand", NOTHING, () -> a.at(1, 100));
        a.delay(1, 110);
        due.is("8: of several the lowest", 0, () -> a.at(0, 220));
        a.addTurn(1, 0, 60, 1);
        a.place(3, 0, 1);
        due.is("8: minute 0", 6, () -> a.at(1, 0));
        due.is("9: a stay at minute 0", 0, () -> a.gap(1, 0));
    }

    private static void gaps() {
        StandAssigner a = new StandAssigner();
        a.addStand(0, 3);
        due.is("9: all day", 1440, () -> a.gap(0, 0));
        a.addTurn(1, 200, 260, 1);
        a.addTurn(1, 100, 150, 1);
        a.place(0, 0, 0);
        a.place(1, 0, 0);
        due.refuses("9: no stand", INDEX, () -> a.gap(1, 0));
        due.refuses("9: no stand comes first", INDEX, () -> a.gap(1, -1));
        due.refuses("9: minute -1", ARGUMENT, () -> a.gap(0, -1));
        due.refuses("9: minute 1441", ARGUMENT, () -> a.gap(0, 1441));
        due.is("9: before", 100, () -> a.gap(0, 0));
        due.is("9: where stay 0 is", 0, () -> a.gap(0, 200));
        due.is("9: one before", 1, () -> a.gap(0, 99));
        due.is("9: at its beginning", 0, () -> a.gap(0, 100));
        due.is("9: at its last but one", 0, () -> a.gap(0, 149));
        due.is("9: between, without the buffer", 50, () -> a.gap(0, 150));
        due.is("9: after", 1180, () -> a.gap(0, 260));
        due.is("9: at the end", 0, () -> a.gap(0, 1440));
        a.setOpen(0, false);
        due.is("9: a closed stand", 10, () -> a.gap(0, 190));
    }
}
