import java.util.NoSuchElementException;

/** Promises 33 to 38. */
public final class TextsTest {
    private static final Class<IllegalArgumentException> ARGUMENT = IllegalArgumentException.class;
    private static final Class<IllegalStateException> STATE = IllegalStateException.class;
    private static final Class<NoSuchElementException> NOTHING = NoSuchElementException.class;
    private static final Due due = new Due("TextsTest");

    public static void main(String[] args) {
        appending();
        reading();
        readingNothing();
        failingEntries();
        errorPositions();
        undoing();
        everyChange();
        saving();
        due.end();
    }

    private static StandAssigner small() {
        StandAssigner a = new StandAssigner();
        a.addStand(0, 3);
        a.addStand(1, 3);
        a.addTurn(1, 100, 200, 1);
        a.addTurn(1, 100, 200, 2);
        return a;
    }

    private static void appending() {
        StandAssigner a = new StandAssigner();
        due.refuses("33: 31", ARGUMENT, () -> a.append((char) 31));
        due.refuses("33: 127", ARGUMENT, () -> a.append((char) 127));
        due.refuses("33: 65535", ARGUMENT, () -> a.append((char) 65535));
        due.is("33: 32", 1, () -> a.append((char) 32));
        due.is("33: 126", 2, () -> a.append((char) 126));
        for (int length = 3; length <= 60; length++) {
            due.is("33: length " + length, length, () -> a.append('a'));
        }
        due.refuses("33: full", STATE, () -> a.append('a'));
        due.refuses("33: a wrong one to a full one", ARGUMENT, () -> a.append((char) 31));
        due.refuses("34: not a text", ARGUMENT, a::read);
        due.is("33: empty again", 1, () -> a.append('a'));
    }

    private static void reading() {
        StandAssigner a = small();
        due.is("34: placing", 1, () -> Due.readText(a, "p0.0@1;"));
        due.is("34: it is there", 1, () -> a.ofStay(0, 0, 2));
        due.is("34: lifting", 1, () -> Due.readText(a, "l0.0;"));
        due.is("34: on none", -1, () -> a.ofStay(0, 0, 2));
        due.is("34: delaying", 1, () -> Due.readText(a, "d0+0010;"));
        due.is("34: the arrival", 110, () -> a.turn(0, 1));
        due.is("34: towing", 1, () -> Due.readText(a, "t0@150;"));
        due.is("34: the tow", 150, () -> a.turn(0, 4));
        due.is("34: assigning", 1, () -> Due.readText(a, "a;"));
        due.is("34: two stays have room", 2, () -> a.account(3));
        due.is("34: one change of all", 5, a::undo);
        due.is("34: of several", 4, () -> Due.readText(a, "p1.0@0;l1.0;t1@0120;p1.1@0;"));
        due.is("34: one more change", 5, a::undo);
        due.is("34: all of it", -1, () -> a.turn(1, 4));
        due.is("34: thirty entries", 30, () -> Due.readText(a, "a;".repeat(30)));
        due.refuses("35: none was kept", NOTHING, a::errorPosition);
    }

    private static void readingNothing() {
        StandAssigner a = small();
        due.refuses("34: empty", ARGUMENT, a::read);
        due.is("35: empty", 0, a::errorPosition);
        due.refuses("34: not whole", ARGUMENT, () -> Due.readText(a, "a;p0.0@"));
        due.is("35: not whole", 7, a::errorPosition);
        due.is("34: nothing of it", 0, () -> a.account(3));
        due.is("34: no change", 3, a::undo);
        due.is("35: it stays", 7, a::errorPosition);
        due.is("34: a text that is right", 1, () -> Due.readText(a, "a;"));
        due.is("35: and stays", 7, a::errorPosition);
        due.refuses("34: an entry that fails", STATE, () -> Due.readText(a, "l9.0;"));
        due.is("35: and stays then", 7, a::errorPosition);
    }

    private static void failingEntries() {
        StandAssigner a = small();
        String[] texts = {"p2.0@0;", "p0.1@0;", "p0.2@0;", "p0.0@2;", "p0.0@9;", "l0.0;", "l0.1;", "l5.0;",
            "d2+10;", "d0+0;", "d0+301;", "d0+9999;", "t2@150;", "t0@109;", "t0@181;", "t0@9999;",
            "t0@150;t0@150;", "d1+300;d1+300;d1+300;d1+300;d1+300;", "a;l0.0;l0.0;"};
        long state = Due.stateOf(a);
        for (String text : texts) {
            due.refuses("34: " + text, STATE, () -> Due.readText(a, text));
            due.is("34: nothing of " + text, state, () -> Due.stateOf(a));
        }
        due.refuses("18: none of them kept a reason", NOTHING, a::reason);
        due.refuses("34: a refusal", STATE, () -> Due.readText(a, "p0.0@0;p1.0@0;"));
        due.is("18: its reason", 4, a::reason);
        due.is("34: the first is not done", -1, () -> a.ofStay(0, 0, 2));
        due.is("34: the input is empty", 1, () -> Due.readText(a, "a;"));
        due.refuses("34: the text comes first", ARGUMENT, () -> Due.readText(a, "l9.9;x"));
        due.is("35: its position", 5, a::errorPosition);
        due.is("34: with those before it", 2, () -> Due.readText(a, "t0@150;l0.0;"));
        due.is("34: no change was kept by failing ones", 5, a::undo);
        due.is("34: the longest delay", 1, () -> Due.readText(a, "d1+300;"));
        due.is("34: up to the last minute", 4, () -> Due.readText(a, "d1+300;d1+300;d1+300;d1+110;"));
        due.is("34: the departure", 1440, () -> a.turn(1, 2));
        due.refuses("34: one minute more", STATE, () -> Due.readText(a, "d1+1;"));
    }

    private static void errorPositions() {
        StandAssigner a = small();
        String[] texts = {" ", "b", ";", "A;", "aa", "a ;", "a;;", "p;", "p10", "p0;", "p0.@", "p0.00", "p0.0.",
            "p0.0@;", "p0.0@00", "l0@", "l0.0@", "d0@", "d0+;", "d0+12345;", "d0+1+", "d0+-1;", "t0+", "t0@x",
            "t0@00000;", "a;a;p0.0@0;z", "p0.0@0", "d0+1", "d0+1234", "a", "t", "l0.", "d+", "p/", "p:", "p0.0@:"};
        int[] positions = {0, 0, 0, 0, 1, 1, 2, 1, 2, 2, 3, 4, 4,
            5, 6, 2, 4, 2, 3, 7, 4, 3, 2, 3,
            7, 11, 6, 4, 7, 1, 1, 3, 1, 1, 1, 5};
        for (int index = 0; index < texts.length; index++) {
            String text = texts[index];
            due.refuses("34: " + text, ARGUMENT, () -> Due.readText(a, text));
            due.is("35: of " + text, positions[index], a::errorPosition);
        }
        due.refuses("34: sixty characters", ARGUMENT, () -> Due.readText(a, "a;".repeat(29) + "p0"));
        due.is("35: of sixty characters", 60, a::errorPosition);
    }

    private static void undoing() {
        StandAssigner a = new StandAssigner();
        due.refuses("36: nothing", NOTHING, a::undo);
        for (int stand = 0; stand < 8; stand++) {
            a.addStand(0, 3);
        }
        for (int left = 5; left >= 0; left--) {
            due.is("36: left", left, a::undo);
        }
        due.refuses("36: the oldest are forgotten", NOTHING, a::undo);
        due.is("36: two are left", 2, () -> a.account(0));
        a.addStand(2, 1);
        due.is("36: again", 0, a::undo);
        due.is("36: also when nothing is different", 15, () -> a.setBuffer(15));
        due.is("36: that is undone", 0, a::undo);
    }

    private static void everyChange() {
        StandAssigner a = small();
        a.save();
        a.restore();
        long state = Due.stateOf(a);
        Runnable[] changes = {() -> a.addStand(0, 0), () -> a.pair(0, 1, 0), () -> a.setOpen(0, false),
            () -> a.setBuffer(1), () -> a.addTurn(0, 0, 30, 1), () -> a.place(0, 0, 1), () -> a.tow(0, 150),
            () -> a.delay(1, 1), () -> a.assignAll(), () -> a.repair(), () -> Due.readText(a, "a;")};
        for (int change = 0; change < changes.length; change++) {
            changes[change].run();
            due.is("36: change " + change, 0, a::undo);
            due.is("36: as before " + change, state, () -> Due.stateOf(a));
            due.is("36: buffer before " + change, 15, () -> a.setBuffer(15));
            a.undo();
        }
        a.place(0, 0, 0);
        a.lift(0, 0);
        due.is("36: lifting", 1, a::undo);
        a.tow(0, 150);
        a.untow(0);
        due.is("36: untowing", 2, a::undo);
        due.is("36: with its tow", 150, () -> a.turn(0, 4));
        due.refuses("36: no change by a refusal", UnsupportedOperationException.class, () -> a.place(0, 0, 0));
        due.is("36: so many as before", 1, a::undo);
    }

    private static void saving() {
        StandAssigner a = small();
        due.refuses("38: nothing was saved", STATE, a::restore);
        a.setOpen(0, false);
        a.place(0, 0, 1);
        a.setOpen(1, false);
        a.setOpen(0, true);
        a.repair();
        long state = Due.stateOf(a);
        due.is("37: save", 2, a::save);
        due.is("37: it is no change", 5, a::undo);
        due.is("29: moves go back", 0, () -> a.account(9));
        a.addTurn(1, 0, 60, 1);
        a.addStand(1, 1);
        due.is("38: restore", 2, a::restore);
        due.is("38: as it was saved", state, () -> Due.stateOf(a));
        due.is("38: moves", 1, () -> a.account(9));
        due.is("38: the stay", 0, () -> a.ofStay(0, 0, 2));
        due.refuses("38: changes are forgotten", NOTHING, a::undo);
        a.lift(0, 0);
        due.is("38: it stays saved", 2, a::restore);
        due.is("38: the stay again", 0, () -> a.ofStay(0, 0, 2));
        a.addTurn(1, 0, 60, 1);
        due.is("37: again", 3, a::save);
        a.clear();
        due.is("38: the later one", 3, a::restore);
        a.setBuffer(20);
        a.save();
        a.setBuffer(30);
        a.restore();
        due.is("38: the buffer", 20, () -> a.setBuffer(15));
    }
}
