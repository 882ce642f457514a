/** The sentences of promises 33 to 35, and those of "Terms" on texts, that name an edge. */
final class EdgesOfTexts {
    private static final String LETTERS = "pldta";
    private static final String DIGITS = "0123456789";
    private static final String DIGITS_OR_END = "0123456789;";

    private EdgesOfTexts() {
    }

    static void run(Edges e) {
        texts(e);
        appending(e);
        reading(e);
        positions(e);
    }

    private static void texts(Edges e) {
        e.ofTerms("The input is a buffer of at most 60 characters.", EdgesOfTexts::sixtyCharacters);
        e.ofTerms("A text consists of one or several entries, each followed by a semicolon: p, a turn, a point, a stay,"
            + " an at sign and a stand, which places the stay; l, a turn, a point and a stay, which lifts it; d, a"
            + " turn, a plus sign and minutes, which delays the turn; t, a turn, an at sign and a minute, which tows"
            + " it; or a, which assigns all.", EdgesOfTexts::entries);
        e.ofTerms("Turns, stays and stands are digits; minutes are numbers of one to four digits, where zeros at the"
            + " front are allowed.", EdgesOfTexts::digits);
        e.ofTerms("The error position of a text that is not like this is the smallest index k such that no text of this"
            + " kind starts with the first k + 1 characters of it; if there is no such index, it is the length of the"
            + " text.", EdgesOfTexts::errorPositions);
        e.ofTerms("In a text, turns, stays and stands that there are not, and minutes that are out of range, are right,"
            + " and cannot be done.", EdgesOfTexts::rightButNotDone);
    }

    private static void appending(Edges e) {
        e.ofPromise(33, "- `character`: the character, with a code from 32 to 126", EdgesOfTexts::characters);
        e.ofPromise(33, "Returns the new length of the input.", EdgesOfTexts::lengths);
        e.ofPromise(33, "Throws `IllegalArgumentException` if the character code is out of range",
            EdgesOfTexts::wrongCharacters);
        e.ofPromise(33, "Throws `IllegalStateException` if the input has 60 characters", EdgesOfTexts::fullInput);
    }

    private static void reading(Edges e) {
        e.ofPromise(34, "Does what the entries of the text in the input tell, in their order, or nothing of it.",
            EdgesOfTexts::whatTheyTell);
        e.ofPromise(34, "The input is empty afterwards, whatever happens.", EdgesOfTexts::emptyAfterwards);
        e.ofPromise(34, "It is one change.", EdgesOfTexts::oneChange);
        e.ofPromise(34, "Returns the number of entries.", EdgesOfTexts::numberOfEntries);
        e.ofPromise(34, "Throws `IllegalArgumentException` if the input is not a text of this kind; the error position"
            + " is then kept for errorPosition", EdgesOfTexts::noText);
        e.ofPromise(34, "Throws `IllegalStateException` if the call for an entry, behind those before it, would throw"
            + " an exception; if it is a refusal, the reason is then kept", EdgesOfTexts::failingEntries);
    }

    private static void positions(Edges e) {
        e.ofPromise(35, "Returns the error position that was kept last; it stays until the next text that is not as"
            + " told is read.", EdgesOfTexts::keptPosition);
        e.ofPromise(35, "Returns the error position.", EdgesOfTexts::firstAndLastPosition);
        e.ofPromise(35, "Throws `NoSuchElementException` if none was kept", EdgesOfTexts::noPosition);
    }

    // ---- what several sentences ask

    /** Two gates and an apron; turn 0 from 100 to 200 on stand 0, turn 1 from 300 to 400 on none. */
    private static StandAssigner small() {
        StandAssigner a = Airports.of(2, 0);
        a.addStand(1, 1);
        a.addTurn(1, 100, 200, 1);
        a.addTurn(2, 300, 400, 2);
        a.place(0, 0, 0);
        return a;
    }

    private static StandAssigner typed(String text) {
        StandAssigner a = small();
        Due.type(a, text);
        return a;
    }

    private static StandAssigner wasRead(String text) {
        return Edges.called(() -> typed(text), StandAssigner::read);
    }

    /** The error position of a text, or -1 if it is right. */
    private static int positionOf(String text) {
        StandAssigner a = typed(text);
        boolean isWrong = Edges.outcome(a, StandAssigner::read).equals(Edges.ARGUMENT.getName());
        return isWrong ? a.errorPosition() : -1;
    }

    private static void wrong(Edges e, String text, int position) {
        e.is("the position of " + text, position, positionOf(text));
    }

    private static void right(Edges e, String text) {
        wrong(e, text, -1);
    }

    // ---- texts

    private static void sixtyCharacters(Edges e) {
        StandAssigner a = typed("a;".repeat(29) + "a");
        e.is("the last character there is room for", 60, a.append(';'));
        e.throwing("one more", Edges.STATE, a, b -> b.append('a'));
        e.is("all of it is read", 30, a.read());
        e.is("room again", 1, a.append('a'));
    }

    private static void entries(Edges e) {
        wrong(e, "", 0);
        wrong(e, ";", 0);
        right(e, "a;");
        right(e, "a;a;");
        right(e, "a;".repeat(30));
        wrong(e, "a", 1);
        wrong(e, "a;a", 3);
        wrong(e, "a;;", 2);
        wrong(e, "aa;", 1);
        everySign(e, "p1.0@2;", LETTERS, DIGITS, ".", DIGITS, "@", DIGITS, ";", LETTERS);
        everySign(e, "l1.0;", LETTERS, DIGITS, ".", DIGITS, ";", LETTERS);
        everySign(e, "d1+2;", LETTERS, DIGITS, "+", DIGITS, DIGITS_OR_END, LETTERS);
        everySign(e, "t1@2;", LETTERS, DIGITS, "@", DIGITS, DIGITS_OR_END, LETTERS);
        everySign(e, "a;", LETTERS, ";", LETTERS);
        everySign(e, "d1+2345;", LETTERS, DIGITS, "+", DIGITS, DIGITS_OR_END, DIGITS_OR_END, DIGITS_OR_END, ";",
            LETTERS);
        everySign(e, "t1@2345;", LETTERS, DIGITS, "@", DIGITS, DIGITS_OR_END, DIGITS_OR_END, DIGITS_OR_END, ";",
            LETTERS);
    }

    /** Every sign at every index of a text, and behind it: only those that are told go on there. */
    private static void everySign(Edges e, String text, String... goingOn) {
        for (int index = 0; index <= text.length(); index++) {
            for (char sign = 32; sign <= 126; sign++) {
                String start = text.substring(0, index) + sign;
                boolean goesOn = goingOn[index].indexOf(sign) >= 0;
                int position = positionOf(start);
                e.is("whether " + start + " is a start", goesOn, position < 0 || position > index);
                if (!goesOn) {
                    e.is("the position of " + start, index, position);
                }
            }
        }
    }

    private static void digits(Edges e) {
        for (char digit = '0'; digit <= '9'; digit++) {
            right(e, "p" + digit + ".0@0;");
            right(e, "p0." + digit + "@0;");
            right(e, "p0.0@" + digit + ";");
            right(e, "l" + digit + "." + digit + ";");
            right(e, "d" + digit + "+" + digit + ";");
            right(e, "t" + digit + "@" + digit + ";");
        }
        wrong(e, "p/.0@0;", 1);
        wrong(e, "p:.0@0;", 1);
        wrong(e, "p10.0@0;", 2);
        wrong(e, "p0.00@0;", 4);
        wrong(e, "p0.0@00;", 6);
        wrong(e, "l00.0;", 2);
        wrong(e, "d00+1;", 2);
        wrong(e, "t00@150;", 2);
        wrong(e, "d0+;", 3);
        wrong(e, "d0+-1;", 3);
        wrong(e, "t0@;", 3);
        for (String minutes : new String[] {"7", "07", "007", "0007"}) {
            e.is("delayed by " + minutes, 107, wasRead("d0+" + minutes + ";").turn(0, 1));
        }
        wrong(e, "d0+00007;", 7);
        for (String minute : new String[] {"150", "0150"}) {
            e.is("towed at " + minute, 150, wasRead("t0@" + minute + ";").turn(0, 4));
        }
        wrong(e, "t0@00150;", 7);
        right(e, "d0+9999;");
        right(e, "t0@9999;");
        right(e, "t0@0000;");
        StandAssigner late = Airports.of(1, 0);
        late.addTurn(1, 1000, 1100, 1);
        e.is("four digits that count", 1, Due.readText(late, "t0@1050;"));
        e.is("the minute", 1050, late.turn(0, 4));
    }

    private static void errorPositions(Edges e) {
        wrong(e, "", 0);
        wrong(e, " ", 0);
        wrong(e, "x;a;", 0);
        wrong(e, "P0.0@0;", 0);
        wrong(e, "a ;", 1);
        wrong(e, " a;", 0);
        wrong(e, "a;x", 2);
        wrong(e, "a;p0.0@0;l0.0;d0+1;t0@1;x", 24);
        wrong(e, "p0.0@0;p0.0,0;", 11);
        wrong(e, "xx", 0);
        wrong(e, "p0x0y", 2);
        String longest = "p0.0@0;d0+1234;";
        for (int length = 0; length < longest.length(); length++) {
            String start = longest.substring(0, length);
            wrong(e, start, length == 7 ? -1 : length);
        }
        wrong(e, "a;".repeat(29) + "ax", 59);
        wrong(e, "a;".repeat(29) + "x;", 58);
        wrong(e, "a;".repeat(29) + "p0", 60);
        wrong(e, "a;".repeat(29) + "a", 59);
        wrong(e, "x".repeat(60), 0);
    }

    private static void rightButNotDone(Edges e) {
        String[] texts = {"p2.0@1;", "p9.0@1;", "p0.1@1;", "p0.2@1;", "p0.9@1;", "p0.0@3;", "p0.0@9;", "l2.0;", "l9.0;",
            "l0.1;", "l0.9;", "d2+1;", "d9+1;", "d0+0;", "d0+301;", "d0+9999;", "t2@150;", "t9@150;", "t0@109;",
            "t0@181;", "t0@0;", "t0@1440;", "t0@1441;", "t0@9999;"};
        for (String text : texts) {
            e.refused(text, Edges.STATE, () -> typed(text), StandAssigner::read, "input");
        }
        right(e, "p9.9@9;");
        right(e, "d9+9999;");
        e.is("the last stand", 1, typed("p0.0@2;").read());
        e.is("the last turn", 1, typed("p1.0@1;").read());
        e.is("the last stay", 3, typed("t1@350;p1.1@1;l1.1;").read());
        e.is("the least minutes", 1, typed("d0+1;").read());
        e.is("the most minutes", 1, typed("d0+300;").read());
        e.is("the earliest tow", 1, typed("t0@110;").read());
        e.is("the latest tow", 1, typed("t0@180;").read());
    }

    // ---- promise 33

    private static void characters(Edges e) {
        e.is("32", 1, Airports.empty().append((char) 32));
        e.is("126", 1, Airports.empty().append((char) 126));
        for (char code = 32; code <= 126; code++) {
            e.is("code " + (int) code, 1, Airports.empty().append(code));
        }
        e.refused("31", Edges.ARGUMENT, Airports::busy, a -> a.append((char) 31));
        e.refused("127", Edges.ARGUMENT, Airports::busy, a -> a.append((char) 127));
    }

    private static void lengths(Edges e) {
        StandAssigner a = Airports.empty();
        for (int length = 1; length <= 60; length++) {
            e.is("length " + length, length, a.append(' '));
        }
        e.throwing("a refused one", Edges.STATE, a, b -> b.append(' '));
        e.throwing("what was typed is no text", Edges.ARGUMENT, a, StandAssigner::read);
        e.is("length 1 again", 1, a.append(' '));
        e.throwing("a wrong one", Edges.ARGUMENT, a, b -> b.append('\n'));
        e.is("does not count", 2, a.append(' '));
    }

    private static void wrongCharacters(Edges e) {
        char[] codes = {0, 9, 10, 31, 127, 128, 160, 255, 256, 256 + 'a', 32767, 32768, 65535};
        Edges.Maker full = () -> typed("a;".repeat(30));
        for (char code : codes) {
            e.refused("code " + (int) code, Edges.ARGUMENT, Airports::busy, a -> a.append(code));
            e.refused("code " + (int) code + " to a full input", Edges.ARGUMENT, full, a -> a.append(code));
        }
        e.is("32 is in", 1, Airports.empty().append(' '));
        e.is("126 is in", 1, Airports.empty().append('~'));
    }

    private static void fullInput(Edges e) {
        Edges.Maker full = () -> typed("a;".repeat(30));
        e.refused("60 characters", Edges.STATE, full, a -> a.append('a'));
        e.refused("32 to 60", Edges.STATE, full, a -> a.append((char) 32));
        e.refused("126 to 60", Edges.STATE, full, a -> a.append((char) 126));
        e.is("59 characters", 60, typed("a;".repeat(29) + "a").append(';'));
        e.is("read", 1, Edges.called(full, StandAssigner::read).append('a'));
        e.throwing("cleared, where the input stays", Edges.STATE, Edges.called(full, StandAssigner::clear),
            a -> a.append('a'));
        e.throwing("undone, where the input stays", Edges.STATE, Edges.called(full, StandAssigner::undo),
            a -> a.append('a'));
    }

    // ---- promise 34

    private static void whatTheyTell(Edges e) {
        asTheCall(e, "p1.0@1;", a -> a.place(1, 0, 1));
        asTheCall(e, "p0.0@2;", a -> a.place(0, 0, 2));
        asTheCall(e, "l0.0;", a -> a.lift(0, 0));
        asTheCall(e, "d0+71;", a -> a.delay(0, 71));
        asTheCall(e, "t0@150;", a -> a.tow(0, 150));
        asTheCall(e, "a;", StandAssigner::assignAll);
        asTheCalls(e, "t0@150;p0.1@1;l0.0;", a -> a.tow(0, 150) + a.place(0, 1, 1) + a.lift(0, 0));
        asTheCalls(e, "t1@350;p1.1@1;p1.0@0;l1.1;", a -> a.tow(1, 350) + a.place(1, 1, 1) + a.place(1, 0, 0)
            + a.lift(1, 1));
        asTheCalls(e, "l0.0;p1.0@0;a;d1+300;", a -> a.lift(0, 0) + a.place(1, 0, 0) + a.assignAll() + a.delay(1, 300));
        e.refused("in another order", Edges.STATE, () -> typed("p0.1@1;t0@150;"), StandAssigner::read, "input");
        e.refused("nothing of it, the last fails", Edges.STATE, () -> typed("l0.0;d0+300;t1@350;a;l0.1;"),
            StandAssigner::read, "input");
        e.refused("nothing of it, the first fails", Edges.STATE, () -> typed("l1.0;a;"), StandAssigner::read, "input");
        e.refused("nothing of it, it is no text", Edges.ARGUMENT, () -> typed("l0.0;a;x"), StandAssigner::read,
            "input", "error position");
    }

    private static void asTheCall(Edges e, String text, Edges.Call call) {
        e.same(text, () -> Edges.called(EdgesOfTexts::small, call), () -> wasRead(text));
    }

    private static void asTheCalls(Edges e, String text, Edges.Call calls) {
        e.same(text, () -> Edges.called(EdgesOfTexts::small, calls), () -> wasRead(text), "changes");
    }

    private static void emptyAfterwards(Edges e) {
        String[] texts = {"a;", "a;".repeat(30), "", "x", "x".repeat(60), "p0", "l1.0;", "p0.0@0;", "a;a"};
        for (String text : texts) {
            e.is("one character behind " + text, 1, wasRead(text).append('a'));
            StandAssigner a = wasRead(text);
            e.throwing("no text behind " + text, Edges.ARGUMENT, a, StandAssigner::read);
            e.is("which is empty", 0, a.errorPosition());
            e.is("a text behind " + text, 1, Due.readText(wasRead(text), "a;"));
        }
        String[] longer = {"d0+0012;", "t0@0150;", "p0.0@1;", "l0.0;a;"};
        for (String text : longer) {
            for (int length = 0; length < text.length(); length++) {
                StandAssigner a = wasRead(text);
                Edges.outcome(a, b -> Due.readText(b, "x"));
                String start = text.substring(0, length);
                if (!start.endsWith(";")) {
                    e.throwing(start + " behind " + text, Edges.ARGUMENT, a, b -> Due.readText(b, start));
                    e.is("its position", length, a.errorPosition());
                }
            }
        }
    }

    private static void oneChange(Edges e) {
        for (String text : new String[] {"a;", "l0.0;a;t0@150;d1+7;", "a;".repeat(30)}) {
            e.is("changes before " + text, 5, wasRead(text).undo());
            e.same("undone " + text, () -> quiet(""), () -> {
                StandAssigner a = quiet(text);
                a.read();
                a.undo();
                return a;
            });
            StandAssigner one = quiet(text);
            one.read();
            e.is("the only one", 0, one.undo());
            e.throwing("no more", Edges.NOTHING, one, StandAssigner::undo);
        }
        for (String text : new String[] {"", "x", "l1.0;", "a;l0.1;"}) {
            StandAssigner none = quiet(text);
            Edges.outcome(none, StandAssigner::read);
            e.throwing("none by " + text, Edges.NOTHING, none, StandAssigner::undo);
        }
    }

    /** A small one that remembers no change, with a text in its input. */
    private static StandAssigner quiet(String text) {
        StandAssigner a = small();
        a.save();
        a.restore();
        Due.type(a, text);
        return a;
    }

    private static void numberOfEntries(Edges e) {
        e.is("one", 1, typed("a;").read());
        e.is("two", 2, typed("l0.0;a;").read());
        e.is("as many as there is room for", 30, typed("a;".repeat(30)).read());
        e.is("the longest ones", 7, typed("d0+0001;".repeat(7)).read());
        e.is("all of them were done", 107, wasRead("d0+0001;".repeat(7)).turn(0, 1));
    }

    private static void noText(Edges e) {
        String[] texts = {"", " ", "x", "a", "p0.0@0", "a;p", "a;".repeat(29) + "p0", "x".repeat(60), "l9.9;x"};
        int[] positions = {0, 0, 0, 1, 6, 3, 60, 0, 5};
        for (int index = 0; index < texts.length; index++) {
            String text = texts[index];
            e.refused(text, Edges.ARGUMENT, () -> typed(text), StandAssigner::read, "input", "error position");
            e.is("the position kept for " + text, positions[index], wasRead(text).errorPosition());
        }
        StandAssigner a = wasRead("p0.0@0;p0.0@0;x");
        e.throwing("no reason is kept, whatever it tells", Edges.NOTHING, a, StandAssigner::reason);
    }

    private static void failingEntries(Edges e) {
        String[] texts = {"p2.0@0;", "p0.1@0;", "p0.0@3;", "l1.0;", "l2.0;", "l0.1;", "l0.0;l0.0;", "d2+1;", "d0+0;",
            "d0+301;", "d1+300;d1+300;d1+300;d1+211;", "t2@150;", "t0@109;", "t0@181;", "t0@150;t0@150;",
            "a;l1.0;l1.0;", "d0+1;t0@110;"};
        for (String text : texts) {
            e.refused(text, Edges.STATE, () -> typed(text), StandAssigner::read, "input");
        }
        String[] refused = {"p0.0@0;", "p1.0@2;", "p1.0@0;d0+170;p0.0@1;p0.0@0;", "l0.0;p0.0@0;p0.0@0;"};
        int[] reasons = {1, 3, 4, 1};
        for (int index = 0; index < refused.length; index++) {
            String text = refused[index];
            e.refused(text, Edges.STATE, () -> typed(text), StandAssigner::read, "input", "reason");
            e.is("the reason kept for " + text, reasons[index], wasRead(text).reason());
        }
        StandAssigner a = Edges.called(EdgesOfTexts::small, b -> b.setOpen(1, false));
        e.throwing("a closed one", Edges.STATE, a, b -> Due.readText(b, "p0.0@1;"));
        e.is("its reason", 2, a.reason());
        e.throwing("no such stand", Edges.STATE, a, b -> Due.readText(b, "p0.0@9;"));
        e.is("the reason stays", 2, a.reason());
        a.setOpen(1, true);
        a.pair(0, 1, 0);
        a.delay(1, 1);
        e.throwing("a pair", Edges.STATE, a, b -> Due.readText(b, "d0+200;p1.0@1;"));
        e.is("its reason", 5, a.reason());
        e.is("up to 1440", 4, typed("d1+300;d1+300;d1+300;d1+210;").read());
        e.is("what the ones before make possible", 3, typed("l0.0;p0.0@0;d0+1;").read());
        e.is("and by a tow", 2, typed("t0@150;p0.1@1;").read());
    }

    // ---- promise 35

    private static void keptPosition(Edges e) {
        StandAssigner a = wasRead("p0x");
        e.is("kept", 2, a.errorPosition());
        e.is("asked twice", 2, a.errorPosition());
        Due.type(a, "zz");
        e.is("typing more", 2, a.errorPosition());
        Edges.outcome(a, StandAssigner::read);
        e.is("the next one", 0, a.errorPosition());
        Edges.outcome(a, b -> Due.readText(b, "p0.0"));
        e.is("the last one", 4, a.errorPosition());
        Due.readText(a, "a;");
        e.is("a text that is right", 4, a.errorPosition());
        Edges.outcome(a, b -> Due.readText(b, "l0.1;"));
        e.is("one that cannot be done", 4, a.errorPosition());
        a.undo();
        e.is("undoing", 4, a.errorPosition());
        a.save();
        a.restore();
        e.is("restoring", 4, a.errorPosition());
        a.clear();
        e.is("clearing", 4, a.errorPosition());
        Edges.outcome(a, StandAssigner::read);
        e.is("an empty one", 0, a.errorPosition());
    }

    private static void firstAndLastPosition(Edges e) {
        e.is("the first", 0, wasRead("x").errorPosition());
        e.is("the last", 60, wasRead("a;".repeat(29) + "p0").errorPosition());
        e.is("the last sign", 59, wasRead("a;".repeat(29) + "a.").errorPosition());
    }

    private static void noPosition(Edges e) {
        e.refused("a new one", Edges.NOTHING, Airports::empty, StandAssigner::errorPosition);
        e.refused("texts that are right", Edges.NOTHING, () -> wasRead("a;"), StandAssigner::errorPosition);
        e.refused("one that cannot be done", Edges.NOTHING, () -> wasRead("l1.0;"), StandAssigner::errorPosition);
        e.refused("typed, but not read", Edges.NOTHING, () -> typed("x"), StandAssigner::errorPosition);
        e.is("one was kept", 0, wasRead("x").errorPosition());
    }
}
