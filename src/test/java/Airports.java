/** Airports for the tests of the document's sentences. */
final class Airports {
    private Airports() {
    }

    static StandAssigner empty() {
        return new StandAssigner();
    }

    /** Gates of size 3, and turns of size 1 and weight 1 that follow each other, from minute 100 times their number. */
    static StandAssigner of(int stands, int turns) {
        StandAssigner a = new StandAssigner();
        for (int stand = 0; stand < stands; stand++) {
            a.addStand(0, 3);
        }
        for (int turn = 0; turn < turns; turn++) {
            a.addTurn(1, 100 * turn, 100 * turn + 60, 1);
        }
        return a;
    }

    /** One gate, and one turn from minute 100 to 200 on it. */
    static StandAssigner one() {
        StandAssigner a = of(1, 0);
        a.addTurn(1, 100, 200, 1);
        a.place(0, 0, 0);
        return a;
    }

    /** The same with a tow at minute 150; stay 1 is on no stand. */
    static StandAssigner towed() {
        StandAssigner a = one();
        a.tow(0, 150);
        return a;
    }

    /** Something of everything: a tow, a hindered stay, conflicts, a repair, six changes, and all that is kept. */
    static StandAssigner busy() {
        StandAssigner a = new StandAssigner();
        a.addStand(0, 3);
        a.addStand(1, 2);
        a.addStand(2, 3);
        a.addTurn(2, 100, 200, 3);
        a.addTurn(1, 250, 400, 5);
        a.addTurn(3, 420, 500, 2);
        a.place(0, 0, 0);
        a.save();
        a.setOpen(0, false);
        a.repair();
        a.pair(1, 2, 2);
        a.tow(1, 300);
        a.place(1, 0, 1);
        a.place(1, 1, 2);
        Edges.outcome(a, airport -> airport.place(2, 0, 1));
        Edges.outcome(a, airport -> Due.readText(airport, "p0x"));
        a.delay(0, 110);
        a.setOpen(2, false);
        a.setBuffer(25);
        Due.type(a, "a;l1");
        return a;
    }

    /** 8 stands of all kinds, 10 turns, each with a tow and both stays on stands. */
    static StandAssigner full() {
        StandAssigner a = new StandAssigner();
        for (int stand = 0; stand < 8; stand++) {
            a.addStand(stand % 3, 3);
        }
        for (int turn = 0; turn < 10; turn++) {
            a.addTurn(turn % 4, 100 * turn, 100 * turn + 80, 1 + turn % 9);
            a.tow(turn, 100 * turn + 40);
            a.place(turn, 0, turn % 8);
            a.place(turn, 1, (turn + 1) % 8);
        }
        return a;
    }
}
