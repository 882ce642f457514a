import java.util.NoSuchElementException;

/** Promises 10 to 21. */
public final class TurnsTest {
    private static final Class<IndexOutOfBoundsException> INDEX = IndexOutOfBoundsException.class;
    private static final Class<IllegalArgumentException> ARGUMENT = IllegalArgumentException.class;
    private static final Class<IllegalStateException> STATE = IllegalStateException.class;
    private static final Class<NoSuchElementException> NOTHING = NoSuchElementException.class;
    private static final Class<UnsupportedOperationException> REFUSED = UnsupportedOperationException.class;
    private static final int FAR = Integer.MAX_VALUE;
    private static final Due due = new Due("TurnsTest");

    public static void main(String[] args) {
        addingTurns();
        numbersOfTurns();
        numbersOfStays();
        conflictsOfStays();
        placing();
        refusing();
        reasonOrder();
        ownStays();
        optionsAndCheapest();
        lifting();
        towing();
        untowing();
        delaying();
        delayingTows();
        due.end();
    }

    private static void addingTurns() {
        StandAssigner a = new StandAssigner();
        due.refuses("10: size -1", ARGUMENT, () -> a.addTurn(-1, 0, 60, 1));
        due.refuses("10: size 4", ARGUMENT, () -> a.addTurn(4, 0, 60, 1));
        due.refuses("10: arrival -1", ARGUMENT, () -> a.addTurn(0, -1, 60, 1));
        due.refuses("10: departure 1441", ARGUMENT, () -> a.addTurn(0, 0, 1441, 1));
        due.refuses("10: weight 0", ARGUMENT, () -> a.addTurn(0, 0, 60, 0));
        due.refuses("10: weight 10", ARGUMENT, () -> a.addTurn(0, 0, 60, 10));
        due.refuses("10: 29 minutes", ARGUMENT, () -> a.addTurn(0, 31, 60, 1));
        due.refuses("10: far apart", ARGUMENT, () -> a.addTurn(0, Integer.MIN_VALUE, FAR, 1));
        due.refuses("10: backwards", ARGUMENT, () -> a.addTurn(0, FAR, Integer.MIN_VALUE, 1));
        due.is("10: 30 minutes", 0, () -> a.addTurn(0, 30, 60, 1));
        due.is("10: its stay is on no stand", -1, () -> a.ofStay(0, 0, 2));
        due.is("10: without a tow", -1, () -> a.turn(0, 4));
        for (int turn = 1; turn < 10; turn++) {
            int number = turn;
            due.is("10: turn " + turn, turn, () -> a.addTurn(3, 0, 1440, number));
        }
        due.refuses("10: an eleventh", STATE, () -> a.addTurn(0, 30, 60, 1));
        due.refuses("10: a wrong eleventh", ARGUMENT, () -> a.addTurn(0, 31, 60, 1));
    }

    private static void numbersOfTurns() {
        StandAssigner a = new StandAssigner();
        a.addStand(1, 3);
        a.addStand(2, 3);
        a.addTurn(2, 100, 300, 7);
        due.refuses("11: no turn", INDEX, () -> a.turn(1, 0));
        due.refuses("11: no turn comes first", INDEX, () -> a.turn(-1, 6));
        due.refuses("11: what -1", ARGUMENT, () -> a.turn(0, -1));
        due.refuses("11: what 6", ARGUMENT, () -> a.turn(0, 6));
        int[] want = {2, 100, 300, 7, -1, 140};
        for (int what = 0; what < want.length; what++) {
            int asked = what;
            due.is("11: turn(0, " + what + ")", want[what], () -> a.turn(0, asked));
        }
        a.place(0, 0, 0);
        due.is("11: on an apron", 14, () -> a.turn(0, 5));
        a.tow(0, 200);
        due.is("11: the tow", 200, () -> a.turn(0, 4));
        due.is("11: with a tow", 14 + 10 + 140, () -> a.turn(0, 5));
        a.place(0, 1, 1);
        due.is("11: the other on a remote stand", 14 + 10 + 35, () -> a.turn(0, 5));
    }

    private static void numbersOfStays() {
        StandAssigner a = new StandAssigner();
        a.addStand(0, 3);
        a.addStand(2, 3);
        a.addTurn(2, 100, 300, 7);
        a.place(0, 0, 1);
        due.refuses("12: no turn", INDEX, () -> a.ofStay(1, 0, 0));
        due.refuses("12: no stay 1", INDEX, () -> a.ofStay(0, 1, 0));
        due.refuses("12: no stay comes first", INDEX, () -> a.ofStay(0, 1, 9));
        due.refuses("12: stay -1", INDEX, () -> a.ofStay(0, -1, 0));
        due.refuses("12: what 6", ARGUMENT, () -> a.ofStay(0, 0, 6));
        due.refuses("12: what -1", ARGUMENT, () -> a.ofStay(0, 0, -1));
        due.is("12: beginning", 100, () -> a.ofStay(0, 0, 0));
        due.is("12: end", 300, () -> a.ofStay(0, 0, 1));
        due.is("12: stand", 1, () -> a.ofStay(0, 0, 2));
        due.is("12: cost", 35, () -> a.ofStay(0, 0, 3));
        due.is("12: conflicts", 0, () -> a.ofStay(0, 0, 4));
        due.is("12: hindered", 0, () -> a.ofStay(0, 0, 5));
        a.tow(0, 200);
        due.refuses("12: stay 2", INDEX, () -> a.ofStay(0, 2, 0));
        due.is("12: end of stay 0", 200, () -> a.ofStay(0, 0, 1));
        due.is("12: beginning of stay 1", 210, () -> a.ofStay(0, 1, 0));
        due.is("12: end of stay 1", 300, () -> a.ofStay(0, 1, 1));
        due.is("12: stand of stay 1", -1, () -> a.ofStay(0, 1, 2));
        due.is("12: cost on none", 140, () -> a.ofStay(0, 1, 3));
        a.setOpen(1, false);
        due.is("12: hindered on a closed stand", 1, () -> a.ofStay(0, 0, 5));
        due.is("12: hindered costs the same", 35, () -> a.ofStay(0, 0, 3));
        due.is("12: none is not hindered", 0, () -> a.ofStay(0, 1, 5));
        a.place(0, 1, 0);
        due.is("12: a gate costs nothing", 0, () -> a.ofStay(0, 1, 3));
    }

    private static void conflictsOfStays() {
        StandAssigner a = new StandAssigner();
        a.addStand(0, 3);
        a.setBuffer(0);
        a.addTurn(0, 0, 60, 1);
        a.addTurn(0, 60, 120, 1);
        a.addTurn(0, 120, 180, 1);
        a.place(0, 0, 0);
        a.place(1, 0, 0);
        a.place(2, 0, 0);
        a.setBuffer(60);
        due.is("12: the middle one", 1 + 16, () -> a.ofStay(1, 0, 4));
        due.is("12: just the buffer", 4, () -> a.ofStay(0, 0, 4));
        due.is("12: two pairs", 2, a::conflicts);
        a.lift(1, 0);
        due.is("12: none is not in conflict", 0, () -> a.ofStay(1, 0, 4));
    }

    private static void placing() {
        StandAssigner a = new StandAssigner();
        a.addStand(0, 3);
        a.addStand(0, 3);
        a.addTurn(1, 0, 60, 1);
        due.refuses("13: no turn", INDEX, () -> a.place(1, 0, 0));
        due.refuses("13: no stay", INDEX, () -> a.place(0, 1, 0));
        due.refuses("13: no stand", INDEX, () -> a.place(0, 0, 2));
        due.refuses("13: stand -1", INDEX, () -> a.place(0, 0, -1));
        due.is("13: from none", -1, () -> a.place(0, 0, 1));
        due.is("13: from another", 1, () -> a.place(0, 0, 0));
        due.is("13: it is there", 0, () -> a.ofStay(0, 0, 2));
        due.refuses("13: there already", REFUSED, () -> a.place(0, 0, 0));
        due.is("13: the reason", 1, a::reason);
        due.is("13: it remains", 0, () -> a.ofStay(0, 0, 2));
    }

    private static void refusing() {
        StandAssigner a = new StandAssigner();
        a.addStand(0, 1);
        a.addStand(0, 3);
        a.addStand(0, 3);
        a.addTurn(2, 100, 200, 1);
        a.addTurn(2, 214, 300, 1);
        a.addTurn(2, 215, 300, 1);
        a.addTurn(2, 150, 180, 1);
        a.place(0, 0, 1);
        a.pair(1, 2, 3);
        due.refuses("14: no turn", INDEX, () -> a.whyNot(4, 0, 0));
        due.refuses("14: no stay", INDEX, () -> a.whyNot(0, 1, 0));
        due.refuses("14: no stand", INDEX, () -> a.whyNot(0, 0, 3));
        due.is("14: already", 1, () -> a.whyNot(0, 0, 1));
        due.is("14: too small", 3, () -> a.whyNot(0, 0, 0));
        due.is("14: no buffer", 4, () -> a.whyNot(1, 0, 1));
        due.is("14: just the buffer", 0, () -> a.whyNot(2, 0, 1));
        due.is("14: the pair", 5, () -> a.whyNot(3, 0, 2));
        due.is("14: the pair has no buffer", 0, () -> a.whyNot(1, 0, 2));
        due.is("14: as if on no stand before", 0, () -> a.whyNot(0, 0, 2));
        due.refuses("18: nothing was kept by whyNot", NOTHING, a::reason);
        a.setOpen(2, false);
        due.is("14: closed", 2, () -> a.whyNot(3, 0, 2));
        int[] reasons = {3, 4, 2};
        for (int stand = 0; stand < 3; stand++) {
            int asked = stand;
            due.refuses("13: refused on " + stand, REFUSED, () -> a.place(3, 0, asked));
            due.is("18: the reason for " + stand, reasons[stand], a::reason);
        }
        due.is("18: whyNot keeps none", 0, () -> a.whyNot(2, 0, 1));
        due.is("18: the reason stays", 2, a::reason);
        a.undo();
        due.is("18: also when undone", 2, a::reason);
    }

    private static void reasonOrder() {
        StandAssigner a = new StandAssigner();
        a.addStand(0, 3);
        a.addStand(0, 3);
        a.addTurn(3, 0, 60, 1);
        a.addTurn(3, 0, 60, 1);
        a.place(0, 0, 0);
        a.place(1, 0, 1);
        a.pair(0, 1, 0);
        a.setOpen(0, false);
        due.is("14: 1 before 2", 1, () -> a.whyNot(0, 0, 0));
        due.is("14: 2 before 4", 2, () -> a.whyNot(1, 0, 0));
        a.addTurn(3, 30, 90, 1);
        due.is("14: 4 before 5", 4, () -> a.whyNot(2, 0, 1));
        a.addStand(2, 2);
        a.setOpen(2, false);
        due.is("14: 2 before 3", 2, () -> a.whyNot(2, 0, 2));
    }

    private static void ownStays() {
        StandAssigner a = new StandAssigner();
        a.addStand(0, 3);
        a.addStand(0, 3);
        a.pair(0, 1, 0);
        a.addTurn(3, 0, 100, 1);
        a.place(0, 0, 0);
        a.tow(0, 50);
        due.is("14: both on a pair", 0, () -> a.whyNot(0, 1, 1));
        due.is("14: both on one stand", 4, () -> a.whyNot(0, 1, 0));
        a.setBuffer(10);
        due.is("14: with buffer 10", 0, () -> a.whyNot(0, 1, 0));
        a.place(0, 1, 0);
        due.is("12: no conflict", 0, a::conflicts);
        a.setBuffer(11);
        due.is("12: with buffer 11", 2, () -> a.ofStay(0, 0, 4));
        due.is("12: the other", 1, () -> a.ofStay(0, 1, 4));
    }

    private static void optionsAndCheapest() {
        StandAssigner a = new StandAssigner();
        a.addStand(2, 3);
        a.addStand(1, 3);
        a.addStand(1, 3);
        a.addStand(0, 0);
        a.addTurn(1, 0, 60, 1);
        due.refuses("15: no turn", INDEX, () -> a.options(1, 0));
        due.refuses("15: no stay", INDEX, () -> a.options(0, 1));
        due.refuses("16: no turn", INDEX, () -> a.cheapest(-1, 0));
        due.refuses("16: no stay", INDEX, () -> a.cheapest(0, 1));
        due.is("15: without the small one", 7, () -> a.options(0, 0));
        due.is("16: of several the lowest", 1, () -> a.cheapest(0, 0));
        a.place(0, 0, 1);
        due.is("15: without its own", 5, () -> a.options(0, 0));
        due.is("16: not its own", 2, () -> a.cheapest(0, 0));
        a.setOpen(2, false);
        due.is("15: without closed ones", 1, () -> a.options(0, 0));
        due.is("16: a remote one at last", 0, () -> a.cheapest(0, 0));
        a.setOpen(0, false);
        due.is("15: none", 0, () -> a.options(0, 0));
        due.refuses("16: none", NOTHING, () -> a.cheapest(0, 0));
        due.is("16: a gate above all", 4, () -> a.addStand(0, 3));
        a.setOpen(0, true);
        due.is("16: it is that", 4, () -> a.cheapest(0, 0));
        a.place(0, 0, 4);
        a.addTurn(0, 0, 60, 1);
        a.addTurn(3, 300, 360, 1);
        due.is("15: a later turn", 1 + 2 + 8, () -> a.options(1, 0));
        due.is("16: a later turn", 3, () -> a.cheapest(1, 0));
        a.tow(2, 320);
        due.is("15: its stay 1", 1 + 2 + 16, () -> a.options(2, 1));
        due.is("16: its stay 1", 4, () -> a.cheapest(2, 1));
    }

    private static void lifting() {
        StandAssigner a = new StandAssigner();
        a.addStand(0, 3);
        a.addTurn(1, 0, 60, 1);
        due.refuses("17: no turn", INDEX, () -> a.lift(1, 0));
        due.refuses("17: no stay", INDEX, () -> a.lift(0, 1));
        due.refuses("17: on no stand", STATE, () -> a.lift(0, 0));
        a.place(0, 0, 0);
        due.is("17: lifted", 0, () -> a.lift(0, 0));
        due.is("17: on none then", -1, () -> a.ofStay(0, 0, 2));
        due.refuses("17: once", STATE, () -> a.lift(0, 0));
        due.refuses("18: no reason", NOTHING, a::reason);
    }

    private static void towing() {
        StandAssigner a = new StandAssigner();
        a.addStand(0, 3);
        a.addTurn(1, 100, 130, 1);
        a.addTurn(1, 300, 400, 1);
        a.place(0, 0, 0);
        due.refuses("19: no turn", INDEX, () -> a.tow(2, 110));
        due.refuses("19: no turn comes first", INDEX, () -> a.tow(-1, FAR));
        due.refuses("19: too early", ARGUMENT, () -> a.tow(0, 109));
        due.refuses("19: too late", ARGUMENT, () -> a.tow(0, 111));
        due.refuses("19: far", ARGUMENT, () -> a.tow(0, FAR));
        due.refuses("19: far below", ARGUMENT, () -> a.tow(0, Integer.MIN_VALUE));
        due.is("19: the only minute", 10, () -> a.tow(0, 110));
        due.refuses("19: it has a tow", STATE, () -> a.tow(0, 110));
        due.refuses("19: the minute comes first", ARGUMENT, () -> a.tow(0, 111));
        due.is("19: stay 0 remains", 0, () -> a.ofStay(0, 0, 2));
        due.is("19: stay 1 on none", -1, () -> a.ofStay(0, 1, 2));
        due.is("19: latest", 10, () -> a.tow(1, 380));
        a.untow(1);
        due.is("19: earliest", 80, () -> a.tow(1, 310));
        due.is("19: also on none", -1, () -> a.ofStay(1, 0, 2));
    }

    private static void untowing() {
        StandAssigner a = new StandAssigner();
        a.addStand(0, 3);
        a.addStand(0, 3);
        a.addTurn(1, 0, 200, 1);
        a.addTurn(1, 150, 250, 1);
        due.refuses("20: no turn", INDEX, () -> a.untow(2));
        due.refuses("20: no tow", STATE, () -> a.untow(0));
        a.place(0, 0, 0);
        a.tow(0, 100);
        due.is("20: on none", -1, () -> a.untow(0));
        a.tow(0, 100);
        a.place(0, 1, 1);
        a.place(1, 0, 0);
        due.is("20: on a stand", 1, () -> a.untow(0));
        due.is("20: where stay 0 was", 0, () -> a.ofStay(0, 0, 2));
        due.is("20: its end", 200, () -> a.ofStay(0, 0, 1));
        due.is("20: without a tow", -1, () -> a.turn(0, 4));
        due.is("20: a conflict comes", 1, a::conflicts);
        due.is("20: nothing is left there", 0, () -> a.stand(1, 4));
        a.lift(0, 0);
        a.tow(0, 100);
        due.is("20: stay 1 is on none again", -1, () -> a.ofStay(0, 1, 2));
        a.place(0, 1, 1);
        due.is("20: stay 0 on none", 1, () -> a.untow(0));
        due.is("20: stays on none", -1, () -> a.ofStay(0, 0, 2));
    }

    private static void delaying() {
        StandAssigner a = new StandAssigner();
        a.addStand(0, 3);
        a.addTurn(1, 100, 160, 1);
        a.addTurn(1, 1100, 1440, 1);
        a.place(0, 0, 0);
        due.refuses("21: no turn", INDEX, () -> a.delay(2, 10));
        due.refuses("21: no turn comes first", INDEX, () -> a.delay(2, 0));
        due.refuses("21: 0 minutes", ARGUMENT, () -> a.delay(0, 0));
        due.refuses("21: 301 minutes", ARGUMENT, () -> a.delay(0, 301));
        due.refuses("21: far", ARGUMENT, () -> a.delay(0, FAR));
        due.is("21: not later", 0, () -> a.delay(0, 30));
        due.is("21: its arrival", 130, () -> a.turn(0, 1));
        due.is("21: its departure", 160, () -> a.turn(0, 2));
        due.is("21: one minute", 1, () -> a.delay(0, 1));
        due.is("21: 300 minutes", 300, () -> a.delay(0, 300));
        due.is("21: it remains", 0, () -> a.ofStay(0, 0, 2));
        due.is("21: up to the last minute", 0, () -> a.delay(1, 300));
        due.is("21: ten more", 0, () -> a.delay(1, 10));
        due.refuses("21: too late", STATE, () -> a.delay(1, 1));
        due.is("21: nothing is changed", 1410, () -> a.turn(1, 1));
    }

    private static void delayingTows() {
        StandAssigner a = new StandAssigner();
        a.addTurn(1, 100, 200, 1);
        a.tow(0, 150);
        due.is("21: the tow stays", 0, () -> a.delay(0, 40));
        due.is("21: at its minute", 150, () -> a.turn(0, 4));
        due.is("21: one more", 0, () -> a.delay(0, 1));
        due.is("21: later by one", 151, () -> a.turn(0, 4));
        due.is("21: to 20 after it", 0, () -> a.delay(0, 29));
        due.is("21: at 180", 180, () -> a.turn(0, 4));
        due.is("21: the departure follows", 5, () -> a.delay(0, 5));
        due.is("21: departure", 205, () -> a.turn(0, 2));
        a.addTurn(1, 1300, 1430, 1);
        a.tow(1, 1410);
        due.is("21: a late tow", 0, () -> a.delay(1, 100));
        due.refuses("21: too late with a tow", STATE, () -> a.delay(1, 11));
        due.is("21: at last", 10, () -> a.delay(1, 10));
    }
}
