import java.util.Random;

/** Runs of 512 calls on new objects; each answer is compared with that of Model. */
public final class RandomRunsTest {
    private static final int RUNS = 400;
    private static final int CALLS = 512;

    private final Due due;
    private final Random random;
    private final int run;
    private final int mostStands;
    private final int mostTurns;
    private final boolean isCrowded;
    private final StandAssigner airport = new StandAssigner();
    private final Model model = new Model();
    private int calls;

    private RandomRunsTest(Due due, int run) {
        this.due = due;
        this.run = run;
        random = new Random(run);
        mostStands = 1 + random.nextInt(9);
        mostTurns = 1 + random.nextInt(11);
        isCrowded = random.nextBoolean();
    }

    public static void main(String[] args) {
        Due due = new Due("RandomRunsTest");
        int runs = args.length > 0 ? Integer.parseInt(args[0]) : RUNS;
        for (int run = 0; run < runs; run++) {
            new RandomRunsTest(due, run).play();
        }
        due.end();
    }

    private interface Call {
        Object answer();
    }

    private void same(String call, Call got, Call want) {
        calls++;
        due.same("run " + run + ", call " + calls + ": " + call, outcome(want), outcome(got));
    }

    private static String outcome(Call call) {
        try {
            return String.valueOf(call.answer());
        } catch (RuntimeException thrown) {
            return thrown.getClass().getName();
        }
    }

    private void play() {
        for (int stand = 0; stand < mostStands; stand++) {
            addStand();
        }
        for (int turn = 0; turn < mostTurns; turn++) {
            addTurn();
        }
        while (calls < CALLS - 12) {
            int kind = random.nextInt(100);
            if (kind < 40) {
                change(random.nextInt(16));
            } else if (kind < (isCrowded ? 43 : 55)) {
                type();
            } else if (kind < 60) {
                remember(random.nextInt(8));
            } else {
                ask(random.nextInt(18));
            }
        }
    }

    private int some(int bound) {
        int odd = random.nextInt(60);
        if (odd == 0) {
            return random.nextInt();
        }
        return odd == 1 ? bound : odd == 2 ? -1 : random.nextInt(Math.max(1, bound));
    }

    private int aStand() {
        return some(mostStands);
    }

    private int aTurn() {
        return some(mostTurns);
    }

    private int aStay() {
        return random.nextInt(30) == 0 ? random.nextInt(4) - 1 : random.nextInt(2);
    }

    private int aMinute() {
        return random.nextInt(40) == 0 ? some(1442) : random.nextInt(4) == 0 ? some(1441) : 10 * random.nextInt(60);
    }

    private void addStand() {
        int kind = random.nextInt(40) == 0 ? some(4) : random.nextInt(3);
        int size = random.nextInt(40) == 0 ? some(5) : Math.max(random.nextInt(4), random.nextInt(4));
        same("addStand(" + kind + ", " + size + ")", () -> airport.addStand(kind, size),
            () -> model.addStand(kind, size));
    }

    private void addTurn() {
        int size = random.nextInt(40) == 0 ? some(5) : random.nextInt(4);
        int arrival = random.nextInt(30) == 0 ? some(1441) : 10 * random.nextInt(isCrowded ? 25 : 60);
        int length = random.nextInt(10) == 0 ? random.nextInt(40) : 30 + 5 * random.nextInt(40);
        int weight = random.nextInt(40) == 0 ? some(11) : 1 + random.nextInt(9);
        same("addTurn(" + size + ", " + arrival + ", " + (arrival + length) + ", " + weight + ")",
            () -> airport.addTurn(size, arrival, arrival + length, weight),
            () -> model.addTurn(size, arrival, arrival + length, weight));
    }

    private void change(int which) {
        int turn = aTurn();
        int stay = aStay();
        int stand = aStand();
        int other = aStand();
        int minute = aMinute();
        boolean open = random.nextInt(4) > 0;
        int limit = random.nextInt(isCrowded ? 20 : 3) == 0 ? -1
            : random.nextInt(20) == 0 ? some(8) : random.nextInt(isCrowded ? 5 : 7);
        int buffer = random.nextInt(20) == 0 ? some(62) : 5 * random.nextInt(7);
        int minutes = random.nextInt(20) == 0 ? some(302) : 1 + random.nextInt(60);
        switch (which) {
            case 0 -> same("pair(" + stand + ", " + other + ", " + limit + ")",
                () -> airport.pair(stand, other, limit), () -> model.pair(stand, other, limit));
            case 1 -> same("setOpen(" + stand + ", " + open + ")",
                () -> airport.setOpen(stand, open), () -> model.setOpen(stand, open));
            case 2 -> same("setBuffer(" + buffer + ")",
                () -> airport.setBuffer(buffer), () -> model.setBuffer(buffer));
            case 3, 4, 5 -> same("place(" + turn + ", " + stay + ", " + stand + ")",
                () -> airport.place(turn, stay, stand), () -> model.place(turn, stay, stand));
            case 6 -> same("lift(" + turn + ", " + stay + ")",
                () -> airport.lift(turn, stay), () -> model.lift(turn, stay));
            case 7, 8 -> tow(turn);
            case 9 -> same("untow(" + turn + ")", () -> airport.untow(turn), () -> model.untow(turn));
            case 10, 11 -> same("delay(" + turn + ", " + minutes + ")",
                () -> airport.delay(turn, minutes), () -> model.delay(turn, minutes));
            case 12, 13 -> same("assignAll()", airport::assignAll, model::assignAll);
            case 14 -> same("repair()", airport::repair, model::repair);
            default -> {
                if (random.nextInt(4) == 0) {
                    addTurn();
                } else {
                    same("gap(" + stand + ", " + minute + ")",
                        () -> airport.gap(stand, minute), () -> model.gap(stand, minute));
                }
            }
        }
    }

    private int towMinute(int turn) {
        if (random.nextInt(10) == 0) {
            return aMinute();
        }
        try {
            int arrival = model.turn(turn, 1);
            return arrival + 8 + random.nextInt(model.turn(turn, 2) - arrival - 25);
        } catch (RuntimeException thrown) {
            return aMinute();
        }
    }

    private void tow(int turn) {
        int minute = towMinute(turn);
        same("tow(" + turn + ", " + minute + ")", () -> airport.tow(turn, minute), () -> model.tow(turn, minute));
    }

    private void towGain(int turn) {
        int minute = towMinute(turn);
        same("towGain(" + turn + ", " + minute + ")",
            () -> airport.towGain(turn, minute), () -> model.towGain(turn, minute));
    }

    private void ask(int which) {
        int turn = aTurn();
        int stay = aStay();
        int stand = aStand();
        int minute = aMinute();
        int what = random.nextInt(30) == 0 ? some(13) : random.nextInt(7);
        boolean flag = random.nextBoolean();
        switch (which) {
            case 0, 1 -> same("stand(" + stand + ", " + what + ")",
                () -> airport.stand(stand, what), () -> model.stand(stand, what));
            case 2 -> same("at(" + stand + ", " + minute + ")",
                () -> airport.at(stand, minute), () -> model.at(stand, minute));
            case 3 -> same("gap(" + stand + ", " + minute + ")",
                () -> airport.gap(stand, minute), () -> model.gap(stand, minute));
            case 4 -> same("turn(" + turn + ", " + what + ")",
                () -> airport.turn(turn, what), () -> model.turn(turn, what));
            case 5, 6 -> same("ofStay(" + turn + ", " + stay + ", " + what + ")",
                () -> airport.ofStay(turn, stay, what), () -> model.ofStay(turn, stay, what));
            case 7 -> same("whyNot(" + turn + ", " + stay + ", " + stand + ")",
                () -> airport.whyNot(turn, stay, stand), () -> model.whyNot(turn, stay, stand));
            case 8 -> same("options(" + turn + ", " + stay + ")",
                () -> airport.options(turn, stay), () -> model.options(turn, stay));
            case 9 -> same("cheapest(" + turn + ", " + stay + ")",
                () -> airport.cheapest(turn, stay), () -> model.cheapest(turn, stay));
            case 10 -> same("reason()", airport::reason, model::reason);
            case 11 -> towGain(turn);
            case 12 -> repairs();
            case 13 -> same("conflicts()", airport::conflicts, model::conflicts);
            case 14 -> same("minutes()", airport::minutes, model::minutes);
            case 15 -> same("peak(" + flag + ")", () -> airport.peak(flag), () -> model.peak(flag));
            case 16 -> same("meanCost()", airport::meanCost, model::meanCost);
            default -> {
                int account = random.nextInt(30) == 0 ? some(12) : random.nextInt(11);
                same("account(" + account + ")", () -> airport.account(account), () -> model.account(account));
            }
        }
    }

    private void repairs() {
        same("leastMoves()", airport::leastMoves, model::leastMoves);
        same("leastAgain()", airport::leastAgain, model::leastMoves);
        int move = random.nextInt(20) == 0 ? some(4) : random.nextInt(3);
        boolean isStand = random.nextBoolean();
        same("moveOf(" + move + ", " + isStand + ")",
            () -> airport.moveOf(move, isStand), () -> model.moveOf(move, isStand));
    }

    private void remember(int which) {
        switch (which) {
            case 0 -> same("save()", airport::save, model::save);
            case 1 -> same("restore()", airport::restore, model::restore);
            case 2 -> {
                if (random.nextInt(12) == 0) {
                    same("clear()", airport::clear, model::clear);
                    play(mostStands + mostTurns);
                }
            }
            case 3 -> same("errorPosition()", airport::errorPosition, model::errorPosition);
            default -> same("undo()", airport::undo, model::undo);
        }
    }

    private void play(int additions) {
        for (int addition = 0; addition < additions && calls < CALLS - 20; addition++) {
            if (addition < mostStands) {
                addStand();
            } else {
                addTurn();
            }
        }
    }

    private String anEntry() {
        int minute = random.nextInt(10000);
        switch (random.nextInt(6)) {
            case 0:
                return "p" + random.nextInt(mostTurns) % 10 + "." + random.nextInt(2) + "@"
                    + random.nextInt(mostStands) + ";";
            case 1:
                return "l" + random.nextInt(mostTurns) % 10 + "." + random.nextInt(2) + ";";
            case 2:
                return "d" + random.nextInt(mostTurns) % 10 + "+" + random.nextInt(50) + ";";
            case 3:
                return "t" + random.nextInt(mostTurns) % 10 + "@"
                    + String.valueOf(10000 + minute % 600).substring(1 + random.nextInt(2)) + ";";
            case 4:
                return "d" + random.nextInt(10) + "+" + minute + ";";
            default:
                return "a;";
        }
    }

    private void type() {
        StringBuilder text = new StringBuilder();
        int entries = random.nextInt(3) + random.nextInt(2);
        for (int entry = 0; entry < entries; entry++) {
            text.append(anEntry());
        }
        if (random.nextInt(5) == 0 && text.length() > 0) {
            int index = random.nextInt(text.length());
            if (random.nextBoolean()) {
                text.setLength(index);
            } else {
                text.setCharAt(index, "pldta.@+;0123456789 ~".charAt(random.nextInt(21)));
            }
        }
        if (calls + text.length() >= CALLS - 12) {
            return;
        }
        for (char character : text.toString().toCharArray()) {
            same("append(" + character + ")", () -> airport.append(character), () -> model.append(character));
        }
        if (random.nextInt(30) > 0) {
            same("read() of " + text, airport::read, model::read);
        }
    }
}
