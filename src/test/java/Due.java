/** Counts the answers that are not as due; each test makes one and ends with it. */
final class Due {
    interface Call {
        long answer();
    }

    private final String test;
    private int asked;
    private int wrong;

    Due(String test) {
        this.test = test;
    }

    void is(String call, long want, Call got) {
        asked++;
        String answer;
        try {
            answer = Long.toString(got.answer());
        } catch (RuntimeException thrown) {
            answer = thrown.getClass().getSimpleName();
        }
        compare(call, Long.toString(want), answer);
    }

    void refuses(String call, Class<? extends RuntimeException> want, Call got) {
        asked++;
        String answer;
        try {
            answer = Long.toString(got.answer());
        } catch (RuntimeException thrown) {
            answer = thrown.getClass().getSimpleName();
        }
        compare(call, want.getSimpleName(), answer);
    }

    void same(String call, String want, String got) {
        asked++;
        compare(call, want, got);
    }

    private void compare(String call, String want, String got) {
        if (!want.equals(got)) {
            wrong++;
            if (wrong <= 20) {
                System.out.println(test + ": " + call + " answered " + got + ", due is " + want);
            }
        }
    }

    void end() {
        System.out.println(test + ": " + asked + " answers, " + wrong + " not as due");
        if (wrong != 0 || asked == 0) {
            System.exit(1);
        }
    }

    /** A number of all that an airport remembers for a change, but the buffer: only questions are asked. */
    static long stateOf(StandAssigner airport) {
        long state = 0;
        for (int account = 0; account <= 10; account++) {
            state = 31 * state + airport.account(account);
        }
        for (int stand = 0; stand < airport.account(0); stand++) {
            for (int what = 0; what <= 6; what++) {
                state = 31 * state + airport.stand(stand, what);
            }
        }
        for (int turn = 0; turn < airport.account(1); turn++) {
            for (int what = 0; what <= 5; what++) {
                state = 31 * state + airport.turn(turn, what);
                state = 31 * state + airport.ofStay(turn, 0, what);
                state = 31 * state + (airport.turn(turn, 4) < 0 ? 0 : airport.ofStay(turn, 1, what));
            }
        }
        return state;
    }

    static int type(StandAssigner airport, String text) {
        int length = 0;
        for (char character : text.toCharArray()) {
            length = airport.append(character);
        }
        return length;
    }

    static int readText(StandAssigner airport, String text) {
        type(airport, text);
        return airport.read();
    }
}
