/** Counts the answers that are not as due; each test makes one and ends with it. */
final class Due {
    interface Call {
        long answer();
    }

    private final String test;
    private int asked;
    private int wrong;

    Due(String test) {
        this.test = test;
    }

    void is(String call, long want, Call got) {
        asked++;
        String answer;
        try {
            answer = Long.toString(got.answer());
        } catch (RuntimeException thrown) {
            answer = thrown.getClass().getSimpleName();
        }
        compare(call, Long.toString(want), answer);
    }

    void refuses(String call, Class<? extends RuntimeException> want, Call got) {
        asked++;
        String answer;
        try {
            answer = Long.toString(got.answer());
        } catch (RuntimeException thrown) {
            answer = thrown.getClass().getSimpleName();
        }
        compare(call, want.getSimpleName(), answer);
    }

    void same(String call, String want, String got) {
        asked++;
        compare(call, want, got);
    }

    private void compare(String call, String want, String got) {
        if (!want.equals(got)) {
            wrong++;
            if (wrong <= 20) {
                System.out.println(test + ": " + call + " answered " + got + ", due is " + want);
            }
        }
    }

    void end() {
        System.out.println(test + ": " + asked + " answers, " + wrong + " not as due");
        if (wrong != 0 || asked == 0) {
            System.exit(1);
        }
    }

    static int type(StandAssigner airport, String text) {
        int length = 0;
        for (char character : text.toCharArray()) {
            length = airport.append(character);
        }
        return length;
    }

    static int readText(StandAssigner airport, String text) {
        type(airport, text);
        return airport.read();
    }
}
