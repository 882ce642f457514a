/** Promises 29 to 32. */
public final class AccountsTest {
    private static final Due due = new Due("AccountsTest");

    public static void main(String[] args) {
        accounts();
        remoteWeights();
        peaks();
        means();
        due.end();
    }

    private static void accounts() {
        StandAssigner a = new StandAssigner();
        a.addStand(0, 3);
        a.addStand(1, 1);
        a.addStand(2, 3);
        a.addTurn(1, 0, 100, 2);
        a.addTurn(1, 50, 200, 3);
        a.addTurn(1, 60, 90, 4);
        a.tow(1, 90);
        a.place(0, 0, 0);
        a.place(1, 0, 1);
        a.place(1, 1, 2);
        a.setOpen(0, false);
        int[] want = {3, 3, 4, 3, 0 + 6 + 15 + 80 + 10, 1, 100 + 140 + 30, 240, 1, 0, 3};
        for (int account = 0; account < want.length; account++) {
            int asked = account;
            due.is("29: account(" + account + ")", want[account], () -> a.account(asked));
        }
        due.refuses("29: -1", IllegalArgumentException.class, () -> a.account(-1));
        due.refuses("29: 11", IllegalArgumentException.class, () -> a.account(11));
        due.is("30: minutes", 240, a::minutes);
        a.lift(0, 0);
        due.is("29: no stay on none is hindered", 0, () -> a.account(8));
        due.is("30: fewer minutes", 140, a::minutes);
        due.is("29: and by the first way", 140, () -> a.account(7));
    }

    private static void remoteWeights() {
        StandAssigner a = new StandAssigner();
        a.addStand(2, 3);
        a.addStand(2, 3);
        a.addTurn(1, 0, 100, 7);
        a.place(0, 0, 0);
        due.is("29: one stay", 7, () -> a.account(10));
        a.tow(0, 50);
        a.place(0, 1, 1);
        due.is("29: both count once", 7, () -> a.account(10));
        a.lift(0, 0);
        due.is("29: stay 1 alone", 7, () -> a.account(10));
        a.addTurn(1, 0, 100, 2);
        a.place(1, 0, 0);
        due.is("29: two turns", 9, () -> a.account(10));
        a.untow(0);
        due.is("29: without the tow", 2, () -> a.account(10));
    }

    private static void peaks() {
        StandAssigner a = new StandAssigner();
        for (int stand = 0; stand < 3; stand++) {
            a.addStand(0, 3);
        }
        a.addTurn(1, 100, 200, 1);
        a.addTurn(1, 50, 100, 1);
        a.addTurn(1, 150, 300, 1);
        a.addTurn(1, 1410, 1440, 1);
        due.is("31: on none", 0, () -> a.peak(false));
        due.is("31: its minute", 0, () -> a.peak(true));
        a.place(1, 0, 0);
        due.is("31: one", 1, () -> a.peak(false));
        due.is("31: from 50", 50, () -> a.peak(true));
        a.place(0, 0, 1);
        due.is("31: the last minute does not count", 1, () -> a.peak(false));
        due.is("31: still from 50", 50, () -> a.peak(true));
        a.place(2, 0, 2);
        due.is("31: two", 2, () -> a.peak(false));
        due.is("31: from 150", 150, () -> a.peak(true));
        a.place(3, 0, 0);
        due.is("31: still two", 2, () -> a.peak(false));
        due.is("31: the first such minute", 150, () -> a.peak(true));
        due.is("30: up to the end of the day", 100 + 50 + 150 + 30, a::minutes);
    }

    private static void means() {
        StandAssigner a = new StandAssigner();
        due.refuses("32: no turns", ArithmeticException.class, () -> (long) a.meanCost());
        a.addTurn(1, 0, 100, 1);
        due.same("32: one", "20.0", Float.toString(a.meanCost()));
        a.addStand(1, 3);
        a.addTurn(1, 0, 100, 1);
        a.addTurn(1, 0, 100, 2);
        a.place(0, 0, 0);
        due.same("32: two thirds", "20.666666", Float.toString(a.meanCost()));
        a.tow(1, 50);
        due.same("32: with a tow", Float.toString(92f / 3f), Float.toString(a.meanCost()));
    }
}
