import java.util.function.Supplier;

/**
 * Each exception that a promise names: for each call all mixtures of arguments that are fine and
 * that are not, of which the exception that is named first must win, and a look behind them all
 * whether anything has changed, what can't be read by a call alone, too.
 */
final class RefusalTests {
    private static final int NONE = SettlementRing.NONE;
    private static final int LEAST = Integer.MIN_VALUE;
    private static final int MOST = Integer.MAX_VALUE;
    private static final String NO_SUCH = "IndexOutOfBoundsException";
    private static final String BAD = "IllegalArgumentException";
    private static final String STATE = "IllegalStateException";

    private RefusalTests() {
    }

    /** An argument: one value that is fine, and some that are not, all for the same reason. */
    private record Arg(Object fine, String reason, Object... wrong) {
    }

    /** The number of something of which there are so many. */
    private static Arg number(int fine, int count) {
        return new Arg(fine, NO_SUCH, -1, count, LEAST, MOST);
    }

    /** A number that can be NONE, too. */
    private static Arg numberOrNone(int fine, int count) {
        return new Arg(fine, NO_SUCH, -2, count, LEAST, MOST);
    }

    private static Arg range(int fine, int from, int to) {
        return new Arg(fine, BAD, from - 1, to + 1, LEAST, MOST);
    }

    private static Arg free(Object fine) {
        return new Arg(fine, "");
    }

    /**
     * Makes a call with all mixtures of the arguments. If all are fine one by one, the second argument
     * tells what is due: an exception, or nothing, and then the call is not made.
     */
    private static void mixtures(Supplier<SettlementRing> maker, String whenFine, String name, Arg... args) {
        String got = Probe.of(() -> tried(maker.get(), whenFine, name, args));
        Checks.same(name + ": what there is behind calls that throw", got, Probe.of(maker));
    }

    private static SettlementRing tried(SettlementRing ring, String whenFine, String name, Arg[] args) {
        int[] chosen = new int[args.length];
        boolean isLast = false;
        while (!isLast) {
            Object[] values = new Object[args.length];
            String due = whenFine;
            for (int i = 0; i < args.length; i++) {
                values[i] = chosen[i] == 0 ? args[i].fine : args[i].wrong[chosen[i] - 1];
                due = chosen[i] == 0 ? due : first(due, args[i].reason);
            }
            if (!due.isEmpty()) {
                Face.answers(ring, due, name, values);
            }
            isLast = !next(chosen, args);
        }
        tryEachAlone(ring, whenFine, name, args);
        return ring;
    }

    /** Each wrong value among fine ones, those far outside of a range of calls with many arguments, too. */
    private static void tryEachAlone(SettlementRing ring, String whenFine, String name, Arg[] args) {
        Object[] values = new Object[args.length];
        for (int i = 0; i < args.length; i++) {
            values[i] = args[i].fine;
        }
        for (int i = 0; i < args.length; i++) {
            for (Object wrong : args[i].wrong) {
                values[i] = wrong;
                Face.answers(ring, first(whenFine, args[i].reason), name, values);
            }
            values[i] = args[i].fine;
        }
    }

    /** Which of two exceptions, or none, is named first in each throws clause. */
    private static String first(String one, String other) {
        for (String name : new String[] {NO_SUCH, BAD, STATE}) {
            if (one.equals(name) || other.equals(name)) {
                return name;
            }
        }
        return "";
    }

    private static boolean next(int[] chosen, Arg[] args) {
        for (int i = 0; i < chosen.length; i++) {
            // of calls with many arguments only the values next to the range are mixed
            int most = args.length > 5 ? Math.min(2, args[i].wrong.length) : args[i].wrong.length;
            if (chosen[i] < most) {
                chosen[i]++;
                return true;
            }
            chosen[i] = 0;
        }
        return false;
    }

    static void promise02_refusals() {
        Arg[] ranges = {range(1, 0, 2), range(7, 0, 1000000), range(7, 0, 1000000)};
        mixtures(Town::busy, "", "open", numberOrNone(0, 6), free(true), ranges[0], ranges[1], ranges[2]);
        mixtures(Town::busy, "", "open", numberOrNone(NONE, 6), free(false), ranges[0], ranges[1], ranges[2]);
        mixtures(Town::busy, STATE, "open", numberOrNone(1, 6), free(true), ranges[0], ranges[1], ranges[2]);
        mixtures(Town::busy, STATE, "open", numberOrNone(2, 6), free(false), ranges[0], ranges[1], ranges[2]);
        mixtures(Town::full, STATE, "open", numberOrNone(NONE, 10), free(true), ranges[0], ranges[1], ranges[2]);
        mixtures(Town::full, STATE, "open", numberOrNone(9, 10), free(true), ranges[0], ranges[1], ranges[2]);
        mixtures(SettlementRing::new, NO_SUCH, "open", free(0), free(true), ranges[0], ranges[1], ranges[2]);
    }

    static void promise03_refusals() {
        mixtures(Town::busy, "", "lend", number(0, 6));
        mixtures(Town::full, "", "lend", number(0, 10));
    }

    static void promise04_refusals() {
        mixtures(Town::busy, "", "relieve", number(0, 6));
        mixtures(Town::full, "", "relieve", number(0, 10));
    }

    static void promise05_refusals() {
        mixtures(Town::busy, "", "treaty", range(1, 0, 2), range(2, 0, 2), range(9, 0, 30));
    }

    static void promise06_refusals() {
        Arg[] ranges = {range(2, 0, 2), range(100000, 1, 100000), range(1000, 1, 1000), range(500, 0, 500)};
        mixtures(Town::busy, "", "issue", number(5, 6), ranges[0], ranges[1], ranges[2], ranges[3]);
        mixtures(Town::full, STATE, "issue", number(9, 10), ranges[0], ranges[1], ranges[2], ranges[3]);
    }

    static void promise07_refusals() {
        mixtures(Town::busy, "", "setPrice", number(2, 3), range(1, 1, 1000));
        mixtures(Town::full, "", "setPrice", number(3, 4), range(1000, 1, 1000));
    }

    static void promise08_refusals() {
        Arg less = new Arg(33, BAD, -1, LEAST);
        Arg more = new Arg(34, BAD, -1, LEAST);
        mixtures(Town::busy, "", "block", number(1, 6), number(0, 3), less);
        mixtures(Town::busy, STATE, "block", number(1, 6), number(0, 3), more);
        mixtures(Town::busy, STATE, "block", number(5, 6), number(2, 3), new Arg(1, BAD, -1));
        mixtures(Town::full, STATE, "block", number(4, 10), number(0, 4), new Arg(MOST, BAD, -1, LEAST));
    }

    static void promise09_refusals() {
        // account 2 has 60 of cash and a line of 7
        mixtures(Town::busy, "", "bring", number(2, 6), range(-67, -1000000, 1000000));
        mixtures(Town::busy, STATE, "bring", number(2, 6), range(-68, -1000000, 1000000));
        mixtures(Town::busy, STATE, "bring", number(2, 6), range(-1000000, -1000000, 1000000));
        mixtures(Town::full, "", "bring", number(9, 10), range(1000000, -1000000, 1000000));
    }

    static void promise10_refusals() {
        // the units and the date are those of the instruction 18, so that it would be matched
        Arg[] ranges = {range(12, 1, 100000), range(101, 0, 100000000), range(3, 3, 2000), range(9, 0, 9),
            range(12, 0, 12)};
        mixtures(Town::busy, "", "instruct", number(5, 6), number(0, 6), free(false), number(0, 3),
                ranges[0], ranges[1], ranges[2], ranges[3], ranges[4]);
        mixtures(Town::busy, BAD, "instruct", number(5, 6), number(5, 6), free(false), number(0, 3),
                ranges[0], ranges[1], ranges[2], ranges[3], ranges[4]);
        ranges[2] = range(2000, 2000, 2000);
        mixtures(Town::full, STATE, "instruct", number(9, 10), number(0, 10), free(true), number(3, 4),
                ranges[0], ranges[1], ranges[2], ranges[3], ranges[4]);
    }

    static void promise11_refusals() {
        Arg amount = range(101, 0, 100000000);
        mixtures(Town::busy, "", "amend", number(19, 23), amount);
        mixtures(Town::busy, STATE, "amend", number(0, 23), amount);
        mixtures(Town::busy, STATE, "amend", number(12, 23), amount);
        mixtures(Town::busy, STATE, "amend", number(20, 23), amount);
        mixtures(Town::busy, STATE, "amend", number(22, 23), amount);
        mixtures(Town::full, STATE, "amend", number(39, 40), amount);
    }

    static void promise12_refusals() {
        mixtures(Town::busy, "", "cancel", number(16, 23));
        mixtures(Town::busy, STATE, "cancel", number(1, 23));
        mixtures(Town::busy, STATE, "cancel", number(20, 23));
        mixtures(Town::busy, STATE, "cancel", number(21, 23));
        mixtures(Town::full, STATE, "cancel", number(0, 40));
    }

    static void promise13_refusals() {
        mixtures(Town::busy, "", "hold", number(12, 23));
        mixtures(Town::busy, STATE, "hold", number(0, 23));
        mixtures(Town::busy, STATE, "hold", number(20, 23));
        mixtures(Town::busy, STATE, "hold", number(22, 23));
        mixtures(Town::full, STATE, "hold", number(21, 40));
    }

    static void promise14_refusals() {
        mixtures(Town::busy, "", "link", number(6, 10), number(8, 10), free(true));
        mixtures(Town::busy, BAD, "link", number(6, 10), number(6, 10), free(true));
        mixtures(Town::busy, BAD, "link", number(0, 10), number(0, 10), free(true));
        mixtures(Town::busy, STATE, "link", number(6, 10), number(7, 10), free(false));
        mixtures(Town::busy, STATE, "link", number(7, 10), number(8, 10), free(true));
        mixtures(Town::busy, STATE, "link", number(0, 10), number(8, 10), free(true));
        mixtures(Town::busy, STATE, "link", number(8, 10), number(0, 10), free(true));
        mixtures(Town::busy, STATE, "link", number(9, 10), number(8, 10), free(true));
        mixtures(Town::busy, STATE, "link", number(8, 10), number(9, 10), free(true));
        mixtures(Town::full, STATE, "link", number(11, 20), number(15, 20), free(true));
        mixtures(Town::full, BAD, "link", number(19, 20), number(19, 20), free(true));
    }

    static void promise18_refusals() {
        mixtures(Town::full, STATE, "endDay");
    }

    static void promise20_refusals() {
        mixtures(Town::busy, "", "recall", number(2, 3));
        mixtures(Town::busy, STATE, "recall", number(0, 3));
        mixtures(Town::busy, STATE, "recall", number(1, 3));
        mixtures(Town::full, "", "recall", number(19, 20));
    }

    static void promise22_refusals() {
        mixtures(Town::full, STATE, "goBack");
        mixtures(SettlementRing::new, STATE, "goBack");
    }

    private static void announceRefusals(Supplier<SettlementRing> maker, String whenFine, int securities, int today) {
        Arg kind = new Arg(0, BAD, -1, 3, LEAST, MOST);
        Arg security = number(securities - 1, securities);
        Arg record = range(2000, today, 2000);
        Arg pay = range(2000, 2000, 2000);
        mixtures(maker, whenFine, "announce", kind, security, range(1000, 1, 1000), free(LEAST), free(MOST),
                record, pay);
        kind = new Arg(1, BAD, -1, 3);
        mixtures(maker, whenFine, "announce", kind, security, range(3, 1, 3), range(3, 1, 3), free(-1), record, pay);
        kind = new Arg(2, BAD, -1, 3);
        mixtures(maker, whenFine, "announce", kind, security, range(1000, 1, 1000), range(10, 1, 10),
                range(100000, 0, 100000), record, pay);
    }

    static void promise23_refusals() {
        announceRefusals(Town::busy, "", 3, 3);
        announceRefusals(Town::full, STATE, 4, 2000);
    }

    static void promise24_refusals() {
        // the event 0 is a SPLIT that was paid, 1 an OPTION that is noted, 2 a DIVIDEND that is not
        Arg one = new Arg(1, BAD, -1, LEAST);
        Arg none = new Arg(0, BAD, -1, LEAST);
        mixtures(Town::busy, "", "elect", number(1, 6), number(1, 3), new Arg(33, BAD, -1, LEAST));
        mixtures(Town::busy, STATE, "elect", number(1, 6), number(1, 3), new Arg(34, BAD, -1, LEAST));
        mixtures(Town::busy, STATE, "elect", number(1, 6), number(1, 3), new Arg(MOST, BAD, -1));
        mixtures(Town::busy, STATE, "elect", number(5, 6), number(1, 3), one);
        mixtures(Town::busy, STATE, "elect", number(3, 6), number(0, 3), one);
        mixtures(Town::busy, STATE, "elect", number(3, 6), number(2, 3), none);
        mixtures(Town::full, STATE, "elect", number(0, 10), number(2, 10), none);
        mixtures(Town::full, STATE, "elect", number(0, 10), number(8, 10), none);
    }

    static void promise25_refusals() {
        mixtures(Town::busy, "", "entitled", number(1, 3), number(5, 6));
        mixtures(Town::full, "", "entitled", number(9, 10), number(9, 10));
    }

    static void promise26_refusals() {
        mixtures(Town::busy, "", "entitledAnew", number(1, 3), number(5, 6));
        mixtures(Town::full, "", "entitledAnew", number(9, 10), number(9, 10));
    }

    static void promise27_refusals() {
        mixtures(Town::busy, "", "isPaid", number(2, 3));
        mixtures(Town::full, "", "isPaid", number(9, 10));
    }

    static void promise28_refusals() {
        mixtures(Town::busy, "", "units", number(5, 6), number(2, 3));
        mixtures(Town::full, "", "units", number(9, 10), number(3, 4));
    }

    static void promise29_refusals() {
        mixtures(Town::busy, "", "free", number(5, 6), number(2, 3));
        mixtures(Town::full, "", "free", number(9, 10), number(3, 4));
    }

    static void promise30_refusals() {
        mixtures(Town::busy, "", "out", number(2, 3));
        mixtures(Town::full, "", "out", number(3, 4));
    }

    private static void accountRefusals(String name) {
        mixtures(Town::busy, "", name, number(5, 6));
        mixtures(Town::full, "", name, number(9, 10));
    }

    static void promise31_refusals() {
        accountRefusals("cash");
    }

    static void promise32_refusals() {
        accountRefusals("pledged");
    }

    static void promise33_refusals() {
        accountRefusals("limit");
    }

    static void promise34_refusals() {
        accountRefusals("isSound");
    }

    static void promise35_refusals() {
        accountRefusals("used");
    }

    static void promise36_refusals() {
        accountRefusals("ledger");
    }

    static void promise37_refusals() {
        accountRefusals("messages");
    }

    static void promise38_refusals() {
        accountRefusals("alleged");
    }

    static void promise39_refusals() {
        mixtures(Town::busy, "", "status", number(22, 23));
        mixtures(Town::full, "", "status", number(39, 40));
    }

    static void promise40_refusals() {
        mixtures(Town::busy, "", "tradeOf", number(22, 23));
        mixtures(Town::full, "", "tradeOf", number(39, 40));
    }

    private static void tradeRefusals(String name) {
        mixtures(Town::busy, "", name, number(9, 10));
        mixtures(Town::full, "", name, number(19, 20));
    }

    static void promise41_refusals() {
        tradeRefusals("tradeUnits");
    }

    static void promise42_refusals() {
        tradeRefusals("tradeAmount");
    }

    static void promise43_refusals() {
        tradeRefusals("age");
    }

    static void promise44_refusals() {
        // settled, due, not due yet, cancelled
        mixtures(Town::busy, STATE, "causer", number(0, 10));
        mixtures(Town::busy, "", "causer", number(7, 10));
        mixtures(Town::busy, STATE, "causer", number(8, 10));
        mixtures(Town::busy, STATE, "causer", number(9, 10));
        mixtures(Town::full, "", "causer", number(19, 20));
    }

    static void promise46_refusals() {
        mixtures(Town::busy, "", "loan", number(2, 3));
        mixtures(Town::full, "", "loan", number(19, 20));
    }

    /** Nothing there yet: no number is one. */
    static void promise01_refusalsOfANewObject() {
        Object[][] calls = {{"lend"}, {"relieve"}, {"setPrice", 1}, {"block", 0, 0}, {"bring", 0}, {"amend", 0},
            {"cancel"}, {"hold"}, {"link", 0, true}, {"recall"}, {"elect", 0, 0}, {"entitled", 0},
            {"entitledAnew", 0}, {"isPaid"}, {"units", 0}, {"free", 0}, {"out"}, {"cash"}, {"pledged"}, {"limit"},
            {"isSound"}, {"used"}, {"ledger"}, {"messages"}, {"alleged"}, {"status"}, {"tradeOf"}, {"tradeUnits"},
            {"tradeAmount"}, {"age"}, {"causer"}, {"loan"}, {"issue", 0, 1, 1, 0}};
        SettlementRing ring = new SettlementRing();
        for (Object[] call : calls) {
            for (int number : new int[] {LEAST, -1, 0, 1, 3, 4, 9, 10, 20, 40, MOST}) {
                Object[] args = call.clone();
                args[0] = number;
                Face.answers(ring, NO_SUCH, (String) call[0], args);
            }
        }
        Face.answers(ring, NO_SUCH, "instruct", 0, 1, true, 0, 1, 1, 0, 0, 0);
        Face.answers(ring, NO_SUCH, "announce", 0, 0, 1, 1, 1, 0, 0);
        Face.answers(ring, NO_SUCH, "open", 0, true, 0, 0, 0);
        Face.answers(ring, STATE, "goBack");
    }

    /** An account, but no security; a security and two accounts, but no instruction, trade, loan or event. */
    static void promise01_refusalsOfWhatIsNotThereYet() {
        SettlementRing ring = new SettlementRing();
        ring.open(NONE, false, 0, 0, 0);
        ring.open(NONE, false, 0, 0, 0);
        Face.answers(ring, NO_SUCH, "units", 0, 0);
        Face.answers(ring, NO_SUCH, "free", 1, 0);
        Face.answers(ring, NO_SUCH, "block", 0, 0, 0);
        Face.answers(ring, NO_SUCH, "instruct", 0, 1, true, 0, 1, 1, 0, 0, 0);
        Face.answers(ring, NO_SUCH, "announce", 0, 0, 1, 1, 1, 0, 0);
        ring.issue(0, 0, 1, 1, 0);
        Face.answers(ring, NO_SUCH, "elect", 0, 0, 0);
        Face.answers(ring, NO_SUCH, "entitled", 0, 0);
        Face.answers(ring, NO_SUCH, "entitledAnew", 0, 0);
        ring.instruct(0, 1, true, 0, 1, 1, 0, 0, 0);
        Face.answers(ring, NO_SUCH, "tradeUnits", 0);
        Face.answers(ring, NO_SUCH, "link", 0, 0, true);
        ring.instruct(1, 0, false, 0, 1, 1, 0, 0, 0);
        Face.answers(ring, NO_SUCH, "link", 0, 1, true);
        ring.bring(1, 1);
        Face.answers(ring, 1, "cycle");
        Face.answers(ring, NO_SUCH, "recall", 0);
        Face.answers(ring, NO_SUCH, "loan", 0);
    }
}
