/** Promises 23 to 27: events. */
final class EventTests {
    private static final int NONE = SettlementRing.NONE;
    private static final int DIVIDEND = SettlementRing.DIVIDEND;
    private static final int SPLIT = SettlementRing.SPLIT;
    private static final int OPTION = SettlementRing.OPTION;

    private EventTests() {
    }

    /** Accounts that hold so many units each of one security, of price 10 and rate 0. */
    private static SettlementRing holders(int... units) {
        SettlementRing ring = new SettlementRing();
        int all = 0;
        for (int own : units) {
            ring.open(NONE, false, 0, 0, 0);
            all += own;
        }
        ring.issue(0, 0, all, 10, 0);
        for (int i = 1; i < units.length; i++) {
            if (units[i] > 0) {
                trade(ring, 0, i, units[i], 0, 0);
            }
        }
        ring.cycle();
        return ring;
    }

    private static int trade(SettlementRing ring, int from, int to, int units, int amount, int least) {
        int one = ring.instruct(from, to, true, 0, units, amount, ring.today(), 0, least);
        ring.instruct(to, from, false, 0, units, amount, ring.today(), 0, least);
        return ring.tradeOf(one);
    }

    private static void units(SettlementRing ring, long... due) {
        for (int i = 0; i < due.length; i++) {
            Checks.same("units(" + i + ", 0)", ring.units(i, 0), due[i]);
        }
    }

    private static void cash(SettlementRing ring, long... due) {
        for (int i = 0; i < due.length; i++) {
            Checks.same("cash(" + i + ")", ring.cash(i), due[i]);
        }
    }

    static void promise23_rangesOfAnnounce() {
        SettlementRing ring = holders(10);
        ring.endDay();
        ring.endDay();
        int[][] bad = {{-1, 1, 1, 0, 2, 2}, {3, 1, 1, 0, 2, 2}, {DIVIDEND, 0, 1, 0, 2, 2},
            {DIVIDEND, 1001, 1, 0, 2, 2}, {SPLIT, 0, 1, 0, 2, 2}, {SPLIT, 4, 1, 0, 2, 2},
            {SPLIT, 1, 0, 0, 2, 2}, {SPLIT, 1, 4, 0, 2, 2}, {OPTION, 0, 1, 0, 2, 2},
            {OPTION, 1001, 1, 0, 2, 2}, {OPTION, 1, 0, 0, 2, 2}, {OPTION, 1, 11, 0, 2, 2},
            {OPTION, 1, 1, -1, 2, 2}, {OPTION, 1, 1, 100001, 2, 2}, {DIVIDEND, 1, 1, 0, 1, 2},
            {DIVIDEND, 1, 1, 0, 2001, 2001}, {DIVIDEND, 1, 1, 0, 3, 2}, {DIVIDEND, 1, 1, 0, 2, 2001}};
        for (int[] of : bad) {
            Checks.badArgument(ring, "announce", () -> ring.announce(of[0], 0, of[1], of[2], of[3], of[4], of[5]));
        }
        Checks.noSuch(ring, "announce of security 1", () -> ring.announce(9, 1, 1, 1, 0, 2, 2));
        Checks.noSuch(ring, "announce of security -1", () -> ring.announce(DIVIDEND, -1, 1, 1, 0, 2, 2));
        Checks.same("announce", ring.announce(DIVIDEND, 0, 1000, -7, -7, 2, 2000), 0);
        Checks.same("announce", ring.announce(SPLIT, 0, 3, 3, 1000000, 2000, 2000), 1);
        Checks.same("announce", ring.announce(OPTION, 0, 1000, 10, 100000, 2, 2), 2);
        Checks.same("announce", ring.announce(OPTION, 0, 1, 1, 0, 2, 2), 3);
    }

    static void promise23_tenEventsAndNoMore() {
        SettlementRing ring = holders(10);
        for (int i = 0; i < 10; i++) {
            Checks.same("announce", ring.announce(DIVIDEND, 0, 1, 1, 0, 0, 1), i);
        }
        Checks.badState(ring, "the 11th announce", () -> ring.announce(DIVIDEND, 0, 1, 1, 0, 0, 1));
        Checks.badArgument(ring, "the 11th announce, of kind 3", () -> ring.announce(3, 0, 1, 1, 0, 0, 1));
        ring.endDay();
        ring.endDay();
        cash(ring, 70);
    }

    static void promise23_aDividendIsPaidLessTax() {
        SettlementRing ring = holders(7, 3, 0);
        ring.announce(DIVIDEND, 0, 3, 0, 0, 0, 1);
        ring.endDay();
        cash(ring, 0, 0, 0);
        trade(ring, 0, 2, 5, 0, 0);
        ring.cycle();
        ring.endDay();
        // 21 less 6, 9 less 2
        cash(ring, 15, 7, 0);
        units(ring, 2, 3, 5);
        Checks.same("out", ring.out(0), 10);
        ring.endDay();
        cash(ring, 15, 7, 0);
    }

    static void promise23_claimsForWhatWasPendingAndDue() {
        SettlementRing ring = holders(7, 3, 0);
        trade(ring, 1, 2, 9, 0, 0);
        trade(ring, 0, 2, 2, 99999, 0);
        ring.hold(4);
        ring.instruct(0, 1, true, 0, 4, 0, 1, 0, 0);
        ring.instruct(1, 0, false, 0, 4, 0, 1, 0, 0);
        ring.issue(0, 0, 5, 1, 0);
        ring.instruct(0, 1, true, 1, 6, 0, 0, 0, 0);
        ring.instruct(1, 0, false, 1, 6, 0, 0, 0, 0);
        ring.announce(DIVIDEND, 0, 100, 0, 0, 0, 1);
        ring.endDay();
        long[] fined = {ring.ledger(0), ring.ledger(1), ring.ledger(2)};
        ring.cancel(2);
        ring.cancel(3);
        ring.hold(4);
        ring.cycle();
        ring.cancel(8);
        ring.cancel(9);
        ring.cancel(4);
        ring.cancel(5);
        Checks.same("endDay", ring.endDay(), 0);
        Checks.same("ledger", ring.ledger(0), fined[0] - 200);
        Checks.same("ledger", ring.ledger(1), fined[1] - 900);
        Checks.same("ledger", ring.ledger(2), fined[2] + 1100);
    }

    static void promise23_noClaimsForASplit() {
        SettlementRing ring = holders(7, 3, 0);
        trade(ring, 1, 2, 9, 0, 0);
        ring.announce(SPLIT, 0, 2, 1, 0, 0, 0);
        ring.endDay();
        Checks.same("ledger", ring.ledger(2), 1);
    }

    static void promise23_eventsTakeTheirTurnsByTheirNumbers() {
        SettlementRing ring = holders(10);
        ring.announce(DIVIDEND, 0, 100, 0, 0, 0, 0);
        ring.announce(SPLIT, 0, 3, 1, 0, 0, 0);
        ring.announce(DIVIDEND, 0, 100, 0, 0, 0, 0);
        ring.endDay();
        Checks.same("entitled", ring.entitled(0, 0), 10);
        Checks.same("entitled", ring.entitled(1, 0), 10);
        Checks.same("entitled", ring.entitled(2, 0), 30);
        Checks.same("entitledAnew", ring.entitledAnew(1, 0), 10);
        Checks.same("entitledAnew", ring.entitledAnew(2, 0), 30);
        cash(ring, 700 + 2100);
    }

    static void promise23_aSplitOfPoolsAndOfAccountsAlone() {
        SettlementRing ring = new SettlementRing();
        ring.open(NONE, false, 0, 0, 0);
        ring.open(0, true, 0, 0, 0);
        ring.open(0, true, 0, 0, 0);
        ring.open(0, false, 0, 0, 0);
        ring.open(NONE, true, 0, 0, 0);
        ring.issue(0, 0, 35, 10, 0);
        for (int i = 1; i < 5; i++) {
            trade(ring, 0, i, 5, 0, 0);
        }
        ring.cycle();
        units(ring, 15, 5, 5, 5, 5);
        ring.announce(SPLIT, 0, 1, 2, 0, 0, 1);
        ring.announce(SPLIT, 0, 3, 2, 0, 2, 2);
        ring.endDay();
        units(ring, 15, 5, 5, 5, 5);
        ring.endDay();
        // 25 become 12, of which 2 and 2 go to the pooled ones
        units(ring, 8, 2, 2, 2, 2);
        Checks.same("out", ring.out(0), 16);
        ring.endDay();
        // 12 become 18, of which 3 and 3 go to the pooled ones
        units(ring, 12, 3, 3, 3, 3);
        Checks.same("out", ring.out(0), 24);
    }

    static void promise23_aSplitGoesByTheUnitsHeldThen() {
        SettlementRing ring = holders(5, 5);
        ring.announce(SPLIT, 0, 2, 1, 0, 0, 1);
        ring.endDay();
        trade(ring, 0, 1, 5, 0, 0);
        ring.cycle();
        ring.endDay();
        units(ring, 0, 20);
        Checks.same("entitled", ring.entitled(0, 0), 5);
        Checks.same("entitledAnew", ring.entitledAnew(0, 1), 5);
        Checks.is("isPaid", ring.isPaid(0));
    }

    static void promise23_aSplitOfBlockedUnitsLoansAndTrades() {
        SettlementRing ring = holders(0, 9, 0);
        ring.bring(0, 1000);
        ring.lend(1);
        trade(ring, 0, 2, 5, 0, 0);
        ring.cycle();
        ring.block(2, 0, 3);
        ring.instruct(1, 2, true, 0, 7, 101, 9, 0, 5);
        ring.instruct(2, 1, false, 0, 7, 101, 9, 0, 5);
        ring.instruct(1, 2, true, 0, 1, 0, 9, 0, 1);
        ring.instruct(2, 1, false, 0, 1, 0, 9, 0, 1);
        ring.instruct(1, 2, true, 0, 3, 0, 9, 0, 0);
        ring.issue(1, 0, 9, 1, 0);
        ring.instruct(1, 2, true, 1, 7, 0, 9, 0, 0);
        ring.instruct(2, 1, false, 1, 7, 0, 9, 0, 0);
        int last = ring.tradeOf(ring.instruct(1, 2, true, 0, 2, 0, 9, 0, 2));
        Checks.same("tradeOf", last, NONE);
        int trade = ring.tradeOf(4);
        int toll = ring.messages(1);
        ring.announce(SPLIT, 0, 1, 2, 0, 0, 0);
        ring.endDay();
        units(ring, 0, 2, 2);
        Checks.same("out", ring.out(0), 4);
        Checks.same("free", ring.free(2, 0), 1);
        Checks.same("loan", ring.loan(0), 2);
        Checks.same("pledged", ring.pledged(0), 50);
        Checks.same("tradeUnits", ring.tradeUnits(trade), 3);
        Checks.same("tradeAmount", ring.tradeAmount(trade), 101);
        Checks.same("status of one whose units became 0", ring.status(6), SettlementRing.CANCELLED);
        Checks.same("status of one whose units became 0", ring.status(7), SettlementRing.CANCELLED);
        Checks.same("tradeUnits of it", ring.tradeUnits(trade + 1), 0);
        Checks.same("messages, for the one that is cancelled", ring.messages(1), toll + 1);
        Checks.same("tradeUnits of another security", ring.tradeUnits(trade + 2), 7);
        Checks.same("units of another security", ring.units(1, 1), 9);
        Checks.same("instruct that fits the OPEN one", ring.instruct(2, 1, false, 0, 3, 0, 9, 0, 0), 12);
        Checks.same("tradeUnits, not split", ring.tradeUnits(ring.tradeOf(12)), 3);
    }

    /** What is still to be settled of a trade of so many units behind a split of 1 for 2 and a cycle. */
    private static long restBehindSplit(int units, int least) {
        SettlementRing ring = holders(14, 0);
        ring.block(0, 0, 8);
        trade(ring, 0, 1, units, 0, least);
        ring.announce(SPLIT, 0, 1, 2, 0, 0, 0);
        ring.endDay();
        ring.cycle();
        return ring.tradeUnits(0);
    }

    static void promise23_aSplitOfALeastPart() {
        // 14 units become 7, of which 3 are free; the trade of 14 becomes one of 7
        Checks.same("rest, the least part having become 3", restBehindSplit(14, 7), 4);
        Checks.same("rest, the least part having become 4", restBehindSplit(14, 8), 7);
        Checks.same("rest, the least part having become none", restBehindSplit(14, 1), 7);
        Checks.same("rest, as 3 are free", restBehindSplit(7, 1), 3);
    }

    /** Three accounts with 20, 11 and 9 units; an option of 10 each or 1 for 3, recorded on the day 0. */
    private static SettlementRing option(int cap) {
        SettlementRing ring = holders(20, 11, 9);
        ring.announce(OPTION, 0, 10, 3, cap, 0, 1);
        ring.endDay();
        return ring;
    }

    static void promise23_anOptionPaysWhoDoesNotElect() {
        SettlementRing ring = option(100);
        ring.endDay();
        cash(ring, 140, 77, 63);
        units(ring, 20, 11, 9);
    }

    static void promise23_anOptionGivesUnitsToWhoElects() {
        SettlementRing ring = option(100);
        ring.elect(0, 0, 20);
        ring.elect(1, 0, 4);
        ring.endDay();
        // 6 units for 18, 1 unit for 3; 2, 8 and 9 entitled units are paid
        units(ring, 26, 12, 9);
        Checks.same("out", ring.out(0), 47);
        cash(ring, 14, 56, 63);
    }

    static void promise23_anOptionGivesNoMoreThanItsCap() {
        SettlementRing ring = option(7);
        ring.elect(0, 0, 20);
        ring.elect(1, 0, 11);
        ring.elect(2, 0, 9);
        ring.endDay();
        // 6, 3 and 3 are asked for: 42, 21 and 21 by 12
        units(ring, 23, 12, 10);
        Checks.same("out", ring.out(0), 45);
        cash(ring, 110 - 33, 80 - 24, 60 - 18);
    }

    static void promise23_anOptionWhoseCapIsJustAskedFor() {
        SettlementRing ring = option(9);
        ring.elect(0, 0, 20);
        ring.elect(2, 0, 9);
        ring.endDay();
        units(ring, 26, 11, 12);
        cash(ring, 14, 77, 0);
    }

    static void promise23_anOptionWithoutUnits() {
        SettlementRing ring = option(0);
        ring.elect(0, 0, 20);
        ring.endDay();
        units(ring, 20, 11, 9);
        cash(ring, 140, 77, 63);
    }

    static void promise23_anOptionClaims() {
        SettlementRing ring = holders(5, 0);
        trade(ring, 1, 0, 4, 0, 0);
        ring.announce(OPTION, 0, 10, 3, 5, 0, 0);
        ring.endDay();
        Checks.same("ledger", ring.ledger(0), 40 + 1);
    }

    static void promise24_electsInPlaceOfWhatWasElected() {
        SettlementRing ring = option(100);
        Checks.same("elect", ring.elect(0, 0, 20), 0);
        Checks.same("elect", ring.elect(0, 0, 7), 20);
        Checks.same("elect", ring.elect(0, 0, 0), 7);
        Checks.same("elect of another one", ring.elect(1, 0, 3), 0);
        ring.endDay();
        units(ring, 20, 12, 9);
    }

    static void promise24_whatCanNotBeElected() {
        SettlementRing ring = holders(20, 11, 9);
        ring.announce(OPTION, 0, 10, 3, 5, 0, 1);
        ring.announce(DIVIDEND, 0, 10, 3, 5, 0, 1);
        ring.announce(SPLIT, 0, 1, 1, 5, 0, 1);
        Checks.badState(ring, "elect ahead of the record day", () -> ring.elect(0, 0, 0));
        ring.endDay();
        Checks.badState(ring, "elect of a DIVIDEND", () -> ring.elect(0, 1, 0));
        Checks.badState(ring, "elect of a SPLIT", () -> ring.elect(0, 2, 0));
        Checks.badState(ring, "elect of too many", () -> ring.elect(1, 0, 12));
        Checks.badArgument(ring, "elect of -1", () -> ring.elect(1, 0, -1));
        Checks.badArgument(ring, "elect of -1 of a SPLIT", () -> ring.elect(1, 2, -1));
        Checks.noSuch(ring, "elect of account 3", () -> ring.elect(3, 0, -1));
        Checks.noSuch(ring, "elect of account -1", () -> ring.elect(-1, 0, 0));
        Checks.noSuch(ring, "elect of event 3", () -> ring.elect(0, 3, -1));
        Checks.noSuch(ring, "elect of event -1", () -> ring.elect(0, -1, 0));
        ring.open(NONE, false, 0, 0, 0);
        Checks.badState(ring, "elect of an account without entitled units", () -> ring.elect(3, 0, 1));
        Checks.same("elect of none", ring.elect(3, 0, 0), 0);
        Checks.same("elect", ring.elect(1, 0, 11), 0);
        ring.endDay();
        Checks.badState(ring, "elect when it was paid", () -> ring.elect(1, 0, 0));
    }

    static void promise25_entitledAsNoted() {
        SettlementRing ring = holders(20, 11);
        ring.announce(DIVIDEND, 0, 10, 3, 5, 1, 3);
        ring.announce(SPLIT, 0, 1, 1, 5, 1, 1);
        Checks.same("entitled", ring.entitled(0, 0), NONE);
        ring.endDay();
        Checks.same("entitled", ring.entitled(0, 1), NONE);
        trade(ring, 0, 1, 3, 0, 0);
        ring.cycle();
        ring.block(0, 0, 5);
        ring.endDay();
        Checks.same("entitled", ring.entitled(0, 0), 17);
        Checks.same("entitled", ring.entitled(0, 1), 14);
        Checks.same("entitled of a SPLIT", ring.entitled(1, 1), 14);
        trade(ring, 1, 0, 9, 0, 0);
        ring.cycle();
        Checks.same("entitled", ring.entitled(0, 1), 14);
        Checks.noSuch(ring, "entitled(2, 0)", () -> ring.entitled(2, 0));
        Checks.noSuch(ring, "entitled(-1, 0)", () -> ring.entitled(-1, 0));
        Checks.noSuch(ring, "entitled(0, 2)", () -> ring.entitled(0, 2));
        Checks.noSuch(ring, "entitled(0, -1)", () -> ring.entitled(0, -1));
        ring.open(NONE, false, 0, 0, 0);
        Checks.same("entitled of an account opened later", ring.entitled(0, 2), 0);
    }

    static void promise26_entitledAnewFromAllThatWasGotAndGiven() {
        SettlementRing ring = holders(0, 30, 0);
        ring.bring(0, 1000);
        ring.lend(1);
        trade(ring, 0, 2, 5, 0, 0);
        ring.cycle();
        trade(ring, 1, 2, 25, 0, 1);
        ring.block(1, 0, 10);
        ring.cycle();
        ring.announce(DIVIDEND, 0, 1, 0, 0, 0, 0);
        Checks.same("entitledAnew", ring.entitledAnew(0, 1), NONE);
        ring.announce(SPLIT, 0, 3, 2, 0, 0, 0);
        ring.announce(OPTION, 0, 1, 2, 50, 0, 1);
        ring.endDay();
        ring.elect(2, 2, 30);
        ring.announce(DIVIDEND, 0, 1, 0, 0, 2, 2);
        trade(ring, 2, 0, 15, 0, 0);
        ring.cycle();
        ring.cycle();
        ring.endDay();
        ring.endDay();
        // 15 come to account 0, 7 of which it gives back; these go on to account 2, which gets 15 anew
        long[][] due = {{0, 10, 20}, {0, 10, 20}, {0, 15, 30}, {8, 15, 37}};
        for (int event = 0; event < 4; event++) {
            for (int account = 0; account < 3; account++) {
                String of = "(" + event + ", " + account + ")";
                Checks.same("entitled" + of, ring.entitled(event, account), due[event][account]);
                Checks.same("entitledAnew" + of, ring.entitledAnew(event, account), due[event][account]);
            }
        }
        Checks.noSuch(ring, "entitledAnew(4, 0)", () -> ring.entitledAnew(4, 0));
        Checks.noSuch(ring, "entitledAnew(-1, 0)", () -> ring.entitledAnew(-1, 0));
        Checks.noSuch(ring, "entitledAnew(0, 3)", () -> ring.entitledAnew(0, 3));
        Checks.noSuch(ring, "entitledAnew(0, -1)", () -> ring.entitledAnew(0, -1));
    }

    static void promise27_isPaidBehindThePayDay() {
        SettlementRing ring = holders(5);
        ring.announce(DIVIDEND, 0, 1, 0, 0, 0, 1);
        ring.announce(SPLIT, 0, 1, 1, 0, 0, 0);
        ring.announce(OPTION, 0, 1, 1, 0, 1, 1);
        Checks.isNot("isPaid", ring.isPaid(0));
        ring.endDay();
        Checks.isNot("isPaid", ring.isPaid(0));
        Checks.is("isPaid", ring.isPaid(1));
        Checks.isNot("isPaid", ring.isPaid(2));
        ring.endDay();
        Checks.is("isPaid", ring.isPaid(0));
        Checks.is("isPaid", ring.isPaid(2));
        Checks.noSuch(ring, "isPaid(3)", () -> ring.isPaid(3));
        Checks.noSuch(ring, "isPaid(-1)", () -> ring.isPaid(-1));
    }
}
