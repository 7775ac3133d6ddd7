/** What is rounded down, each at numbers where it shows, and numbers that an int would not hold. */
final class RoundingTests {
    private static final int NONE = SettlementRing.NONE;
    private static final int DIVIDEND = SettlementRing.DIVIDEND;
    private static final int SPLIT = SettlementRing.SPLIT;
    private static final int OPTION = SettlementRing.OPTION;

    private RoundingTests() {
    }

    // ---- rounded down

    static void promise33_theLimitIsRoundedOfAllSecuritiesTogether() {
        SettlementRing ring = Town.accounts(0);
        ring.issue(0, 0, 1, 3, 0);
        Checks.same("limit of 3", ring.limit(0), 1);
        ring.issue(0, 0, 1, 5, 0);
        Checks.same("limit of 3 and 5", ring.limit(0), 4);
        ring.issue(0, 0, 1, 7, 0);
        Checks.same("limit of 3 and 5 and 7", ring.limit(0), 7);
        ring.issue(0, 0, 1, 1, 0);
        Checks.same("limit of 3 and 5 and 7 and 1", ring.limit(0), 8);
    }

    static void promise33_theLineIsNotHalved() {
        SettlementRing ring = new SettlementRing();
        ring.open(NONE, false, 0, 9, 5);
        ring.issue(0, 0, 1, 1, 0);
        Checks.same("limit of the line 5 and 1", ring.limit(0), 5);
        ring.setPrice(0, 2);
        Checks.same("limit of the line 5 and 2", ring.limit(0), 6);
    }

    /** The amount that is left of a trade of which some units are settled. */
    private static long amountLeft(int units, int amount, int part) {
        SettlementRing ring = Town.accounts(0, 1000000);
        ring.issue(0, 0, 100, 1, 0);
        ring.block(0, 0, 100 - part);
        Town.trade(ring, 0, 1, 0, units, amount, 0, 0, 1);
        ring.cycle();
        Checks.same("tradeUnits", ring.tradeUnits(0), units - part);
        Checks.same("cash of the deliverer", ring.cash(0), amount - ring.tradeAmount(0));
        return ring.tradeAmount(0);
    }

    static void promise15_theAmountOfAPartIsRoundedDown() {
        Checks.same("left of 10 for 1 of 3", amountLeft(3, 10, 1), 7);
        Checks.same("left of 10 for 2 of 3", amountLeft(3, 10, 2), 4);
        Checks.same("left of 11 for 2 of 3", amountLeft(3, 11, 2), 4);
        Checks.same("left of 12 for 2 of 3", amountLeft(3, 12, 2), 4);
        Checks.same("left of 1 for 99 of 100", amountLeft(100, 1, 99), 1);
        Checks.same("left of 0 for 99 of 100", amountLeft(100, 0, 99), 0);
    }

    static void promise15_partAfterPartNothingIsLost() {
        SettlementRing ring = Town.accounts(0, 1000);
        ring.issue(0, 0, 10, 1, 0);
        Town.trade(ring, 0, 1, 0, 10, 25, 0, 0, 1);
        long[] left = {23, 21, 19, 17, 15, 12, 9, 6, 3, 3};
        for (int i = 0; i < 10; i++) {
            ring.block(0, 0, (int) ring.units(0, 0) - 1);
            Checks.same("cycle", ring.cycle(), i == 9 ? 1 : 0);
            // the last one is settled as a whole, for what was left
            Checks.same("tradeAmount", ring.tradeAmount(0), left[i]);
        }
        Checks.same("cash", ring.cash(0), 25);
        Checks.same("units", ring.units(1, 0), 10);
        Checks.same("messages", ring.messages(0), 11);
    }

    /** The fine for a trade of so many units of a security of the price 1. */
    private static long fine(int units, int rate) {
        SettlementRing ring = Town.accounts(0, 0, 0);
        ring.issue(2, 0, 1, 1, rate);
        Town.trade(ring, 0, 1, units, 0);
        ring.endDay();
        Checks.same("ledger of the deliverer", ring.ledger(0), -ring.ledger(1));
        return ring.ledger(1);
    }

    static void promise18_aFineIsRoundedDownAndOneMore() {
        Checks.same("fine of 9999 at 1", fine(9999, 1), 1);
        Checks.same("fine of 10000 at 1", fine(10000, 1), 2);
        Checks.same("fine of 19999 at 1", fine(19999, 1), 2);
        Checks.same("fine of 20 at 500", fine(20, 500), 2);
        Checks.same("fine of 19 at 500", fine(19, 500), 1);
        Checks.same("fine of 100000 at 0", fine(100000, 0), 1);
    }

    static void promise18_aFineOfALoanIsRoundedDownAndOneMore() {
        int[][] cases = {{19, 1}, {20, 2}, {39, 2}, {40, 3}};
        for (int[] of : cases) {
            SettlementRing ring = Town.accounts(100, 0, 0);
            ring.issue(2, 0, 100, 1, 500);
            ring.lend(2);
            Town.trade(ring, 0, 1, of[0], 0);
            ring.cycle();
            ring.recall(0);
            ring.endDay();
            Checks.same("ledger of the lender of " + of[0], ring.ledger(2), of[1]);
            Checks.same("ledger of the borrower of " + of[0], ring.ledger(0), -of[1]);
        }
    }

    /** What comes of a dividend of so much for the only unit, at a tax rate. */
    private static long net(int gross, int rate) {
        SettlementRing ring = Town.accounts(0);
        ring.issue(0, 0, 1, 1, 0);
        ring.relieve(0);
        ring.treaty(0, 0, rate);
        ring.announce(DIVIDEND, 0, gross, 0, 0, 0, 0);
        ring.endDay();
        return ring.cash(0);
    }

    static void promise23_theTaxIsRoundedDown() {
        Checks.same("net of 3 at 30", net(3, 30), 3);
        Checks.same("net of 4 at 30", net(4, 30), 3);
        Checks.same("net of 6 at 30", net(6, 30), 5);
        Checks.same("net of 7 at 30", net(7, 30), 5);
        Checks.same("net of 6 at 15", net(6, 15), 6);
        Checks.same("net of 7 at 15", net(7, 15), 6);
        Checks.same("net of 99 at 1", net(99, 1), 99);
        Checks.same("net of 100 at 1", net(100, 1), 99);
        Checks.same("net of 1000 at 0", net(1000, 0), 1000);
    }

    static void promise23_theTaxIsOfAllUnitsOfAnAccountTogether() {
        SettlementRing ring = Town.accounts(0);
        ring.issue(0, 0, 3, 1, 0);
        ring.announce(DIVIDEND, 0, 3, 0, 0, 0, 0);
        ring.endDay();
        // 9 less 2; of each 3 alone it would be none
        Checks.same("cash", ring.cash(0), 7);
    }

    /** Units behind a split of an account alone. */
    private static long split(int units, int a, int b) {
        SettlementRing ring = Town.accounts(0);
        ring.issue(0, 0, units, 1, 0);
        ring.announce(SPLIT, 0, a, b, 0, 0, 0);
        ring.endDay();
        Checks.same("out", ring.out(0), ring.units(0, 0));
        return ring.units(0, 0);
    }

    static void promise23_aSplitIsRoundedDown() {
        Checks.same("1 at 1 for 2", split(1, 1, 2), 0);
        Checks.same("1 at 3 for 2", split(1, 3, 2), 1);
        Checks.same("3 at 3 for 2", split(3, 3, 2), 4);
        Checks.same("2 at 1 for 3", split(2, 1, 3), 0);
        Checks.same("5 at 2 for 3", split(5, 2, 3), 3);
        Checks.same("4 at 2 for 3", split(4, 2, 3), 2);
        Checks.same("7 at 3 for 3", split(7, 3, 3), 7);
    }

    static void promise23_whatIsLeftOfAPoolIsTheCustodians() {
        SettlementRing ring = new SettlementRing();
        ring.open(NONE, false, 0, 0, 0);
        for (int i = 1; i < 5; i++) {
            ring.open(0, i < 4, 0, 0, 0);
        }
        ring.issue(0, 0, 4, 1, 0);
        for (int i = 1; i < 5; i++) {
            Town.trade(ring, 0, i, 1, 0);
        }
        ring.cycle();
        ring.announce(SPLIT, 0, 3, 2, 0, 0, 0);
        ring.endDay();
        // the three in the pool have 4 together, 1 each, and the custodian, who had none, the rest
        Checks.same("units of the custodian", ring.units(0, 0), 1);
        for (int i = 1; i < 5; i++) {
            Checks.same("units of " + i, ring.units(i, 0), 1);
        }
        Checks.same("out", ring.out(0), 5);
    }

    static void promise23_aPoolOfACustodianAloneAndOneOfTheWholeRing() {
        SettlementRing ring = new SettlementRing();
        ring.open(NONE, true, 0, 0, 0);
        ring.open(NONE, true, 0, 0, 0);
        ring.open(1, true, 0, 0, 0);
        ring.issue(0, 0, 9, 1, 0);
        Town.trade(ring, 0, 1, 3, 0);
        Town.trade(ring, 0, 2, 3, 0);
        ring.cycle();
        ring.announce(SPLIT, 0, 1, 2, 0, 0, 0);
        ring.endDay();
        Checks.same("units of 0, without a pool", ring.units(0, 0), 1);
        Checks.same("units of 1, 6 by 2 less 1", ring.units(1, 0), 2);
        Checks.same("units of 2, in its pool", ring.units(2, 0), 1);
        Checks.same("out", ring.out(0), 4);
    }

    static void promise23_blockedUnitsAreRoundedDownByThemselves() {
        SettlementRing ring = Town.accounts(0);
        ring.issue(0, 0, 9, 1, 0);
        ring.block(0, 0, 5);
        ring.announce(SPLIT, 0, 1, 2, 0, 0, 0);
        ring.endDay();
        Checks.same("units", ring.units(0, 0), 4);
        Checks.same("free, 2 being blocked", ring.free(0, 0), 2);
        Checks.same("block", ring.block(0, 0, 4), 2);
        ring.announce(SPLIT, 0, 2, 3, 0, 1, 1);
        ring.endDay();
        Checks.same("units", ring.units(0, 0), 2);
        Checks.same("free, as all are blocked", ring.free(0, 0), 0);
    }

    static void promise23_loansAreRoundedDownOneByOne() {
        SettlementRing ring = Town.accounts(100, 0, 0, 0);
        ring.issue(2, 0, 10, 1, 0);
        ring.issue(2, 0, 10, 1, 0);
        Town.trade(ring, 2, 3, 3, 0);
        ring.cycle();
        ring.lend(2);
        ring.lend(3);
        ring.block(2, 0, 2);
        Town.trade(ring, 0, 1, 8, 0);
        Town.trade(ring, 0, 1, 1, 5, 0, 0, 0, 0);
        ring.cycle();
        Checks.same("loan", ring.loan(0), 5);
        Checks.same("loan", ring.loan(1), 3);
        Checks.same("loan", ring.loan(2), 5);
        ring.announce(SPLIT, 0, 1, 2, 0, 0, 0);
        ring.endDay();
        Checks.same("loan", ring.loan(0), 2);
        Checks.same("loan", ring.loan(1), 1);
        Checks.same("loan of another security", ring.loan(2), 5);
        Checks.same("pledged", ring.pledged(0), 13);
    }

    static void promise23_unitsAndLeastPartsOfTradesAreRoundedDown() {
        SettlementRing ring = Town.accounts(0, 0);
        ring.issue(0, 0, 40, 1, 0);
        Town.trade(ring, 0, 1, 0, 11, 7, 0, 0, 5);
        Town.trade(ring, 0, 1, 0, 11, 7, 0, 0, 7);
        ring.block(0, 0, 36);
        ring.announce(SPLIT, 0, 3, 2, 0, 0, 0);
        ring.endDay();
        Checks.same("tradeUnits", ring.tradeUnits(0), 16);
        Checks.same("tradeAmount", ring.tradeAmount(0), 7);
        Checks.same("free", ring.free(0, 0), 6);
        ring.block(0, 0, 53);
        ring.bring(1, 100);
        ring.cycle();
        // 7 units are free, and so many is the least part of the first trade then: 5 times 3 by 2
        Checks.same("tradeUnits", ring.tradeUnits(0), 9);
        Checks.same("tradeUnits", ring.tradeUnits(1), 16);
        ring.block(0, 0, 43);
        ring.cycle();
        // of 10 units the first trade gets 9 and is settled; 1 is less than the other one's least part
        Checks.same("status", ring.status(0), SettlementRing.SETTLED);
        Checks.same("tradeUnits", ring.tradeUnits(1), 16);
    }

    /** How many new units an account gets that elects for so many. */
    private static long got(int elected, int b) {
        SettlementRing ring = Town.accounts(0);
        ring.issue(0, 0, 40, 1, 0);
        ring.announce(OPTION, 0, 10, b, 100, 0, 1);
        ring.endDay();
        ring.elect(0, 0, elected);
        ring.endDay();
        long got = ring.units(0, 0) - 40;
        Checks.same("cash, for the rest of 40", ring.cash(0), 7 * (40 - b * got));
        return got;
    }

    static void promise23_whatIsAskedForIsRoundedDown() {
        Checks.same("for 2 of 3", got(2, 3), 0);
        Checks.same("for 3 of 3", got(3, 3), 1);
        Checks.same("for 5 of 3", got(5, 3), 1);
        Checks.same("for 39 of 10", got(39, 10), 3);
        Checks.same("for 40 of 10", got(40, 10), 4);
        Checks.same("for 40 of 7", got(40, 7), 5);
    }

    static void promise23_theTaxOfAnOptionIsRoundedDown() {
        SettlementRing ring = Town.accounts(0, 0);
        ring.issue(0, 0, 10, 1, 0);
        Town.trade(ring, 0, 1, 3, 0);
        ring.cycle();
        ring.announce(OPTION, 0, 3, 2, 100, 0, 1);
        ring.endDay();
        ring.elect(0, 0, 5);
        ring.endDay();
        // 7 less 2 times 2 are paid 9, less 2; 3 are paid 9, less 2
        Checks.same("units", ring.units(0, 0), 9);
        Checks.same("cash", ring.cash(0), 7);
        Checks.same("cash", ring.cash(1), 7);
    }

    static void promise35_usedIsNotRounded() {
        SettlementRing ring = new SettlementRing();
        ring.open(NONE, false, 0, 0, 3);
        ring.bring(0, -1);
        Checks.same("used", ring.used(0), 1.0 / 3.0);
        ring.bring(0, -1);
        Checks.same("used", ring.used(0), 2.0 / 3.0);
    }

    // ---- more than an int holds

    /** An account with 100000 units that a split makes three of each, ten times. */
    private static SettlementRing giant() {
        SettlementRing ring = Town.accounts(1000000, 1000000);
        ring.issue(0, 0, 100000, 1000, 500);
        for (int i = 0; i < 9; i++) {
            ring.announce(SPLIT, 0, 3, 1, 0, 0, 0);
        }
        return ring;
    }

    static void promise28_unitsBeyondAnInt() {
        SettlementRing ring = giant();
        ring.announce(SPLIT, 0, 3, 1, 0, 0, 0);
        ring.block(0, 0, 50000);
        ring.endDay();
        Checks.same("units", ring.units(0, 0), 5904900000L);
        Checks.same("out", ring.out(0), 5904900000L);
        Checks.same("free", ring.free(0, 0), 2952450000L);
        Checks.same("limit", ring.limit(0), 1476225000000L);
        Checks.same("entitled to the last one", ring.entitled(9, 0), 1968300000L);
        Checks.same("entitledAnew to the last one", ring.entitledAnew(9, 0), 1968300000L);
        Checks.same("block of the greatest int", ring.block(0, 0, Integer.MAX_VALUE), 2952450000L);
        Checks.same("free", ring.free(0, 0), 3757416353L);
    }

    static void promise41_tradesBeyondAnInt() {
        SettlementRing ring = giant();
        ring.announce(SPLIT, 0, 3, 1, 0, 0, 0);
        Town.trade(ring, 0, 1, 100000, 100000000);
        ring.block(0, 0, 1);
        Town.trade(ring, 1, 0, 100000, 100000000);
        ring.hold(0);
        ring.endDay();
        ring.hold(0);
        Checks.same("tradeUnits", ring.tradeUnits(0), 5904900000L);
        Checks.same("tradeUnits", ring.tradeUnits(1), 5904900000L);
        // 5904900000000 at 500 of 10000, and 1
        Checks.same("ledger", ring.ledger(0), -295245000001L);
        Checks.same("ledger", ring.ledger(1), 295245000001L);
        Checks.same("best", ring.best(), 2 * 5904900000000L + 200000000);
        Checks.same("bestByAll", ring.bestByAll(), 2 * 5904900000000L + 200000000);
        Checks.same("cycle", ring.cycle(), 2);
    }

    static void promise15_partsBeyondAnInt() {
        SettlementRing ring = giant();
        ring.announce(SPLIT, 0, 3, 1, 0, 0, 0);
        ring.block(0, 0, 40000);
        Town.trade(ring, 0, 1, 0, 100000, 99999999, 0, 0, 1);
        ring.endDay();
        ring.cycle();
        // 3542940000 units of 5904900000 are 0.6 of them, for 59999999 of the amount
        Checks.same("tradeUnits", ring.tradeUnits(0), 2361960000L);
        Checks.same("tradeAmount", ring.tradeAmount(0), 40000000);
        Checks.same("units", ring.units(1, 0), 3542940000L);
        Checks.same("cash", ring.cash(1), 1000000 - 59999999);
    }

    static void promise23_dividendsAndClaimsBeyondAnInt() {
        SettlementRing ring = giant();
        ring.announce(DIVIDEND, 0, 1000, 0, 0, 0, 0);
        ring.hold(2 * Town.trade(ring, 0, 1, 100000, 0));
        ring.endDay();
        // 1968300000 units get 1000 each, less 30 of 100
        Checks.same("cash", ring.cash(0), 1000000 + 1377810000000L);
        Checks.same("ledger, by a claim and a fine", ring.ledger(1), 1968300000000L + 98415000001L);
    }

    static void promise23_optionsBeyondAnInt() {
        SettlementRing ring = giant();
        ring.announce(OPTION, 0, 1000, 1, 99999, 0, 1);
        ring.endDay();
        Checks.badState(ring, "elect of more than entitled", () -> ring.elect(1, 0, Integer.MAX_VALUE));
        Checks.same("elect", ring.elect(0, 9, 1968300000), 0);
        Checks.badState(ring, "elect of one more", () -> ring.elect(0, 9, 1968300001));
        ring.endDay();
        Checks.same("units", ring.units(0, 0), 1968300000L + 99999);
        Checks.same("cash", ring.cash(0), 1000000 + 700 * (1968300000L - 99999));
    }

    static void promise15_aLoanBeyondAnInt() {
        SettlementRing ring = Town.accounts(0, 0, 0);
        ring.issue(2, 0, 100000, 1000, 0);
        ring.issue(0, 0, 100000, 1, 0);
        for (int i = 0; i < 8; i++) {
            ring.announce(SPLIT, i / 4, 3, 1, 0, 0, 0);
        }
        ring.announce(DIVIDEND, 1, 1000, 0, 0, 0, 0);
        ring.announce(DIVIDEND, 1, 1000, 0, 0, 0, 0);
        ring.lend(2);
        Town.trade(ring, 0, 1, 100000, 0);
        ring.endDay();
        Checks.same("cash", ring.cash(0), 11340000000L);
        Checks.same("cycle", ring.cycle(), 1);
        Checks.same("loan", ring.loan(0), 8100000);
        Checks.same("pledged", ring.pledged(0), 8100000000L);
        Checks.same("recall", ring.recall(0), 8100000);
    }

    static void promise35_usedBeyondAnInt() {
        SettlementRing ring = Town.accounts(0, 0, 0);
        ring.issue(2, 0, 100000, 1000, 0);
        ring.issue(0, 0, 100000, 1000, 0);
        for (int i = 0; i < 8; i++) {
            ring.announce(SPLIT, i / 4, 3, 1, 0, 0, 0);
        }
        ring.lend(2);
        Town.trade(ring, 0, 1, 100000 / 4, 0);
        ring.endDay();
        // the loan of 2025000 units pledges 2025000000; the limit is half of 8100000000
        Checks.same("cycle", ring.cycle(), 1);
        Checks.same("pledged", ring.pledged(0), 2025000000L);
        Checks.same("limit", ring.limit(0), 4050000000L);
        Checks.same("used", ring.used(0), 0.5);
    }
}
