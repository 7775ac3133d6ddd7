/** Promises 15 to 17 and 20: cycles, the best set and loans. */
final class CycleTests {
    private static final int NONE = SettlementRing.NONE;
    private static final int MATCHED = SettlementRing.MATCHED;
    private static final int SETTLED = SettlementRing.SETTLED;

    private CycleTests() {
    }

    /** Accounts with so much cash each; the first one has all 100 units, of price 10, of a security. */
    private static SettlementRing ring(int... cash) {
        SettlementRing ring = new SettlementRing();
        for (int own : cash) {
            ring.open(NONE, false, 0, own, 0);
        }
        ring.issue(0, 0, 100, 10, 100);
        return ring;
    }

    /** A trade that is due today, with a priority and a least part; returns its number. */
    private static int trade(SettlementRing ring, int from, int to, int units, int amount, int priority, int least) {
        int one = ring.instruct(from, to, true, 0, units, amount, ring.today(), priority, least);
        ring.instruct(to, from, false, 0, units, amount, ring.today(), 0, least);
        return ring.tradeOf(one);
    }

    private static int trade(SettlementRing ring, int from, int to, int units, int amount) {
        return trade(ring, from, to, units, amount, 0, 0);
    }

    /** Both searches must answer the same. */
    private static void best(SettlementRing ring, long due) {
        Checks.same("best", ring.best(), due);
        Checks.same("bestByAll", ring.bestByAll(), due);
    }

    private static void statuses(SettlementRing ring, int... due) {
        for (int i = 0; i < due.length; i++) {
            Checks.same("status(" + 2 * i + ")", ring.status(2 * i), due[i]);
            Checks.same("status(" + (2 * i + 1) + ")", ring.status(2 * i + 1), due[i]);
        }
    }

    static void promise15_settlesGivingUnitsAndAmount() {
        SettlementRing ring = ring(0, 500);
        trade(ring, 0, 1, 30, 400);
        best(ring, 700);
        Checks.same("units before", ring.units(1, 0), 0);
        Checks.same("cycle", ring.cycle(), 1);
        statuses(ring, SETTLED);
        Checks.same("units", ring.units(0, 0), 70);
        Checks.same("units", ring.units(1, 0), 30);
        Checks.same("cash", ring.cash(0), 400);
        Checks.same("cash", ring.cash(1), 100);
        Checks.same("messages", ring.messages(0), 2);
        Checks.same("messages", ring.messages(1), 2);
        Checks.same("tradeUnits, the last ones", ring.tradeUnits(0), 30);
        Checks.same("tradeAmount, the last one", ring.tradeAmount(0), 400);
        Checks.same("cycle", ring.cycle(), 0);
        best(ring, 0);
    }

    static void promise15_onlyWhatIsDueAndNotHeldUp() {
        SettlementRing ring = ring(0, 500);
        ring.instruct(0, 1, true, 0, 1, 0, 1, 0, 0);
        ring.instruct(1, 0, false, 0, 1, 0, 1, 0, 0);
        trade(ring, 0, 1, 2, 0);
        ring.hold(3);
        best(ring, 0);
        Checks.same("cycle", ring.cycle(), 0);
        ring.hold(3);
        best(ring, 20);
        ring.hold(2);
        best(ring, 0);
        ring.endDay();
        best(ring, 10);
        Checks.same("cycle", ring.cycle(), 1);
        statuses(ring, SETTLED, MATCHED);
    }

    static void promise15_allAtOnceRoundACircle() {
        SettlementRing ring = ring(0, 0, 0, 0);
        trade(ring, 0, 1, 100, 900);
        trade(ring, 1, 2, 100, 900);
        trade(ring, 2, 0, 100, 900);
        best(ring, 5700);
        Checks.same("cycle", ring.cycle(), 3);
        Checks.same("units", ring.units(0, 0), 100);
        Checks.same("cash", ring.cash(1), 0);
    }

    static void promise15_soundnessBoundsWhatIsSettled() {
        // behind it the receiver has 30 units worth 300, so that a debt of 150 is just backed
        SettlementRing ring = ring(0, 100);
        trade(ring, 0, 1, 30, 251);
        best(ring, 0);
        ring.bring(1, 1);
        best(ring, 551);
        ring.block(0, 0, 71);
        best(ring, 0);
        ring.block(0, 0, 70);
        Checks.same("cycle", ring.cycle(), 1);
        Checks.same("cash", ring.cash(1), -150);
        Checks.is("isSound", ring.isSound(1));
        Checks.same("used", ring.used(1), 1.0);
    }

    static void promise15_anUnsoundAccountSettlesOnlyWhatMakesItSound() {
        SettlementRing ring = ring(0, 1000, 0);
        ring.bring(0, -500);
        ring.setPrice(0, 8);
        Checks.isNot("isSound", ring.isSound(0));
        trade(ring, 0, 1, 1, 10);
        best(ring, 0);
        trade(ring, 0, 1, 2, 110);
        best(ring, 126 + 18);
        Checks.same("cycle", ring.cycle(), 2);
        Checks.is("isSound", ring.isSound(0));
    }

    static void promise15_theSetThatIsWorthMost() {
        SettlementRing ring = ring(0, 1000);
        ring.block(0, 0, 90);
        trade(ring, 0, 1, 6, 10);
        trade(ring, 0, 1, 5, 9);
        trade(ring, 0, 1, 5, 8);
        best(ring, 117);
        Checks.same("cycle", ring.cycle(), 2);
        statuses(ring, MATCHED, SETTLED, SETTLED);
    }

    static void promise15_ofSeveralTheOneWithTheMostTrades() {
        SettlementRing ring = ring(0, 1000);
        ring.block(0, 0, 90);
        trade(ring, 0, 1, 10, 0, 9, 0);
        trade(ring, 0, 1, 4, 0);
        trade(ring, 0, 1, 6, 0);
        best(ring, 100);
        Checks.same("cycle", ring.cycle(), 2);
        statuses(ring, MATCHED, SETTLED, SETTLED);
    }

    static void promise15_ofThoseTheOneWithTheFirstCandidate() {
        SettlementRing ring = ring(0, 1000);
        ring.block(0, 0, 90);
        trade(ring, 0, 1, 5, 0, 1, 0);
        trade(ring, 0, 1, 4, 0, 3, 0);
        trade(ring, 0, 1, 6, 0, 1, 0);
        trade(ring, 0, 1, 5, 0, 2, 0);
        // both 1 and 2, and 0 and 3, are worth 100; trade 1 is the first candidate
        best(ring, 100);
        Checks.same("cycle", ring.cycle(), 2);
        statuses(ring, MATCHED, SETTLED, SETTLED, MATCHED);
    }

    static void promise15_ofTheSameRankTheLowestNumberIsFirst() {
        SettlementRing ring = ring(0, 1000);
        ring.block(0, 0, 93);
        for (int i = 0; i < 3; i++) {
            trade(ring, 0, 1, 5, 0, 4, 0);
        }
        Checks.same("cycle", ring.cycle(), 1);
        statuses(ring, SETTLED, MATCHED, MATCHED);
    }

    static void promise15_theFirstTenByPriorityAndAge() {
        SettlementRing ring = ring(0, 1000);
        for (int i = 0; i < 11; i++) {
            trade(ring, 0, 1, 1, i, i < 10 ? 1 : 0, 0);
        }
        best(ring, 10 * 10 + 45);
        Checks.same("cycle", ring.cycle(), 10);
        Checks.same("status of the 11th", ring.status(20), MATCHED);
        best(ring, 20);
        Checks.same("cycle", ring.cycle(), 1);
    }

    static void promise15_ageCountsLikePriority() {
        SettlementRing ring = ring(0, 1000);
        ring.hold(ring.instruct(0, 1, true, 0, 2, 0, 0, 1, 0));
        ring.instruct(1, 0, false, 0, 2, 0, 0, 0, 0);
        ring.endDay();
        ring.endDay();
        for (int i = 0; i < 10; i++) {
            trade(ring, 0, 1, 1, 0, 3, 0);
        }
        ring.hold(0);
        // the old trade has 1 and 2, so that it is the first of eleven, by its number
        best(ring, 110);
        Checks.same("cycle", ring.cycle(), 10);
        Checks.same("status of the old one", ring.status(0), SETTLED);
        Checks.same("status of the last one", ring.status(20), MATCHED);
    }

    static void promise15_twoThatAreWithEachOtherAreSettledAtOnce() {
        SettlementRing ring = ring(0, 1000, 0);
        trade(ring, 0, 1, 10, 0);
        trade(ring, 0, 2, 10, 51);
        ring.link(1, 0, true);
        best(ring, 0);
        ring.bring(2, 1);
        best(ring, 251);
        Checks.same("cycle", ring.cycle(), 2);
    }

    // ---- loans

    /** Account 0 owes 6 units to account 1, has 100 of cash and none of the units, which account 2 has. */
    private static SettlementRing forLoan() {
        SettlementRing ring = new SettlementRing();
        ring.open(NONE, false, 0, 100, 0);
        ring.open(NONE, false, 0, 1000, 0);
        ring.open(NONE, false, 0, 0, 0);
        ring.open(NONE, false, 0, 0, 0);
        ring.issue(2, 0, 10, 10, 200);
        ring.lend(2);
        return ring;
    }

    static void promise15_borrowsWhatIsLacking() {
        SettlementRing ring = forLoan();
        trade(ring, 0, 1, 6, 80);
        best(ring, 0);
        Checks.same("cycle", ring.cycle(), 1);
        Checks.same("loans", ring.loans(), 1);
        Checks.same("loan", ring.loan(0), 6);
        Checks.same("pledged", ring.pledged(0), 60);
        Checks.same("cash", ring.cash(0), 180);
        Checks.same("units of the lender", ring.units(2, 0), 4);
        Checks.same("units of the borrower", ring.units(0, 0), 0);
        Checks.same("messages of the lender", ring.messages(2), 0);
        Checks.same("messages of the borrower", ring.messages(0), 2);
    }

    static void promise15_borrowsFromSeveralByTheirNumbers() {
        SettlementRing ring = forLoan();
        trade(ring, 2, 0, 1, 0);
        trade(ring, 2, 1, 2, 0);
        trade(ring, 2, 3, 3, 0);
        ring.cycle();
        ring.lend(0);
        ring.lend(1);
        ring.lend(3);
        ring.block(3, 0, 1);
        // 0 delivers and 1 receives, so that 2 lends its 4 and 3 one of its 2 free ones
        trade(ring, 0, 1, 6, 0);
        Checks.same("cycle", ring.cycle(), 1);
        Checks.same("loans", ring.loans(), 2);
        Checks.same("loan", ring.loan(0), 4);
        Checks.same("loan", ring.loan(1), 1);
        Checks.same("units", ring.units(0, 0), 0);
        Checks.same("units", ring.units(1, 0), 8);
        Checks.same("units", ring.units(2, 0), 0);
        Checks.same("units", ring.units(3, 0), 2);
        Checks.same("pledged", ring.pledged(0), 50);
    }

    static void promise15_borrowsAllThatIsLackingOrNothing() {
        SettlementRing ring = forLoan();
        ring.block(2, 0, 5);
        trade(ring, 0, 1, 6, 80);
        Checks.same("cycle", ring.cycle(), 0);
        Checks.same("loans", ring.loans(), 0);
        Checks.same("units", ring.units(2, 0), 10);
        Checks.same("pledged", ring.pledged(0), 0);
        Checks.same("messages", ring.messages(0), 1);
        ring.block(2, 0, 4);
        Checks.same("cycle", ring.cycle(), 1);
    }

    static void promise15_borrowsNothingForALinkedTrade() {
        SettlementRing ring = forLoan();
        ring.instruct(2, 1, true, 0, 1, 0, 0, 9, 0);
        ring.instruct(1, 2, false, 0, 1, 0, 0, 0, 0);
        trade(ring, 0, 1, 6, 80);
        ring.link(1, 0, false);
        Checks.same("cycle", ring.cycle(), 1);
        statuses(ring, SETTLED, MATCHED);
        Checks.same("cycle, linked with one that is settled", ring.cycle(), 0);
        Checks.same("loans", ring.loans(), 0);
    }

    static void promise15_borrowsOnlyIfAllAreSound() {
        // the borrower would have 80 and 19 of cash, 60 of it pledged: it must not go below -21
        SettlementRing ring = forLoan();
        ring.bring(0, -100);
        trade(ring, 0, 1, 6, 59);
        Checks.same("cycle, the borrower unsound", ring.cycle(), 0);
        ring.bring(0, 1);
        Checks.same("cycle, the borrower sound", ring.cycle(), 1);

        SettlementRing other = forLoan();
        other.bring(1, -1000);
        trade(other, 0, 1, 6, 31);
        Checks.same("cycle, the receiver unsound", other.cycle(), 0);
        other.bring(1, 1);
        Checks.same("cycle, the receiver sound", other.cycle(), 1);

        SettlementRing third = forLoan();
        third.bring(2, -50);
        trade(third, 0, 1, 6, 0);
        Checks.same("cycle, the lender unsound", third.cycle(), 0);
        third.bring(2, 29);
        Checks.same("cycle, the lender unsound by 1", third.cycle(), 0);
        third.bring(2, 1);
        Checks.same("cycle, the lender sound", third.cycle(), 1);
    }

    static void promise15_givesLoansBackAheadOfAllElse() {
        SettlementRing ring = forLoan();
        trade(ring, 0, 1, 6, 0);
        ring.cycle();
        ring.setPrice(0, 20);
        trade(ring, 1, 0, 5, 0);
        ring.cycle();
        Checks.same("cycle with 5 units", ring.cycle(), 0);
        Checks.same("loan", ring.loan(0), 6);
        trade(ring, 1, 0, 1, 0);
        Checks.same("cycle that brings the 6th", ring.cycle(), 1);
        Checks.same("loan, which (1) came too early for", ring.loan(0), 6);
        ring.block(0, 0, 1);
        ring.cycle();
        Checks.same("loan, one unit being blocked", ring.loan(0), 6);
        ring.block(0, 0, 0);
        trade(ring, 0, 1, 6, 0);
        ring.lend(2);
        best(ring, 120);
        Checks.same("cycle, the units being given back first", ring.cycle(), 0);
        Checks.same("loan", ring.loan(0), NONE);
        Checks.same("units", ring.units(2, 0), 10);
        Checks.same("pledged", ring.pledged(0), 0);
        Checks.same("cash", ring.cash(0), 100);
        Checks.same("loans", ring.loans(), 1);
    }

    static void promise15_twentyLoansEverAndNoMore() {
        SettlementRing ring = new SettlementRing();
        ring.open(NONE, false, 0, 1000, 0);
        ring.open(NONE, false, 0, 1000, 0);
        for (int i = 2; i < 10; i++) {
            ring.open(NONE, false, 0, 0, 0);
        }
        ring.issue(1, 0, 80, 1, 0);
        for (int i = 2; i < 10; i++) {
            trade(ring, 1, i, 10, 0);
            ring.lend(i);
        }
        Checks.same("cycle", ring.cycle(), 8);
        trade(ring, 0, 1, 80, 0);
        Checks.same("cycle", ring.cycle(), 1);
        Checks.same("loans", ring.loans(), 8);
        giveAllBack(ring);
        trade(ring, 0, 1, 75, 0);
        Checks.same("cycle", ring.cycle(), 1);
        Checks.same("loans", ring.loans(), 16);
        giveAllBack(ring);
        trade(ring, 0, 1, 41, 0);
        Checks.same("cycle, which would make 21 loans", ring.cycle(), 0);
        Checks.same("loans", ring.loans(), 16);
        trade(ring, 0, 1, 40, 0);
        Checks.same("cycle", ring.cycle(), 1);
        Checks.same("loans", ring.loans(), 20);
        giveAllBack(ring);
        trade(ring, 0, 1, 1, 0);
        Checks.same("cycle, which would make the 21st loan", ring.cycle(), 0);
        Checks.same("loan", ring.loan(19), NONE);
    }

    private static void giveAllBack(SettlementRing ring) {
        trade(ring, 1, 0, (int) ring.units(1, 0), 0);
        ring.cycle();
        ring.cycle();
    }

    static void promise15_loansThenParts() {
        SettlementRing ring = forLoan();
        trade(ring, 2, 0, 2, 0);
        ring.cycle();
        ring.lend(2);
        trade(ring, 0, 1, 6, 61, 0, 2);
        Checks.same("cycle, in part", ring.cycle(), 0);
        Checks.same("tradeUnits", ring.tradeUnits(1), 4);
        Checks.same("tradeAmount", ring.tradeAmount(1), 61 - 20);
        ring.lend(2);
        Checks.same("cycle, the rest by a loan", ring.cycle(), 1);
        Checks.same("loan", ring.loan(0), 4);
        Checks.same("tradeUnits, the last ones", ring.tradeUnits(1), 4);
        Checks.same("cash", ring.cash(0), 161);
    }

    // ---- parts

    static void promise15_settlesAPartAndKeepsTheRest() {
        SettlementRing ring = ring(0, 1000);
        ring.block(0, 0, 93);
        trade(ring, 0, 1, 10, 99, 0, 7);
        Checks.same("cycle", ring.cycle(), 0);
        statuses(ring, MATCHED);
        Checks.same("tradeUnits", ring.tradeUnits(0), 3);
        Checks.same("tradeAmount", ring.tradeAmount(0), 30);
        Checks.same("units", ring.units(1, 0), 7);
        Checks.same("cash", ring.cash(0), 69);
        Checks.same("messages", ring.messages(0), 2);
        Checks.same("messages", ring.messages(1), 2);
        ring.block(0, 0, 91);
        Checks.same("cycle with 2 more, fewer than the least part", ring.cycle(), 0);
        Checks.same("tradeUnits", ring.tradeUnits(0), 3);
        ring.block(0, 0, 90);
        Checks.same("cycle with all 3", ring.cycle(), 1);
        Checks.same("cash", ring.cash(0), 99);
        Checks.same("messages", ring.messages(0), 3);
    }

    static void promise15_noPartBelowTheLeastOrWithoutOne() {
        SettlementRing ring = ring(0, 1000);
        ring.block(0, 0, 94);
        trade(ring, 0, 1, 10, 0, 0, 7);
        trade(ring, 0, 1, 10, 0, 0, 0);
        Checks.same("cycle", ring.cycle(), 0);
        Checks.same("tradeUnits", ring.tradeUnits(0), 10);
        Checks.same("tradeUnits", ring.tradeUnits(1), 10);
        ring.block(0, 0, 93);
        ring.cycle();
        Checks.same("tradeUnits", ring.tradeUnits(0), 3);
        Checks.same("tradeUnits", ring.tradeUnits(1), 10);
    }

    static void promise15_noPartOfALinkedTradeOrAnUnsoundOne() {
        SettlementRing ring = ring(0, 40);
        ring.block(0, 0, 90);
        trade(ring, 0, 1, 20, 200, 0, 1);
        trade(ring, 0, 1, 99, 0);
        ring.link(1, 0, false);
        ring.cycle();
        Checks.same("tradeUnits of the linked one", ring.tradeUnits(0), 20);
        ring.cancel(2);
        ring.cancel(3);
        // a part of 10 for 100, of which 40 is there and 50 is backed
        ring.cycle();
        Checks.same("tradeUnits of the unsound one", ring.tradeUnits(0), 20);
        ring.bring(1, 10);
        ring.cycle();
        Checks.same("tradeUnits", ring.tradeUnits(0), 10);
    }

    static void promise15_partsComeInTheOrderOfTheCandidates() {
        SettlementRing ring = ring(0, 1000);
        ring.block(0, 0, 95);
        trade(ring, 0, 1, 10, 0, 1, 1);
        trade(ring, 0, 1, 10, 0, 2, 1);
        ring.cycle();
        Checks.same("tradeUnits", ring.tradeUnits(0), 10);
        Checks.same("tradeUnits", ring.tradeUnits(1), 5);
    }

    static void promise16_bestPassesOverTheLoansThatWouldBeGivenBack() {
        SettlementRing ring = forLoan();
        trade(ring, 0, 1, 6, 0);
        ring.cycle();
        trade(ring, 1, 0, 6, 0);
        ring.cycle();
        trade(ring, 0, 3, 6, 7);
        Checks.same("best", ring.best(), 67);
        Checks.same("loan, as best changes nothing", ring.loan(0), 6);
    }

    static void promise16_bestOfTenThatHinderEachOther() {
        SettlementRing ring = ring(0, 0, 0);
        ring.block(0, 0, 50);
        int[] units = {23, 19, 17, 13, 11, 7, 5, 3, 2, 1};
        for (int i = 0; i < 10; i++) {
            trade(ring, 0, 1 + i % 2, units[i], units[i] * 5);
        }
        // each receiver can just pay: 50 units are worth 500, and 250 are paid for them
        Checks.same("best", ring.best(), 750);
        String before = Sight.of(ring);
        ring.best();
        Checks.same("what there is behind best", Sight.of(ring), before);
        // 8 trades have 59 units at least, and of sets of 7 there is one with 50
        Checks.same("cycle", ring.cycle(), 7);
        Checks.same("units", ring.units(0, 0), 50);
        Checks.same("cash", ring.cash(0), 250);
    }

    static void promise17_bestByAllAnswersTheSame() {
        SettlementRing ring = ring(0, 0, 0);
        ring.block(0, 0, 50);
        int[] units = {23, 19, 17, 13, 11, 7, 5, 3, 2, 1};
        for (int i = 0; i < 10; i++) {
            trade(ring, 0, 1 + i % 2, units[i], units[i] * 5 + i % 3);
        }
        ring.link(0, 1, true);
        ring.link(2, 9, false);
        ring.link(3, 4, true);
        Checks.same("bestByAll", ring.bestByAll(), ring.best());
        String before = Sight.of(ring);
        ring.bestByAll();
        Checks.same("what there is behind bestByAll", Sight.of(ring), before);
    }

    static void promise17_bestByAllIsNoneIfNoneCanBeSettled() {
        SettlementRing ring = ring(0, 0);
        trade(ring, 0, 1, 101, 0);
        trade(ring, 0, 1, 1, 6);
        Checks.same("bestByAll", ring.bestByAll(), 0);
        ring.bring(1, 1);
        Checks.same("bestByAll", ring.bestByAll(), 16);
    }

    static void promise20_recallsALoan() {
        SettlementRing ring = forLoan();
        trade(ring, 0, 1, 6, 0);
        ring.cycle();
        Checks.same("recall", ring.recall(0), 6);
        Checks.badState(ring, "recall of one that is recalled", () -> ring.recall(0));
        Checks.noSuch(ring, "recall(1)", () -> ring.recall(1));
        Checks.noSuch(ring, "recall(-1)", () -> ring.recall(-1));
        trade(ring, 0, 3, 1, 0);
        ring.cycle();
        trade(ring, 1, 0, 6, 0);
        ring.cycle();
        ring.cycle();
        Checks.same("loan", ring.loan(0), NONE);
        Checks.badState(ring, "recall of one that was given back", () -> ring.recall(0));
        Checks.same("recall of the other one", ring.recall(1), 1);
    }

    static void promise20_aLoanGivenBackThatWasNotRecalled() {
        SettlementRing ring = forLoan();
        trade(ring, 0, 1, 6, 0);
        ring.cycle();
        trade(ring, 1, 0, 6, 0);
        ring.cycle();
        ring.cycle();
        Checks.badState(ring, "recall", () -> ring.recall(0));
        Checks.same("fines", ring.endDay(), 0);
    }
}
