/**
 * What the document says of the very edge of things: what is just as many, as much, as old or as late
 * as told, what happens at 0, and which one it is of several that are alike.
 */
final class EdgeTests {
    private static final int NONE = SettlementRing.NONE;
    private static final int OPEN = SettlementRing.OPEN;
    private static final int MATCHED = SettlementRing.MATCHED;
    private static final int SETTLED = SettlementRing.SETTLED;
    private static final int CANCELLED = SettlementRing.CANCELLED;

    private EdgeTests() {
    }

    /** Accounts with so much cash; the first one has all 100 units of price 10 and rate 100. */
    private static SettlementRing ring(int... cash) {
        SettlementRing ring = Town.accounts(cash);
        ring.issue(0, 0, 100, 10, 100);
        return ring;
    }

    /** A trade of the security 0 that is due today. */
    private static int trade(SettlementRing ring, int from, int to, int units, int amount, int priority, int least) {
        return Town.trade(ring, from, to, 0, units, amount, ring.today(), priority, least);
    }

    private static void statuses(SettlementRing ring, int... due) {
        for (int i = 0; i < due.length; i++) {
            Checks.same("status of trade " + i, ring.status(2 * i), due[i]);
        }
    }

    // ---- accounts

    static void promise34_soundDownToZeroOfFreeCashAndLimitTogether() {
        SettlementRing ring = new SettlementRing();
        ring.open(NONE, false, 0, 0, 7);
        ring.bring(0, -7);
        Checks.is("isSound, both together being 0", ring.isSound(0));
        Checks.badState(ring, "bring(0, -1)", () -> ring.bring(0, -1));
        ring.issue(0, 0, 3, 1, 0);
        ring.bring(0, -1);
        Checks.is("isSound, both together being 0 again", ring.isSound(0));
        ring.block(0, 0, 1);
        Checks.is("isSound, as 2 by 2 is 1", ring.isSound(0));
        ring.block(0, 0, 2);
        Checks.isNot("isSound, as 1 by 2 is 0", ring.isSound(0));
    }

    static void promise09_unsoundnessMattersOnlyWhenCashIsTaken() {
        SettlementRing ring = new SettlementRing();
        ring.open(NONE, false, 0, 0, 0);
        ring.issue(0, 0, 10, 10, 0);
        ring.bring(0, -50);
        ring.setPrice(0, 1);
        Checks.same("bring of 0 to an unsound account", ring.bring(0, 0), -50);
        Checks.same("bring of 1 to an unsound account", ring.bring(0, 1), -49);
        Checks.badState(ring, "bring of -1 to an unsound account", () -> ring.bring(0, -1));
        Checks.same("bring up to what is sound", ring.bring(0, 44), -5);
        Checks.badState(ring, "bring of -1 at the edge", () -> ring.bring(0, -1));
        ring.bring(0, 1);
        Checks.same("bring of -1 above the edge", ring.bring(0, -1), -5);
    }

    static void promise08_blockingCanMakeAnAccountUnsound() {
        SettlementRing ring = new SettlementRing();
        ring.open(NONE, false, 0, 0, 0);
        ring.issue(0, 0, 10, 10, 0);
        ring.bring(0, -50);
        Checks.same("block", ring.block(0, 0, 10), 0);
        Checks.isNot("isSound", ring.isSound(0));
        Checks.same("used", ring.used(0), Double.POSITIVE_INFINITY);
    }

    // ---- instructions and trades

    /** Whether instructions of these two amounts become a trade. */
    private static boolean fit(int delivered, int received) {
        SettlementRing ring = ring(0, 0);
        ring.instruct(0, 1, true, 0, 1, delivered, 0, 0, 0);
        ring.instruct(1, 0, false, 0, 1, received, 0, 0, 0);
        return ring.status(0) == MATCHED;
    }

    static void promise10_amountsThatDifferByTwoAtMost() {
        Checks.is("matched, 2 more", fit(10, 12));
        Checks.is("matched, 2 less", fit(10, 8));
        Checks.isNot("matched, 3 more", fit(10, 13));
        Checks.isNot("matched, 3 less", fit(10, 7));
        Checks.is("matched, 0 and 2", fit(0, 2));
        Checks.isNot("matched, 3 and 0", fit(3, 0));
        Checks.is("matched, at the greatest amounts", fit(100000000, 99999998));
        Checks.isNot("matched, of the least and the greatest amount", fit(0, 100000000));
    }

    static void promise11_amountsThatDifferByTwoAtMost() {
        for (int amount = 3; amount <= 17; amount++) {
            SettlementRing ring = ring(0, 0);
            ring.instruct(0, 1, true, 0, 1, 10, 0, 0, 0);
            ring.instruct(1, 0, false, 0, 1, 1000, 0, 0, 0);
            boolean isFit = amount >= 8 && amount <= 12;
            Checks.same("amend to " + amount, ring.amend(1, amount), isFit ? 0 : NONE);
            Checks.same("status", ring.status(0), isFit ? MATCHED : OPEN);
        }
    }

    static void promise11_ofSeveralTheLeastDifferenceThenTheLowestNumber() {
        SettlementRing ring = ring(0, 0);
        for (int amount : new int[] {12, 8, 11, 9, 9, 10}) {
            ring.instruct(0, 1, true, 0, 1, amount, 0, 0, 0);
        }
        int[] partners = {5, 2, 3, 4, 0, 1};
        for (int i = 0; i < 6; i++) {
            ring.instruct(1, 0, false, 0, 1, 1000, 0, 0, 0);
            Checks.same("amend", ring.amend(6 + i, 10), i);
            Checks.same("tradeOf(" + partners[i] + ")", ring.tradeOf(partners[i]), i);
        }
    }

    static void promise10_onlyOneThatIsOpenIsMatched() {
        SettlementRing ring = ring(0, 0);
        trade(ring, 0, 1, 1, 10, 0, 0);
        ring.instruct(0, 1, true, 0, 1, 10, 0, 0, 0);
        ring.cancel(2);
        ring.instruct(1, 0, false, 0, 1, 10, 0, 0, 0);
        Checks.same("status, one being MATCHED and one CANCELLED", ring.status(3), OPEN);
        ring.cycle();
        ring.instruct(1, 0, false, 0, 1, 10, 0, 0, 0);
        Checks.same("status, one being SETTLED", ring.status(4), OPEN);
    }

    static void promise10_aTradeTakesTheGreaterPriorityOfEitherSide() {
        int[][] both = {{3, 5}, {5, 3}};
        for (int[] of : both) {
            SettlementRing ring = ring(0, 0);
            ring.block(0, 0, 99);
            trade(ring, 0, 1, 1, 0, 4, 0);
            ring.instruct(0, 1, true, 0, 1, 0, 0, of[0], 0);
            ring.instruct(1, 0, false, 0, 1, 0, 0, of[1], 0);
            ring.cycle();
            statuses(ring, MATCHED, SETTLED);
        }
    }

    static void promise10_aTradeTakesTheLesserAmountOfEitherSide() {
        SettlementRing ring = ring(0, 0);
        ring.instruct(0, 1, true, 0, 1, 11, 0, 0, 0);
        ring.instruct(1, 0, false, 0, 1, 9, 0, 0, 0);
        ring.instruct(0, 1, true, 0, 1, 9, 0, 0, 0);
        ring.instruct(1, 0, false, 0, 1, 11, 0, 0, 0);
        Checks.same("tradeAmount", ring.tradeAmount(0), 9);
        Checks.same("tradeAmount", ring.tradeAmount(1), 9);
    }

    static void promise15_aTradeIsDueFromItsDateOn() {
        SettlementRing ring = ring(0, 0);
        Town.trade(ring, 0, 1, 0, 1, 0, 1, 0, 0);
        Checks.badState(ring, "causer on the day ahead", () -> ring.causer(0));
        Checks.same("best on the day ahead", ring.best(), 0);
        Checks.same("cycle on the day ahead", ring.cycle(), 0);
        ring.endDay();
        Checks.same("causer on the day", ring.causer(0), 1);
        Checks.same("best on the day", ring.best(), 10);
        ring.endDay();
        Checks.same("best behind the day", ring.best(), 10);
        Checks.same("cycle behind the day", ring.cycle(), 1);
    }

    static void promise12_whatWasAskedStaysAskedWhileItIsPending() {
        SettlementRing ring = ring(0, 0);
        trade(ring, 0, 1, 500, 0, 0, 1);
        Checks.isNot("cancel by the deliverer", ring.cancel(0));
        ring.cycle();
        ring.endDay();
        ring.hold(0);
        Checks.same("tradeUnits behind a part", ring.tradeUnits(0), 400);
        Checks.is("cancel by the receiver", ring.cancel(1));
        Checks.same("status", ring.status(0), CANCELLED);
        Checks.same("tradeUnits, the last ones", ring.tradeUnits(0), 400);
    }

    static void promise14_aLinkOfBothInEitherWay() {
        SettlementRing ring = ring(0, 0);
        for (int i = 0; i < 3; i++) {
            trade(ring, 0, 1, 1, 0, 0, 0);
        }
        Checks.same("link", ring.link(1, 0, true), 1);
        Checks.badState(ring, "link(1, 0, true)", () -> ring.link(1, 0, true));
        Checks.badState(ring, "link(0, 1, true)", () -> ring.link(0, 1, true));
        Checks.badState(ring, "link(1, 0, false)", () -> ring.link(1, 0, false));
        Checks.badState(ring, "link(0, 1, false)", () -> ring.link(0, 1, false));
        Checks.same("link", ring.link(2, 0, false), 2);
        Checks.badState(ring, "link(0, 2, false)", () -> ring.link(0, 2, false));
        Checks.badState(ring, "link(0, 2, true)", () -> ring.link(0, 2, true));
        Checks.same("link", ring.link(2, 1, false), 3);
    }

    static void promise14_aTradeWithoutALinkToTheOtherOneIsFree() {
        SettlementRing ring = ring(0, 0);
        for (int i = 0; i < 4; i++) {
            trade(ring, 0, 1, i == 3 ? 500 : 1, 0, 0, 0);
        }
        ring.link(0, 3, false);
        ring.link(3, 1, false);
        ring.cycle();
        // the second one of a link BEHIND needs nothing of the first one
        statuses(ring, MATCHED, SETTLED, SETTLED, MATCHED);
    }

    static void promise14_withOneThatIsSettledAlready() {
        SettlementRing ring = ring(0, 0);
        trade(ring, 0, 1, 1, 0, 0, 0);
        trade(ring, 0, 1, 2, 0, 0, 0);
        trade(ring, 0, 1, 3, 0, 0, 0);
        ring.link(1, 0, false);
        ring.link(2, 0, false);
        ring.hold(2);
        ring.hold(4);
        Checks.same("cycle", ring.cycle(), 1);
        ring.hold(2);
        Checks.same("best of one BEHIND what is settled", ring.best(), 20);
        Checks.same("bestByAll of one BEHIND what is settled", ring.bestByAll(), 20);
        Checks.same("cycle", ring.cycle(), 1);
        statuses(ring, SETTLED, SETTLED, MATCHED);
    }

    static void promise14_linksStayAsTheyAreWhenAnotherOneIsGone() {
        SettlementRing ring = ring(0, 0);
        for (int i = 0; i < 5; i++) {
            trade(ring, 0, 1, i == 4 ? 500 : 1, 0, 0, 0);
        }
        ring.link(0, 1, false);
        ring.link(2, 3, true);
        ring.link(4, 2, true);
        ring.cancel(0);
        ring.cancel(1);
        // WITH the trade 4, which can't be settled, is 2, and WITH that is 3
        Checks.same("cycle", ring.cycle(), 1);
        statuses(ring, CANCELLED, SETTLED, MATCHED, MATCHED, MATCHED);
        ring.cancel(8);
        ring.cancel(9);
        Checks.same("cycle", ring.cycle(), 2);

        SettlementRing other = ring(0, 0);
        for (int i = 0; i < 4; i++) {
            trade(other, 0, 1, i == 2 ? 500 : 1, 0, 0, 0);
        }
        other.link(0, 1, true);
        other.link(2, 3, false);
        other.cancel(0);
        other.cancel(1);
        // the trade 2 is BEHIND 3, so that 3 needs nothing
        Checks.same("cycle", other.cycle(), 2);
        statuses(other, CANCELLED, SETTLED, MATCHED, SETTLED);
    }

    static void promise14_withWhatWillNotBeACandidate() {
        SettlementRing ring = ring(0, 0);
        trade(ring, 0, 1, 1, 0, 0, 0);
        Town.trade(ring, 0, 1, 0, 1, 0, 1, 0, 0);
        ring.link(1, 0, true);
        Checks.same("best, WITH one that is not due", ring.best(), 0);
        Checks.same("cycle, WITH one that is not due", ring.cycle(), 0);
        ring.endDay();
        Checks.same("cycle", ring.cycle(), 2);
    }

    // ---- the best set

    static void promise15_ofTheSameSumOfPriorityAndAgeTheLowestNumber() {
        SettlementRing ring = ring(0, 0);
        ring.block(0, 0, 98);
        trade(ring, 0, 1, 2, 0, 1, 0);
        ring.hold(0);
        ring.endDay();
        ring.hold(0);
        trade(ring, 0, 1, 2, 0, 2, 0);
        ring.cycle();
        // 1 and the age 1 are as much as 2
        statuses(ring, SETTLED, MATCHED);
    }

    static void promise15_theEleventhCandidateIsNone() {
        SettlementRing ring = ring(0, 0);
        ring.block(0, 0, 100);
        for (int i = 0; i < 10; i++) {
            trade(ring, 0, 1, 50, 0, 1, 0);
        }
        trade(ring, 0, 1, 1, 0, 0, 0);
        ring.block(0, 0, 99);
        Checks.same("best, though the 11th could be settled", ring.best(), 0);
        Checks.same("bestByAll, though the 11th could be settled", ring.bestByAll(), 0);
        Checks.same("cycle, though the 11th could be settled", ring.cycle(), 0);
        ring.hold(0);
        Checks.same("best, one being held", ring.best(), 10);
        Checks.same("cycle, one being held", ring.cycle(), 1);
        Checks.same("status of the 11th", ring.status(20), SETTLED);
    }

    static void promise15_theEleventhGetsNoLoanAndNoPart() {
        SettlementRing ring = ring(0, 0, 10000, 0);
        ring.lend(0);
        for (int i = 0; i < 10; i++) {
            trade(ring, 1, 3, 500, 0, 1, 0);
        }
        trade(ring, 2, 3, 1, 0, 0, 0);
        trade(ring, 0, 3, 101, 0, 0, 1);
        Checks.same("cycle", ring.cycle(), 0);
        Checks.same("loans", ring.loans(), 0);
        Checks.same("tradeUnits of the 12th", ring.tradeUnits(11), 101);
        ring.hold(0);
        ring.hold(2);
        Checks.same("cycle, the 11th borrowing", ring.cycle(), 1);
        Checks.same("loans", ring.loans(), 1);
        Checks.same("tradeUnits of the 12th, of which 99 were there", ring.tradeUnits(11), 2);
    }

    static void promise15_candidatesAreFoundOnce() {
        SettlementRing ring = ring(0, 0);
        for (int i = 0; i < 10; i++) {
            trade(ring, 0, 1, 1, 0, 1, 0);
        }
        trade(ring, 0, 1, 200, 0, 0, 1);
        Checks.same("cycle", ring.cycle(), 10);
        Checks.same("tradeUnits of the 11th, which was no candidate", ring.tradeUnits(10), 200);
        Checks.same("cycle", ring.cycle(), 0);
        Checks.same("tradeUnits of the 11th", ring.tradeUnits(10), 110);
    }

    static void promise15_loansAreGivenBackAheadOfTheCandidatesBeingSettled() {
        SettlementRing ring = ring(0, 1000, 0);
        ring.lend(0);
        trade(ring, 1, 2, 5, 0, 0, 0);
        ring.cycle();
        trade(ring, 2, 1, 5, 0, 0, 0);
        ring.cycle();
        ring.block(0, 0, 95);
        // the 5 units that account 1 has go back first, and so account 0 has them to deliver
        trade(ring, 0, 2, 5, 0, 0, 0);
        Checks.same("best, without the loan given back", ring.best(), 0);
        Checks.same("cycle", ring.cycle(), 1);
        Checks.same("loan", ring.loan(0), NONE);
    }

    static void promise15_worthIsTheAmountAndTheUnits() {
        SettlementRing ring = ring(0, 1000);
        ring.block(0, 0, 95);
        trade(ring, 0, 1, 5, 0, 0, 0);
        trade(ring, 0, 1, 4, 11, 0, 0);
        Checks.same("best", ring.best(), 51);
        ring.cycle();
        statuses(ring, MATCHED, SETTLED);
    }

    static void promise15_ofTheSameWorthTheMostTrades() {
        SettlementRing ring = ring(0, 1000);
        ring.block(0, 0, 95);
        trade(ring, 0, 1, 5, 0, 9, 0);
        trade(ring, 0, 1, 2, 0, 0, 0);
        trade(ring, 0, 1, 3, 0, 0, 0);
        ring.cycle();
        statuses(ring, MATCHED, SETTLED, SETTLED);
    }

    static void promise15_worthMoreIsAheadOfMoreTrades() {
        SettlementRing ring = ring(0, 1000);
        ring.block(0, 0, 95);
        trade(ring, 0, 1, 5, 1, 0, 0);
        trade(ring, 0, 1, 2, 0, 9, 0);
        trade(ring, 0, 1, 3, 0, 9, 0);
        ring.cycle();
        statuses(ring, SETTLED, MATCHED, MATCHED);
    }

    static void promise15_ofTheSameWorthAndSizeTheFirstCandidateThatIsNotInBoth() {
        SettlementRing ring = ring(0, 1000);
        ring.block(0, 0, 92);
        trade(ring, 0, 1, 3, 0, 7, 0);
        trade(ring, 0, 1, 4, 0, 6, 0);
        trade(ring, 0, 1, 1, 0, 9, 0);
        trade(ring, 0, 1, 5, 0, 5, 0);
        trade(ring, 0, 1, 2, 0, 8, 0);
        // 8 units are {0, 3}, {2, 4, 3} and {2, 0, 1}; of the last two both have 2, and 4 is ahead of 0
        ring.cycle();
        statuses(ring, MATCHED, MATCHED, SETTLED, SETTLED, SETTLED);
    }

    static void promise15_theFirstCandidateThatIsNotInBothIsByTheirOrder() {
        SettlementRing ring = ring(0, 1000);
        ring.block(0, 0, 95);
        trade(ring, 0, 1, 1, 0, 0, 0);
        trade(ring, 0, 1, 4, 0, 0, 0);
        trade(ring, 0, 1, 2, 0, 1, 0);
        trade(ring, 0, 1, 3, 0, 0, 0);
        // {2, 3} and {0, 1} are worth 50; the trade 2 is the first candidate
        ring.cycle();
        statuses(ring, MATCHED, MATCHED, SETTLED, SETTLED);
    }

    static void promise15_eachAccountOfASetMustBeSound() {
        // 10 units worth 100 back 50: of account 1 the cash may go down to -50
        SettlementRing ring = ring(0, 0);
        trade(ring, 0, 1, 10, 51, 0, 0);
        Checks.same("cycle, 51 being too much", ring.cycle(), 0);
        trade(ring, 0, 1, 10, 50, 0, 0);
        Checks.same("cycle, 50 being backed", ring.cycle(), 1);
        statuses(ring, MATCHED, SETTLED);
        Checks.same("used", ring.used(1), 1.0);
    }

    static void promise15_anUnsoundAccountOutsideOfTheSetDoesNotMatter() {
        SettlementRing ring = ring(0, 0, 0);
        ring.issue(2, 0, 10, 10, 0);
        ring.bring(2, -50);
        ring.setPrice(1, 1);
        Checks.isNot("isSound", ring.isSound(2));
        trade(ring, 0, 1, 10, 0, 0, 0);
        Checks.same("cycle", ring.cycle(), 1);
    }

    static void promise15_theDelivererCanBecomeUnsoundByWhatItsUnitsBacked() {
        SettlementRing ring = ring(0, 1000);
        ring.bring(0, -450);
        trade(ring, 0, 1, 20, 49, 0, 0);
        Checks.same("cycle, 40 units less back 400, and 401 are owed", ring.cycle(), 0);
        trade(ring, 0, 1, 20, 50, 0, 0);
        Checks.same("cycle", ring.cycle(), 1);
        statuses(ring, MATCHED, SETTLED);
    }

    static void promise15_aCycleGoesByWhatIsThereNotByWhatBestFoundAhead() {
        SettlementRing ring = ring(0, 0);
        trade(ring, 0, 1, 5, 0, 0, 0);
        Checks.same("best", ring.best(), 50);
        Checks.same("bestByAll", ring.bestByAll(), 50);
        ring.block(0, 0, 96);
        Checks.same("cycle", ring.cycle(), 0);
        statuses(ring, MATCHED);
        Checks.same("units", ring.units(1, 0), 0);
    }

    static void promise16_noneIsWorthNothing() {
        SettlementRing ring = ring(0, 0);
        Checks.same("best without trades", ring.best(), 0);
        Checks.same("bestByAll without trades", ring.bestByAll(), 0);
        trade(ring, 1, 0, 1, 0, 0, 0);
        Checks.same("best of what can't be settled", ring.best(), 0);
        Checks.same("bestByAll of what can't be settled", ring.bestByAll(), 0);
    }

    // ---- loans

    /** Account 0 has no units, 100 of cash, and delivers to 1; 2 and 3 lend the units that they have. */
    private static SettlementRing lenders(int units, int other) {
        SettlementRing ring = Town.accounts(100, 100, 0, 0);
        ring.issue(2, 0, units + other, 1, 0);
        if (other > 0) {
            Town.trade(ring, 2, 3, other, 0);
            ring.cycle();
        }
        ring.lend(2);
        ring.lend(3);
        return ring;
    }

    static void promise15_borrowsWhenOneUnitIsLacking() {
        SettlementRing ring = lenders(5, 5);
        trade(ring, 2, 0, 4, 0, 0, 0);
        ring.cycle();
        trade(ring, 0, 1, 5, 0, 0, 0);
        Checks.same("cycle", ring.cycle(), 1);
        Checks.same("loans", ring.loans(), 1);
        Checks.same("loan, by the account 2", ring.loan(0), 1);
        Checks.same("units", ring.units(2, 0), 0);
        Checks.same("units", ring.units(3, 0), 5);
    }

    static void promise15_borrowsNothingWhenNoneIsLacking() {
        SettlementRing ring = lenders(5, 5);
        trade(ring, 2, 0, 5, 0, 0, 0);
        ring.cycle();
        trade(ring, 0, 1, 5, 101, 0, 0);
        ring.bring(1, -99);
        Checks.same("cycle, the receiver lacking cash", ring.cycle(), 0);
        Checks.same("loans", ring.loans(), 0);
    }

    static void promise15_borrowsByTheNumbersOfTheLenders() {
        SettlementRing ring = lenders(5, 5);
        trade(ring, 0, 1, 5, 0, 0, 0);
        ring.cycle();
        Checks.same("loans, all from the account 2", ring.loans(), 1);
        Checks.same("units", ring.units(2, 0), 0);
        Checks.same("units", ring.units(3, 0), 5);
        SettlementRing other = lenders(5, 5);
        trade(other, 0, 1, 6, 0, 0, 0);
        other.cycle();
        Checks.same("loans, the last one from the account 3", other.loans(), 2);
        Checks.same("loan", other.loan(0), 5);
        Checks.same("loan", other.loan(1), 1);
        Checks.same("units", other.units(3, 0), 4);
    }

    static void promise15_borrowsWhatIsFreeAlone() {
        SettlementRing ring = lenders(5, 5);
        ring.block(2, 0, 5);
        ring.block(3, 0, 1);
        trade(ring, 0, 1, 5, 0, 0, 0);
        Checks.same("cycle, 4 being free", ring.cycle(), 0);
        ring.block(2, 0, 4);
        Checks.same("cycle, 5 being free", ring.cycle(), 1);
        Checks.same("loan", ring.loan(0), 1);
        Checks.same("loan", ring.loan(1), 4);
    }

    static void promise15_aLoanPledgesItsWorthOfTheTimeItIsMade() {
        SettlementRing ring = lenders(5, 5);
        ring.setPrice(0, 7);
        trade(ring, 0, 1, 6, 0, 0, 0);
        ring.cycle();
        Checks.same("pledged", ring.pledged(0), 42);
        ring.setPrice(0, 9);
        Checks.same("pledged, whatever the price", ring.pledged(0), 42);
        trade(ring, 1, 0, 5, 0, 0, 0);
        ring.cycle();
        ring.cycle();
        Checks.same("loan", ring.loan(0), NONE);
        Checks.same("loan", ring.loan(1), 1);
        Checks.same("pledged, less that of the loan that is back", ring.pledged(0), 7);
    }

    static void promise15_loansGoBackByTheirNumbersWithAsManyFreeUnits() {
        SettlementRing ring = lenders(5, 5);
        trade(ring, 0, 1, 7, 0, 0, 0);
        ring.cycle();
        Checks.same("loan", ring.loan(0), 5);
        Checks.same("loan", ring.loan(1), 2);
        trade(ring, 1, 0, 4, 0, 0, 0);
        ring.cycle();
        ring.cycle();
        // 4 units are too few for the first loan, but not for the second one
        Checks.same("loan", ring.loan(0), 5);
        Checks.same("loan", ring.loan(1), NONE);
        Checks.same("units", ring.units(0, 0), 2);
        trade(ring, 1, 0, 3, 0, 0, 0);
        ring.cycle();
        ring.block(0, 0, 1);
        ring.cycle();
        Checks.same("loan, 4 of 5 units being free", ring.loan(0), 5);
        ring.block(0, 0, 0);
        ring.cycle();
        Checks.same("loan, 5 of 5 units being free", ring.loan(0), NONE);
    }

    static void promise15_theLoanOfTheLowestNumberGoesBackFirst() {
        SettlementRing ring = lenders(5, 5);
        trade(ring, 0, 1, 10, 0, 0, 0);
        ring.cycle();
        trade(ring, 1, 0, 9, 0, 0, 0);
        ring.cycle();
        ring.cycle();
        Checks.same("loan", ring.loan(0), NONE);
        Checks.same("loan", ring.loan(1), 5);
        Checks.same("units", ring.units(0, 0), 4);
        Checks.same("units of the lender", ring.units(2, 0), 5);
    }

    static void promise15_theFirstCandidateBorrowsFirst() {
        SettlementRing ring = lenders(5, 0);
        ring.open(NONE, false, 0, 100, 0);
        trade(ring, 0, 1, 4, 0, 0, 0);
        trade(ring, 4, 1, 4, 0, 1, 0);
        Checks.same("cycle", ring.cycle(), 1);
        Checks.same("pledged", ring.pledged(0), 0);
        Checks.same("pledged", ring.pledged(4), 4);
    }

    static void promise15_oneThatBorrowsDoesNotWaitForOneThatCanNot() {
        SettlementRing ring = lenders(5, 0);
        ring.open(NONE, false, 0, 100, 0);
        trade(ring, 0, 1, 6, 0, 9, 0);
        trade(ring, 4, 1, 5, 0, 0, 0);
        Checks.same("cycle", ring.cycle(), 1);
        Checks.same("pledged", ring.pledged(0), 0);
        Checks.same("pledged", ring.pledged(4), 5);
    }

    static void promise15_whatIsBorrowedMayComeFromWhatWasJustSettled() {
        SettlementRing ring = lenders(5, 0);
        trade(ring, 2, 3, 5, 0, 0, 0);
        trade(ring, 0, 1, 5, 0, 9, 0);
        // of the best set account 3 gets the units, and lends them then
        Checks.same("cycle", ring.cycle(), 2);
        Checks.same("units", ring.units(1, 0), 5);
        Checks.same("units", ring.units(3, 0), 0);
    }

    /** Whether a trade of one unit for so much is settled by a loan, the unit being worth 40. */
    private static boolean isLent(int borrowersCash, int receiversCash, int lendersDebt, int amount) {
        SettlementRing ring = Town.accounts(borrowersCash, receiversCash, 0);
        ring.issue(2, 0, 2, 40, 0);
        ring.bring(2, -lendersDebt);
        ring.lend(2);
        trade(ring, 0, 1, 1, amount, 0, 0);
        return ring.cycle() == 1;
    }

    static void promise15_theDelivererMustBeSoundBehindALoan() {
        Checks.is("settled, 40 being pledged of 40", isLent(40, 100, 0, 0));
        Checks.isNot("settled, 40 being pledged of 39", isLent(39, 100, 0, 0));
        Checks.is("settled, 40 being pledged of 30 and 10", isLent(30, 100, 0, 10));
        Checks.isNot("settled, 40 being pledged of 29 and 10", isLent(29, 100, 0, 10));
    }

    static void promise15_theReceiverMustBeSoundBehindALoan() {
        Checks.is("settled, 50 being paid by 30 and 20 backed", isLent(40, 30, 0, 50));
        Checks.isNot("settled, 50 being paid by 29 and 20 backed", isLent(40, 29, 0, 50));
    }

    static void promise15_whoLendsMustBeSoundBehindALoan() {
        Checks.is("settled, a debt of 20 being backed by one unit", isLent(40, 100, 20, 0));
        Checks.isNot("settled, a debt of 21 being backed by one unit", isLent(40, 100, 21, 0));
    }

    /** Whether account 0, with two units worth 40 each and a debt, lends one. */
    private static boolean doesTheFirstAccountLend(int debt) {
        SettlementRing ring = Town.accounts(0, 40, 100);
        ring.issue(0, 0, 2, 40, 0);
        ring.bring(0, -debt);
        ring.lend(0);
        trade(ring, 1, 2, 1, 0, 0, 0);
        return ring.cycle() == 1;
    }

    static void promise15_whoLendsMustBeSoundTheFirstAccountToo() {
        Checks.is("settled, a debt of 20 being backed by one unit", doesTheFirstAccountLend(20));
        Checks.isNot("settled, a debt of 21 being backed by one unit", doesTheFirstAccountLend(21));
    }

    static void promise15_twentyLoansAtMostThoseOfTheFirstAccountCounted() {
        SettlementRing ring = Town.accounts(0, 0, 1000, 0);
        ring.issue(0, 0, 50, 1, 0);
        Town.trade(ring, 0, 1, 25, 0);
        ring.cycle();
        ring.lend(0);
        ring.lend(1);
        for (int i = 0; i < 9; i++) {
            lendOneEach(ring);
        }
        Checks.same("loans", ring.loans(), 18);
        ring.lend(1);
        trade(ring, 2, 3, 1, 0, 0, 0);
        Checks.same("cycle that makes the 19th loan", ring.cycle(), 1);
        Checks.same("loans", ring.loans(), 19);
        ring.lend(1);
        ring.block(0, 0, (int) ring.units(0, 0) - 1);
        trade(ring, 2, 3, 2, 0, 0, 0);
        Checks.same("cycle that would make the loans 20 and 21", ring.cycle(), 0);
        Checks.same("loans", ring.loans(), 19);
        ring.block(0, 0, (int) ring.units(0, 0) - 2);
        Checks.same("cycle that makes the 20th loan", ring.cycle(), 1);
        Checks.same("loans", ring.loans(), 20);
        trade(ring, 2, 3, 1, 0, 0, 0);
        Checks.same("cycle that would make the 21st loan", ring.cycle(), 0);
        Checks.same("loans", ring.loans(), 20);
    }

    /** A trade of two units, one of which is borrowed from account 0 and one from account 1. */
    private static void lendOneEach(SettlementRing ring) {
        ring.block(0, 0, (int) ring.units(0, 0) - 1);
        trade(ring, 2, 3, 2, 0, 0, 0);
        Checks.same("cycle", ring.cycle(), 1);
        ring.block(0, 0, 0);
    }

    static void promise15_anUnsoundOneThatDoesNotLendForItDoesNotMatter() {
        SettlementRing ring = lenders(5, 5);
        ring.setPrice(0, 10);
        ring.bring(3, -25);
        ring.setPrice(0, 1);
        Checks.isNot("isSound", ring.isSound(3));
        trade(ring, 0, 1, 5, 0, 0, 0);
        Checks.same("cycle, the account 2 lending all", ring.cycle(), 1);
        trade(ring, 0, 1, 1, 0, 0, 0);
        Checks.same("cycle, the account 3 lending", ring.cycle(), 0);
    }

    static void promise15_nothingIsDoneOfALoanThatIsNotPossible() {
        SettlementRing ring = lenders(5, 4);
        trade(ring, 0, 1, 10, 0, 0, 0);
        String before = Sight.of(ring);
        Checks.same("cycle, 9 of 10 being there", ring.cycle(), 0);
        Checks.same("what there is", Sight.of(ring), before);
    }

    static void promise15_aLinkWithASettledTradeCounts() {
        SettlementRing ring = lenders(5, 5);
        trade(ring, 2, 1, 1, 0, 0, 0);
        trade(ring, 0, 1, 2, 0, 0, 0);
        trade(ring, 2, 1, 90, 0, 0, 1);
        ring.link(2, 1, false);
        ring.link(3, 1, false);
        Checks.same("cycle", ring.cycle(), 1);
        Checks.same("cycle", ring.cycle(), 0);
        Checks.same("loans", ring.loans(), 0);
        Checks.same("tradeUnits", ring.tradeUnits(3), 90);
    }

    static void promise15_aLinkWithACancelledTradeIsGone() {
        SettlementRing ring = lenders(5, 5);
        trade(ring, 2, 1, 1, 0, 0, 0);
        trade(ring, 0, 1, 2, 0, 1, 0);
        trade(ring, 2, 1, 90, 0, 0, 1);
        ring.link(1, 2, false);
        ring.link(3, 1, false);
        ring.cancel(2);
        ring.cancel(3);
        Checks.same("cycle", ring.cycle(), 1);
        Checks.same("loans", ring.loans(), 1);
        Checks.same("tradeUnits", ring.tradeUnits(3), 87);
    }

    // ---- parts

    /** What is left of a trade of 10 units and the amount 95, if so many units are free. */
    private static long rest(int free, int least) {
        SettlementRing ring = ring(0, 1000);
        ring.block(0, 0, 100 - free);
        trade(ring, 0, 1, 10, 95, 0, least);
        ring.cycle();
        return ring.tradeUnits(0);
    }

    static void promise15_aPartIsNotFewerThanTheLeastPart() {
        Checks.same("rest, 6 of 7 being free", rest(6, 7), 10);
        Checks.same("rest, 7 of 7 being free", rest(7, 7), 3);
        Checks.same("rest, 8 of 7 being free", rest(8, 7), 2);
        Checks.same("rest, 9 being free", rest(9, 9), 1);
        Checks.same("rest, 9 of 10 being free", rest(9, 10), 10);
    }

    static void promise15_noPartOfNoUnits() {
        Checks.same("rest, none being free", rest(0, 1), 10);
        Checks.same("rest, 1 being free", rest(1, 1), 9);
        SettlementRing ring = ring(0, 1000);
        ring.block(0, 0, 100);
        trade(ring, 0, 1, 10, 95, 0, 1);
        ring.cycle();
        Checks.same("messages, as nothing was settled", ring.messages(0), 1);
    }

    static void promise15_noPartOfATradeWhoseUnitsAreAllFree() {
        SettlementRing ring = ring(0, 0);
        trade(ring, 0, 1, 10, 95, 0, 1);
        Checks.same("cycle, the receiver lacking cash", ring.cycle(), 0);
        Checks.same("tradeUnits", ring.tradeUnits(0), 10);
        ring.block(0, 0, 90);
        Checks.same("cycle, just 10 units being free", ring.cycle(), 0);
        Checks.same("tradeUnits", ring.tradeUnits(0), 10);
        ring.block(0, 0, 91);
        ring.cycle();
        // 9 units for 85, of which 45 are backed, can't be paid either
        Checks.same("tradeUnits", ring.tradeUnits(0), 10);
        ring.bring(1, 40);
        ring.cycle();
        Checks.same("tradeUnits", ring.tradeUnits(0), 1);
    }

    static void promise15_bothMustBeSoundBehindAPart() {
        // 6 of 10 units for 54 of 90: 30 are backed
        int[][] cases = {{24, 4}, {23, 10}};
        for (int[] of : cases) {
            SettlementRing ring = ring(0, of[0]);
            ring.block(0, 0, 94);
            trade(ring, 0, 1, 10, 90, 0, 1);
            ring.cycle();
            Checks.same("tradeUnits, the receiver having " + of[0], ring.tradeUnits(0), of[1]);
        }
        // the deliverer has a debt of 30, backed by its 6 free units, and gets 30 or 29 for them
        int[][] others = {{50, 4}, {49, 10}};
        for (int[] of : others) {
            SettlementRing ring = ring(0, 1000);
            ring.block(0, 0, 94);
            ring.bring(0, -30);
            trade(ring, 0, 1, 10, of[0], 0, 1);
            ring.cycle();
            Checks.same("tradeUnits, at the amount " + of[0], ring.tradeUnits(0), of[1]);
        }
    }

    static void promise15_noPartOfATradeThatALoanMadePossibleAsAWhole() {
        SettlementRing ring = ring(0, 0, 1000, 0);
        ring.issue(3, 0, 5, 2, 0);
        ring.lend(3);
        ring.block(0, 0, 90);
        trade(ring, 0, 1, 10, 100, 0, 1);
        Town.trade(ring, 1, 2, 1, 5, 500, 0, 0, 0);
        // account 1 can pay the trade 0 as soon as the trade 1 is settled, but all units are free for it
        Checks.same("cycle", ring.cycle(), 1);
        Checks.same("loans", ring.loans(), 1);
        statuses(ring, MATCHED, SETTLED);
        Checks.same("tradeUnits", ring.tradeUnits(0), 10);
        Checks.same("cycle", ring.cycle(), 1);
        Checks.same("tradeUnits", ring.tradeUnits(0), 10);
        Checks.same("units", ring.units(1, 0), 10);
    }

    static void promise15_partsSeeWhatWasSettledAhead() {
        SettlementRing ring = ring(0, 1000);
        ring.block(0, 0, 90);
        trade(ring, 0, 1, 7, 500, 0, 0);
        trade(ring, 0, 1, 20, 0, 9, 3);
        Checks.same("cycle", ring.cycle(), 1);
        Checks.same("tradeUnits, 3 units having been left", ring.tradeUnits(1), 17);
        SettlementRing other = ring(0, 1000);
        other.block(0, 0, 90);
        trade(other, 0, 1, 7, 500, 0, 0);
        trade(other, 0, 1, 20, 0, 9, 4);
        Checks.same("cycle", other.cycle(), 1);
        Checks.same("tradeUnits, 3 units being too few", other.tradeUnits(1), 20);
    }

    // ---- fines and buy-ins

    static void promise18_aDelivererWithJustAsManyUnitsDoesNotLackThem() {
        SettlementRing ring = ring(0, 0, 0);
        trade(ring, 0, 1, 100, 999999, 0, 0);
        Checks.same("causer, all units being there", ring.causer(0), 1);
        ring.block(0, 0, 1);
        Checks.same("causer, one unit lacking", ring.causer(0), 0);
        ring.endDay();
        Checks.same("ledger of the deliverer", ring.ledger(0), -11);
        ring.block(0, 0, 0);
        ring.endDay();
        Checks.same("ledger of the deliverer", ring.ledger(0), 0);
    }

    static void promise18_aFineThatTheSameAccountWouldBeOwedIsNone() {
        SettlementRing ring = ring(0, 0, 0);
        // 1 lacks what it should get from 2, which lacks what it should get from 1
        trade(ring, 1, 2, 5, 0, 0, 0);
        trade(ring, 2, 1, 5, 0, 0, 0);
        Checks.same("causer", ring.causer(0), 2);
        Checks.same("causer", ring.causer(1), 1);
        Checks.same("endDay", ring.endDay(), 0);
        for (int i = 0; i < 3; i++) {
            Checks.same("ledger(" + i + ")", ring.ledger(i), 0);
        }
        Checks.same("messages", ring.messages(1), 2);
        Checks.same("messages", ring.messages(2), 2);
        Checks.same("age", ring.age(0), 1);
    }

    static void promise44_ofSeveralThatAreToBringTheUnitsTheLowestNumber() {
        SettlementRing ring = ring(0, 0, 0, 0, 0);
        trade(ring, 1, 2, 5, 0, 0, 0);
        trade(ring, 4, 1, 500, 0, 0, 0);
        trade(ring, 3, 1, 500, 0, 0, 0);
        Checks.same("causer, the trade 1 being the lowest", ring.causer(0), 4);
        ring.hold(2);
        Checks.same("causer, the trade 1 being held by its deliverer", ring.causer(0), 4);
        ring.hold(2);
        ring.hold(3);
        Checks.same("causer, the trade 1 being held by its receiver", ring.causer(0), 1);
    }

    static void promise44_onlyTradesOfTheSameSecurity() {
        SettlementRing ring = ring(0, 0, 0, 0);
        ring.issue(3, 0, 5, 1, 0);
        Town.trade(ring, 3, 1, 1, 50, 0, 0, 0, 0);
        trade(ring, 1, 2, 5, 0, 0, 0);
        Checks.same("causer", ring.causer(1), 1);
        Town.trade(ring, 3, 1, 0, 50, 0, 0, 0, 0);
        Checks.same("causer", ring.causer(1), 3);
    }

    static void promise44_onlyTradesThatAreDue() {
        SettlementRing ring = ring(0, 0, 0, 0);
        Town.trade(ring, 3, 1, 0, 50, 0, 1, 0, 0);
        trade(ring, 1, 2, 5, 0, 0, 0);
        trade(ring, 0, 1, 1, 0, 0, 0);
        ring.cycle();
        trade(ring, 3, 1, 1, 0, 0, 0);
        ring.cancel(6);
        ring.cancel(7);
        Checks.same("causer, one settled, one cancelled, one not due", ring.causer(1), 1);
        ring.endDay();
        Checks.same("causer, one due", ring.causer(1), 3);
    }

    static void promise44_aTradeThatWasGoneThroughIsNotTakenAgain() {
        SettlementRing ring = ring(0, 0, 0, 0);
        // both trades 0 and 1 should bring units to 2; 1 comes behind 0 when 2 is met again
        trade(ring, 1, 2, 5, 0, 0, 0);
        trade(ring, 2, 1, 5, 0, 0, 0);
        trade(ring, 3, 2, 5, 0, 0, 0);
        Checks.same("causer, by the trades 0 and 1 to 2", ring.causer(0), 3);
        Checks.same("causer, by the trades 1 and 0", ring.causer(1), 1);
        Checks.same("causer", ring.causer(2), 3);
    }

    static void promise44_aChainOfTwentyTrades() {
        SettlementRing ring = ring(0, 0, 0, 0, 0, 0, 0, 0, 0, 0);
        // each one of ten delivers to the next one, twice round
        for (int i = 0; i < 20; i++) {
            trade(ring, 9 - i % 10, (10 - i % 10) % 10, 500, 0, 0, 0);
        }
        // from trade 0, of account 9, on: 1 is of 8, and so on to 9, of 0, then 10, of 9, to 19, of 0
        Checks.same("causer of the first one", ring.causer(0), 0);
        Checks.same("causer of the last one", ring.causer(19), 1);
        Checks.same("fines, as each would owe itself", ring.endDay(), 0);
        ring.hold(39);
        // the trade 19 is the last one of the chain, and its receiver, account 1, holds it now
        Checks.same("causer of the first one", ring.causer(0), 1);
        ring.hold(38);
        Checks.same("causer of the first one, both holding the last one", ring.causer(0), 0);
    }

    static void promise44_aChainWithAnEnd() {
        SettlementRing ring = ring(0, 0, 0, 0, 0, 0, 0, 0, 0, 0);
        for (int i = 9; i > 0; i--) {
            trade(ring, i - 1, i, 500, 0, 0, 0);
        }
        for (int i = 0; i < 9; i++) {
            Checks.same("causer(" + i + ")", ring.causer(i), 0);
        }
        Checks.same("fines", ring.endDay(), 9);
        Checks.same("ledger", ring.ledger(0), -9 * 51);
        Checks.same("messages of the one at the end", ring.messages(0), 10);
        ring.hold(2 * 4 + 1);
        // the trade 4 goes from account 4 to account 5
        Checks.same("causer behind the one that is held", ring.causer(0), 5);
        Checks.same("causer of the one that is held", ring.causer(4), 5);
        Checks.same("causer ahead of the one that is held", ring.causer(5), 0);
    }

    static void promise44_whoHoldsIsTheCauserEvenIfBothHold() {
        SettlementRing ring = ring(0, 0);
        trade(ring, 0, 1, 5, 0, 0, 0);
        ring.hold(0);
        ring.hold(1);
        Checks.same("causer, both holding", ring.causer(0), 0);
        ring.hold(0);
        Checks.same("causer, the receiver holding", ring.causer(0), 1);
        ring.hold(1);
        Checks.same("causer, none holding", ring.causer(0), 1);
    }

    static void promise18_aBuyInIsAtTheAgeOfJustFive() {
        SettlementRing ring = ring(0, 0, 0);
        trade(ring, 1, 2, 5, 0, 0, 0);
        Town.days(ring, 4);
        Checks.same("age", ring.age(0), 4);
        statuses(ring, MATCHED);
        ring.endDay();
        Checks.same("age", ring.age(0), 5);
        statuses(ring, CANCELLED);
        SettlementRing other = ring(0, 0, 0);
        trade(other, 0, 2, 5, 999, 0, 0);
        Town.days(other, 5);
        other.block(0, 0, 100);
        Town.days(other, 5);
        Checks.same("age", other.age(0), 10);
        statuses(other, MATCHED);
    }

    static void promise18_noBuyInWithJustAsManyUnits() {
        int[] blocked = {95, 96};
        for (int of : blocked) {
            SettlementRing ring = ring(0, 0, 0);
            trade(ring, 0, 2, 5, 999, 0, 0);
            ring.block(0, 0, of);
            Town.days(ring, 5);
            statuses(ring, of == 95 ? MATCHED : CANCELLED);
        }
    }

    static void promise18_aBuyInOwesWhatIsAboveZeroAlone() {
        // 5 units are worth 50; five fines of 1 are owed by the deliverer, too
        int[][] cases = {{51, 5}, {50, 5}, {49, 6}, {0, 55}};
        for (int[] of : cases) {
            SettlementRing ring = ring(0, 0, 0);
            trade(ring, 1, 2, 5, of[0], 0, 0);
            Town.days(ring, 5);
            statuses(ring, CANCELLED);
            Checks.same("ledger of the deliverer at " + of[0], ring.ledger(1), -of[1]);
            Checks.same("ledger of the receiver at " + of[0], ring.ledger(2), of[1]);
        }
    }

    static void promise18_theLastFineComesAheadOfTheBuyIn() {
        SettlementRing ring = ring(0, 0, 0);
        trade(ring, 1, 2, 5, 50, 0, 0);
        Town.days(ring, 4);
        Checks.same("endDay", ring.endDay(), 1);
        // matched, five fines, cancelled
        Checks.same("messages", ring.messages(1), 7);
        Checks.same("endDay behind the buy-in", ring.endDay(), 0);
        Checks.same("messages", ring.messages(1), 7);
    }

    static void promise18_aLoanIsFinedWhileItIsRecalledAndNotGivenBack() {
        SettlementRing ring = ring(0, 1000, 0);
        ring.lend(0);
        trade(ring, 1, 2, 5, 0, 0, 0);
        ring.cycle();
        Checks.same("endDay, not recalled", ring.endDay(), 0);
        ring.recall(0);
        Checks.same("endDay, recalled", ring.endDay(), 1);
        Checks.same("ledger of the borrower", ring.ledger(1), -1);
        Checks.same("ledger of the lender", ring.ledger(0), 1);
        Checks.same("messages of the lender", ring.messages(0), 1);
        trade(ring, 2, 1, 5, 0, 0, 0);
        ring.cycle();
        Checks.same("endDay, the units being there, but not given back", ring.endDay(), 1);
        ring.cycle();
        Checks.same("endDay, given back", ring.endDay(), 0);
    }

    static void promise18_eachLoanThatIsRecalledIsFinedByItsOwnUnits() {
        SettlementRing ring = Town.accounts(1000, 0, 0, 0);
        ring.issue(2, 0, 10, 10, 500);
        Town.trade(ring, 2, 3, 4, 0);
        ring.cycle();
        ring.lend(2);
        ring.lend(3);
        trade(ring, 0, 1, 10, 0, 0, 0);
        ring.cycle();
        Checks.same("loan, by the account 2", ring.loan(0), 6);
        Checks.same("loan, by the account 3", ring.loan(1), 4);
        ring.recall(1);
        Checks.same("endDay, one being recalled", ring.endDay(), 1);
        Checks.same("ledger of account 2", ring.ledger(2), 0);
        Checks.same("ledger of account 3", ring.ledger(3), 3);
        Checks.same("ledger of the borrower", ring.ledger(0), -3);
        ring.recall(0);
        Checks.same("endDay, both being recalled", ring.endDay(), 2);
        Checks.same("ledger of account 2", ring.ledger(2), 4);
        Checks.same("ledger of account 3", ring.ledger(3), 6);
        Checks.same("ledger of the borrower", ring.ledger(0), -10);
        Checks.same("messages of the borrower", ring.messages(0), 5);
    }

    static void promise36_theLedgerNeverTouchesCash() {
        SettlementRing ring = ring(0, 10, 0);
        // a fine a day, a claim of 1000, and a buy-in of 50
        trade(ring, 1, 2, 5, 0, 0, 0);
        ring.announce(SettlementRing.DIVIDEND, 0, 200, 0, 0, 0, 0);
        ring.endDay();
        Checks.same("ledger", ring.ledger(1), -1001);
        Town.days(ring, 4);
        Checks.same("ledger", ring.ledger(1), -1055);
        Checks.same("ledger", ring.ledger(2), 1055);
        Checks.same("cash", ring.cash(1), 10);
        Checks.same("cash", ring.cash(2), 0);
        Checks.is("isSound, whatever the ledger", ring.isSound(1));
    }

    static void promise36_whatOneIsOwedAnotherOneOwes() {
        SettlementRing ring = Town.busy();
        for (int day = 0; day < 10; day++) {
            ring.endDay();
            long all = 0;
            for (int i = 0; i < 6; i++) {
                all += ring.ledger(i);
            }
            Checks.same("all ledgers together", all, 0);
        }
    }

    // ---- events

    static void promise25_notedAtTheEndOfTheRecordDay() {
        SettlementRing ring = ring(0, 0);
        ring.announce(SettlementRing.DIVIDEND, 0, 1, 0, 0, 1, 1);
        ring.endDay();
        Checks.same("entitled ahead of the end of the record day", ring.entitled(0, 0), NONE);
        Checks.same("entitledAnew ahead of the end of the record day", ring.entitledAnew(0, 0), NONE);
        Checks.isNot("isPaid", ring.isPaid(0));
        Town.trade(ring, 0, 1, 30, 0);
        ring.cycle();
        ring.endDay();
        Checks.same("entitled", ring.entitled(0, 0), 70);
        Checks.same("entitledAnew", ring.entitledAnew(0, 1), 30);
        Checks.is("isPaid", ring.isPaid(0));
    }

    static void promise25_whoHoldsNoneIsEntitledToNone() {
        SettlementRing ring = ring(0, 0);
        ring.announce(SettlementRing.OPTION, 0, 1, 1, 1, 0, 0);
        ring.endDay();
        Checks.same("entitled", ring.entitled(0, 1), 0);
        Checks.same("entitledAnew", ring.entitledAnew(0, 1), 0);
        Checks.same("cash", ring.cash(1), 0);
    }

    static void promise26_entitledAnewOfEachSecurity() {
        SettlementRing ring = Town.accounts(0, 0);
        for (int i = 0; i < 4; i++) {
            ring.issue(i % 2, 0, 10 + i, 1, 0);
            Town.trade(ring, i % 2, 1 - i % 2, i, 1 + i, 0, 0, 0, 0);
        }
        for (int day = 0; day < 2; day++) {
            for (int i = 0; i < 4; i++) {
                ring.announce(SettlementRing.DIVIDEND, i, 1, 0, 0, day, day);
            }
            ring.endDay();
            ring.cycle();
        }
        long[][] due = {{10, 0}, {0, 11}, {12, 0}, {0, 13}, {9, 1}, {2, 9}, {9, 3}, {4, 9}};
        for (int event = 0; event < 8; event++) {
            for (int account = 0; account < 2; account++) {
                String of = "(" + event + ", " + account + ")";
                Checks.same("entitled" + of, ring.entitled(event, account), due[event][account]);
                Checks.same("entitledAnew" + of, ring.entitledAnew(event, account), due[event][account]);
            }
        }
    }

    static void promise24_electsFromTheRecordDayToThePayDay() {
        SettlementRing ring = ring(0, 0);
        ring.announce(SettlementRing.OPTION, 0, 1, 1, 100, 1, 2);
        Checks.badState(ring, "elect ahead of the record day", () -> ring.elect(0, 0, 1));
        ring.endDay();
        Checks.badState(ring, "elect on the record day", () -> ring.elect(0, 0, 0));
        ring.endDay();
        Checks.same("elect on the pay day", ring.elect(0, 0, 1), 0);
        ring.endDay();
        Checks.badState(ring, "elect behind the pay day", () -> ring.elect(0, 0, 1));
        Checks.same("units", ring.units(0, 0), 101);
    }

    static void promise24_nobodyCanElectIfBothDaysAreOne() {
        SettlementRing ring = ring(0, 0);
        ring.announce(SettlementRing.OPTION, 0, 1, 1, 100, 0, 0);
        Checks.badState(ring, "elect on that day", () -> ring.elect(0, 0, 1));
        ring.endDay();
        Checks.badState(ring, "elect behind that day", () -> ring.elect(0, 0, 1));
        Checks.same("cash", ring.cash(0), 70);
        Checks.same("units", ring.units(0, 0), 100);
    }

    /** Behind an OPTION of so many units at most, of which 6 and 3 and 3 are asked for. */
    private static String gotOf(int cap) {
        SettlementRing ring = Town.accounts(0, 0, 0);
        ring.issue(0, 0, 12, 10, 0);
        Town.trade(ring, 0, 1, 3, 0);
        Town.trade(ring, 0, 2, 3, 0);
        ring.cycle();
        ring.announce(SettlementRing.OPTION, 0, 1, 1, cap, 0, 1);
        ring.endDay();
        for (int i = 0; i < 3; i++) {
            ring.elect(i, 0, i == 0 ? 6 : 3);
        }
        ring.endDay();
        return (ring.units(0, 0) - 6) + " " + (ring.units(1, 0) - 3) + " " + (ring.units(2, 0) - 3) + " of "
                + (ring.out(0) - 12);
    }

    static void promise23_anOptionAtItsCap() {
        Checks.same("got, the cap above what is asked for", gotOf(13), "6 3 3 of 12");
        Checks.same("got, the cap being what is asked for", gotOf(12), "6 3 3 of 12");
        Checks.same("got, one less", gotOf(11), "5 2 2 of 9");
        Checks.same("got, a cap of 1", gotOf(1), "0 0 0 of 0");
        Checks.same("got, a cap of 2", gotOf(2), "1 0 0 of 1");
        Checks.same("got, no cap", gotOf(0), "0 0 0 of 0");
    }

    static void promise23_eventsOfTheSameDayByTheirNumbers() {
        SettlementRing ring = ring(0, 0);
        ring.announce(SettlementRing.SPLIT, 0, 2, 1, 0, 0, 0);
        ring.announce(SettlementRing.DIVIDEND, 0, 10, 0, 0, 0, 0);
        ring.announce(SettlementRing.SPLIT, 0, 1, 3, 0, 0, 0);
        ring.announce(SettlementRing.DIVIDEND, 0, 10, 0, 0, 0, 0);
        ring.endDay();
        long[] due = {100, 200, 200, 66};
        for (int i = 0; i < 4; i++) {
            Checks.same("entitled(" + i + ", 0)", ring.entitled(i, 0), due[i]);
            Checks.same("entitledAnew(" + i + ", 0)", ring.entitledAnew(i, 0), due[i]);
        }
        Checks.same("cash", ring.cash(0), 1400 + 462);
        Checks.same("units", ring.units(0, 0), 66);
    }

    static void promise23_eachEventIsNotedAndPaidInItsOwnTurn() {
        SettlementRing ring = ring(0, 0);
        // the event 0 is paid behind the event 1 was noted, but on another day
        ring.announce(SettlementRing.DIVIDEND, 0, 10, 0, 0, 0, 1);
        ring.announce(SettlementRing.SPLIT, 0, 3, 1, 0, 1, 1);
        ring.announce(SettlementRing.OPTION, 0, 10, 1, 9, 0, 1);
        ring.endDay();
        ring.elect(0, 2, 100);
        ring.endDay();
        Checks.same("cash", ring.cash(0), 700 + (910 - 273));
        Checks.same("units", ring.units(0, 0), 309);
    }

    static void promise23_aClaimIsOfWhatIsDueOnTheRecordDay() {
        SettlementRing ring = ring(0, 0, 0);
        ring.hold(2 * Town.trade(ring, 0, 1, 0, 4, 0, 0, 0, 0));
        ring.hold(2 * Town.trade(ring, 0, 2, 0, 5, 0, 1, 0, 0));
        ring.announce(SettlementRing.DIVIDEND, 0, 100, 0, 0, 0, 0);
        ring.endDay();
        // a fine of 1 comes to the claim of 400; the trade of the day 1 was not due
        Checks.same("ledger", ring.ledger(1), 401);
        Checks.same("ledger", ring.ledger(2), 0);
        ring.announce(SettlementRing.DIVIDEND, 0, 100, 0, 0, 1, 1);
        ring.endDay();
        Checks.same("ledger", ring.ledger(1), 802);
        Checks.same("ledger", ring.ledger(2), 501);
    }

    static void promise23_aClaimIsOfTheUnitsAtThatTurn() {
        SettlementRing ring = ring(0, 1000);
        Town.trade(ring, 0, 1, 0, 400, 0, 0, 0, 1);
        ring.cycle();
        ring.announce(SettlementRing.SPLIT, 0, 2, 1, 0, 0, 0);
        ring.announce(SettlementRing.DIVIDEND, 0, 10, 0, 0, 0, 2);
        ring.announce(SettlementRing.SPLIT, 0, 1, 3, 0, 0, 0);
        ring.endDay();
        // 300 became 600, then 200
        Checks.same("tradeUnits", ring.tradeUnits(0), 200);
        long before = ring.ledger(1);
        ring.cancel(0);
        ring.cancel(1);
        ring.endDay();
        Checks.same("ledger ahead of the pay day", ring.ledger(1), before);
        ring.endDay();
        Checks.same("ledger behind the pay day", ring.ledger(1), before + 6000);
        Checks.same("ledger of the deliverer", ring.ledger(0), -before - 6000);
    }

    static void promise23_aClaimOfAnEventIsNotAFine() {
        SettlementRing ring = ring(0, 0);
        ring.hold(2 * Town.trade(ring, 0, 1, 0, 4, 0, 0, 0, 0));
        ring.announce(SettlementRing.DIVIDEND, 0, 100, 0, 0, 0, 0);
        Checks.same("fines", ring.endDay(), 1);
        Checks.same("messages", ring.messages(1), 2);
    }

    static void promise23_aSplitMakesNothingOfWhatIsTooFew() {
        SettlementRing ring = Town.accounts(0, 100, 0);
        ring.issue(0, 0, 2, 10, 0);
        ring.lend(0);
        trade(ring, 1, 2, 2, 0, 0, 0);
        ring.cycle();
        trade(ring, 0, 1, 2, 0, 0, 0);
        trade(ring, 0, 1, 3, 0, 0, 0);
        ring.block(2, 0, 2);
        ring.announce(SettlementRing.SPLIT, 0, 1, 3, 0, 0, 0);
        ring.endDay();
        Checks.same("units", ring.units(2, 0), 0);
        Checks.same("free", ring.free(2, 0), 0);
        Checks.same("out", ring.out(0), 0);
        Checks.same("loan", ring.loan(0), 0);
        Checks.same("status of a trade of none", ring.status(2), CANCELLED);
        Checks.same("tradeUnits of it", ring.tradeUnits(1), 0);
        Checks.same("status of a trade of one", ring.status(4), MATCHED);
        Checks.same("tradeUnits of it", ring.tradeUnits(2), 1);
        Checks.same("recall of a loan of none", ring.recall(0), 0);
        Checks.same("fines of it and of the trade", ring.endDay(), 2);
        ring.cycle();
        Checks.same("loan", ring.loan(0), NONE);
        Checks.same("pledged", ring.pledged(1), 0);
    }

    // ---- messages and states

    static void promise37_whoIsToldAtEachTime() {
        SettlementRing ring = ring(0, 1000, 0);
        ring.instruct(0, 1, true, 0, 9, 0, 0, 0, 0);
        ring.hold(0);
        ring.amend(0, 5);
        Checks.same("messages, OPEN", ring.messages(0), 0);
        ring.cancel(0);
        Checks.same("messages, an OPEN one being cancelled", ring.messages(0), 1);
        Checks.same("messages of the other one", ring.messages(1), 0);
        trade(ring, 0, 1, 200, 0, 0, 1);
        Checks.same("messages, matched", ring.messages(1), 1);
        ring.cycle();
        Checks.same("messages, settled in part", ring.messages(1), 2);
        ring.cancel(1);
        Checks.same("messages, asked for by one", ring.messages(1), 2);
        ring.endDay();
        Checks.same("messages, fined", ring.messages(1), 3);
        ring.cancel(2);
        Checks.same("messages, cancelled", ring.messages(1), 4);
        Checks.same("messages of the deliverer", ring.messages(0), 5);
        Checks.same("messages of the one beside", ring.messages(2), 0);
    }

    static void promise38_whatIsAllegedIsOfOthersAndOpen() {
        SettlementRing ring = ring(0, 0, 0);
        Checks.same("alleged", ring.alleged(0), 0);
        ring.instruct(0, 1, true, 0, 9, 0, 0, 0, 0);
        ring.instruct(2, 1, true, 0, 9, 0, 5, 0, 0);
        ring.instruct(2, 0, true, 0, 9, 0, 5, 0, 0);
        Checks.same("alleged of the one that is named twice", ring.alleged(1), 2);
        Checks.same("alleged of the one that is named once", ring.alleged(0), 1);
        Checks.same("alleged of the one that is not named", ring.alleged(2), 0);
        ring.instruct(1, 0, false, 0, 9, 0, 0, 0, 0);
        Checks.same("alleged when one is matched", ring.alleged(1), 1);
        ring.cancel(1);
        Checks.same("alleged when one is cancelled", ring.alleged(1), 0);
    }

    static void promise35_nothingIsUsedDownToZero() {
        SettlementRing ring = new SettlementRing();
        ring.open(NONE, false, 0, 1, 4);
        Checks.same("used", ring.used(0), 0.0);
        ring.bring(0, -1);
        Checks.same("used, free cash being 0", ring.used(0), 0.0);
        ring.bring(0, -1);
        Checks.same("used, free cash being -1", ring.used(0), 0.25);
        ring.bring(0, -3);
        Checks.same("used", ring.used(0), 1.0);
        SettlementRing other = Town.accounts(0);
        Checks.same("used of no limit, free cash being 0", other.used(0), 0.0);
    }
}
