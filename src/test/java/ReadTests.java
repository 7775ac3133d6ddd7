/** Promises 28 to 43, 45 and 46: what there is. */
final class ReadTests {
    private static final int NONE = SettlementRing.NONE;

    private ReadTests() {
    }

    interface Read {
        void of(int number);
    }

    /** Three accounts; the first has 100 units of price 10 and 3 units of price 7. */
    private static SettlementRing three() {
        SettlementRing ring = new SettlementRing();
        ring.open(NONE, false, 0, 40, 3);
        ring.open(NONE, false, 0, 1000, 0);
        ring.open(NONE, false, 0, 0, 0);
        ring.issue(0, 0, 100, 10, 0);
        ring.issue(0, 0, 3, 7, 0);
        return ring;
    }

    private static int trade(SettlementRing ring, int from, int to, int units, int amount) {
        int one = ring.instruct(from, to, true, 0, units, amount, ring.today(), 0, 1);
        ring.instruct(to, from, false, 0, units, amount, ring.today(), 0, 1);
        return ring.tradeOf(one);
    }

    /** A call that takes numbers up to the count, and throws for the next one and for -1. */
    private static void index(SettlementRing ring, String name, int count, Read read) {
        for (int i = 0; i < count; i++) {
            read.of(i);
        }
        Checks.noSuch(ring, name + "(" + count + ")", () -> read.of(count));
        Checks.noSuch(ring, name + "(-1)", () -> read.of(-1));
        Checks.noSuch(ring, name + "(the greatest int)", () -> read.of(Integer.MAX_VALUE));
        Checks.noSuch(ring, name + "(the least int)", () -> read.of(Integer.MIN_VALUE));
    }

    static void promise28_units() {
        SettlementRing ring = three();
        ring.block(0, 0, 60);
        Checks.same("units", ring.units(0, 0), 100);
        Checks.same("units", ring.units(0, 1), 3);
        Checks.same("units", ring.units(1, 0), 0);
        trade(ring, 0, 1, 8, 0);
        ring.cycle();
        Checks.same("units", ring.units(0, 0), 92);
        Checks.same("units", ring.units(1, 0), 8);
        index(ring, "units of accounts", 3, number -> ring.units(number, 0));
        index(ring, "units of securities", 2, number -> ring.units(0, number));
    }

    static void promise29_free() {
        SettlementRing ring = three();
        ring.block(0, 0, 60);
        Checks.same("free", ring.free(0, 0), 40);
        Checks.same("free", ring.free(0, 1), 3);
        trade(ring, 0, 1, 40, 0);
        ring.cycle();
        Checks.same("free", ring.free(0, 0), 0);
        Checks.same("free", ring.free(1, 0), 40);
        index(ring, "free of accounts", 3, number -> ring.free(number, 0));
        index(ring, "free of securities", 2, number -> ring.free(0, number));
    }

    static void promise30_out() {
        SettlementRing ring = three();
        Checks.same("out", ring.out(0), 100);
        Checks.same("out", ring.out(1), 3);
        trade(ring, 0, 1, 40, 0);
        ring.cycle();
        Checks.same("out", ring.out(0), 100);
        ring.announce(SettlementRing.SPLIT, 0, 3, 1, 0, 0, 0);
        ring.endDay();
        Checks.same("out", ring.out(0), 300);
        Checks.same("out", ring.out(1), 3);
        index(ring, "out", 2, ring::out);
    }

    static void promise31_cash() {
        SettlementRing ring = three();
        Checks.same("cash", ring.cash(0), 40);
        trade(ring, 0, 1, 40, 100);
        ring.cycle();
        Checks.same("cash", ring.cash(0), 140);
        Checks.same("cash", ring.cash(1), 900);
        index(ring, "cash", 3, ring::cash);
    }

    static void promise32_pledgedStaysInTheCash() {
        SettlementRing ring = three();
        ring.lend(0);
        trade(ring, 1, 2, 30, 0);
        Checks.same("pledged", ring.pledged(1), 0);
        ring.cycle();
        Checks.same("pledged", ring.pledged(1), 300);
        Checks.same("cash", ring.cash(1), 1000);
        Checks.same("pledged of the lender", ring.pledged(0), 0);
        Checks.badState(ring, "bring of pledged cash", () -> ring.bring(1, -701));
        Checks.same("bring of free cash", ring.bring(1, -700), 300);
        index(ring, "pledged", 3, ring::pledged);
    }

    static void promise33_limit() {
        SettlementRing ring = three();
        // 1021 by 2, and 3
        Checks.same("limit", ring.limit(0), 513);
        Checks.same("limit", ring.limit(1), 0);
        ring.block(0, 0, 99);
        Checks.same("limit", ring.limit(0), 18);
        ring.block(0, 1, 2);
        Checks.same("limit", ring.limit(0), 11);
        index(ring, "limit", 3, ring::limit);
    }

    static void promise34_isSound() {
        SettlementRing ring = three();
        ring.bring(0, -553);
        Checks.is("isSound", ring.isSound(0));
        ring.setPrice(1, 6);
        // the worth is 1018 then, and half of it 509
        Checks.isNot("isSound", ring.isSound(0));
        ring.setPrice(1, 7);
        ring.block(0, 0, 1);
        Checks.isNot("isSound", ring.isSound(0));
        Checks.is("isSound", ring.isSound(2));
        index(ring, "isSound", 3, ring::isSound);
    }

    static void promise34_aPledgeCounts() {
        SettlementRing ring = three();
        ring.lend(0);
        ring.bring(1, -900);
        trade(ring, 1, 2, 10, 0);
        Checks.same("cycle", ring.cycle(), 1);
        Checks.is("isSound", ring.isSound(1));
        Checks.badState(ring, "bring of the pledged cash", () -> ring.bring(1, -1));
    }

    static void promise35_used() {
        SettlementRing ring = three();
        Checks.same("used", ring.used(0), 0.0);
        ring.bring(0, -40);
        Checks.same("used, free cash being 0", ring.used(0), 0.0);
        ring.bring(0, -171);
        Checks.same("used", ring.used(0), 171.0 / 513.0);
        ring.setPrice(0, 1);
        // 121 by 2, and 3
        Checks.same("used", ring.used(0), 171.0 / 63.0);
        index(ring, "used", 3, ring::used);
    }

    static void promise35_usedIsInfiniteWithoutALimit() {
        SettlementRing ring = new SettlementRing();
        ring.open(NONE, false, 0, 0, 0);
        ring.issue(0, 0, 1, 3, 0);
        ring.bring(0, -1);
        Checks.same("used", ring.used(0), 1.0);
        ring.block(0, 0, 1);
        Checks.same("limit", ring.limit(0), 0);
        Checks.same("used", ring.used(0), Double.POSITIVE_INFINITY);
        ring.bring(0, 1);
        Checks.same("used, nothing being used of nothing", ring.used(0), 0.0);
    }

    static void promise35_pledgedCashIsNotFree() {
        SettlementRing ring = three();
        ring.bring(1, -1000);
        ring.issue(1, 0, 100, 10, 0);
        ring.lend(0);
        trade(ring, 1, 2, 25, 0);
        Checks.same("cycle", ring.cycle(), 1);
        Checks.same("used", ring.used(1), 0.5);
    }

    static void promise36_ledger() {
        SettlementRing ring = three();
        Checks.same("ledger", ring.ledger(0), 0);
        trade(ring, 1, 0, 8, 0);
        ring.endDay();
        Checks.same("ledger", ring.ledger(0), 1);
        Checks.same("ledger", ring.ledger(1), -1);
        Checks.same("cash", ring.cash(1), 1000);
        index(ring, "ledger", 3, ring::ledger);
    }

    static void promise37_messages() {
        SettlementRing ring = three();
        ring.instruct(0, 1, true, 0, 8, 0, 0, 0, 0);
        Checks.same("messages", ring.messages(0), 0);
        ring.instruct(1, 0, false, 0, 8, 0, 0, 0, 0);
        Checks.same("messages when it is matched", ring.messages(0), 1);
        ring.hold(0);
        Checks.same("messages when it is held", ring.messages(0), 1);
        ring.endDay();
        Checks.same("messages when it is fined", ring.messages(0), 2);
        Checks.same("messages when it is fined", ring.messages(1), 2);
        ring.hold(0);
        ring.cycle();
        Checks.same("messages when it is settled", ring.messages(0), 3);
        Checks.same("messages when it is settled", ring.messages(1), 3);
        Checks.same("messages of another one", ring.messages(2), 0);
        ring.announce(SettlementRing.DIVIDEND, 0, 1, 0, 0, 1, 1);
        ring.endDay();
        Checks.same("messages when it is paid", ring.messages(0), 3);
        index(ring, "messages", 3, ring::messages);
    }

    static void promise38_alleged() {
        SettlementRing ring = three();
        ring.instruct(0, 1, true, 0, 8, 0, 0, 0, 0);
        ring.instruct(2, 1, false, 0, 9, 0, 5, 0, 0);
        ring.instruct(1, 2, false, 0, 9, 0, 5, 0, 0);
        Checks.same("alleged", ring.alleged(1), 2);
        Checks.same("alleged", ring.alleged(2), 1);
        Checks.same("alleged", ring.alleged(0), 0);
        ring.hold(1);
        Checks.same("alleged, one being held", ring.alleged(1), 2);
        ring.cancel(1);
        Checks.same("alleged, one being cancelled", ring.alleged(1), 1);
        ring.instruct(1, 0, false, 0, 8, 0, 0, 0, 0);
        Checks.same("alleged, one being matched", ring.alleged(1), 0);
        Checks.same("alleged", ring.alleged(0), 0);
        index(ring, "alleged", 3, ring::alleged);
    }

    static void promise39_status() {
        SettlementRing ring = three();
        ring.instruct(0, 1, true, 0, 8, 0, 0, 0, 0);
        Checks.same("status", ring.status(0), SettlementRing.OPEN);
        ring.instruct(1, 0, false, 0, 8, 0, 0, 0, 0);
        Checks.same("status", ring.status(0), SettlementRing.MATCHED);
        Checks.same("status", ring.status(1), SettlementRing.MATCHED);
        ring.instruct(1, 0, false, 0, 7, 0, 0, 0, 0);
        ring.cycle();
        Checks.same("status", ring.status(0), SettlementRing.SETTLED);
        Checks.same("status", ring.status(1), SettlementRing.SETTLED);
        ring.cancel(2);
        Checks.same("status", ring.status(2), SettlementRing.CANCELLED);
        index(ring, "status", 3, ring::status);
    }

    static void promise40_tradeOf() {
        SettlementRing ring = three();
        ring.instruct(0, 1, true, 0, 8, 0, 0, 0, 0);
        ring.instruct(0, 1, true, 0, 9, 0, 0, 0, 0);
        Checks.same("tradeOf", ring.tradeOf(0), NONE);
        ring.instruct(1, 0, false, 0, 9, 0, 0, 0, 0);
        ring.instruct(1, 0, false, 0, 8, 0, 0, 0, 0);
        Checks.same("tradeOf", ring.tradeOf(0), 1);
        Checks.same("tradeOf", ring.tradeOf(1), 0);
        Checks.same("tradeOf", ring.tradeOf(2), 0);
        Checks.same("tradeOf", ring.tradeOf(3), 1);
        ring.cycle();
        Checks.same("tradeOf of one that is settled", ring.tradeOf(3), 1);
        ring.instruct(0, 1, true, 0, 8, 0, 0, 0, 0);
        ring.cancel(4);
        Checks.same("tradeOf of one that was never matched", ring.tradeOf(4), NONE);
        index(ring, "tradeOf", 5, ring::tradeOf);
    }

    static void promise41_tradeUnits() {
        SettlementRing ring = three();
        trade(ring, 0, 1, 8, 0);
        trade(ring, 0, 1, 100, 50);
        Checks.same("tradeUnits", ring.tradeUnits(0), 8);
        ring.hold(0);
        ring.block(0, 0, 60);
        ring.cycle();
        Checks.same("tradeUnits of the rest", ring.tradeUnits(1), 60);
        ring.block(0, 0, 0);
        ring.cycle();
        Checks.same("tradeUnits, the last ones", ring.tradeUnits(1), 60);
        Checks.same("tradeUnits of one held up", ring.tradeUnits(0), 8);
        index(ring, "tradeUnits", 2, ring::tradeUnits);
    }

    static void promise42_tradeAmount() {
        SettlementRing ring = three();
        trade(ring, 0, 1, 100, 51);
        ring.block(0, 0, 61);
        ring.cycle();
        // 51 times 39 by 100 is 19
        Checks.same("tradeAmount of the rest", ring.tradeAmount(0), 32);
        ring.block(0, 0, 0);
        ring.cycle();
        Checks.same("tradeAmount, the last one", ring.tradeAmount(0), 32);
        Checks.same("cash", ring.cash(0), 91);
        index(ring, "tradeAmount", 1, ring::tradeAmount);
    }

    static void promise43_age() {
        SettlementRing ring = three();
        ring.instruct(0, 1, true, 0, 8, 0, 1, 0, 0);
        ring.instruct(1, 0, false, 0, 8, 0, 1, 0, 0);
        ring.endDay();
        Checks.same("age of one that was not due", ring.age(0), 0);
        ring.endDay();
        Checks.same("age", ring.age(0), 1);
        for (int i = 0; i < 7; i++) {
            ring.endDay();
        }
        Checks.same("age", ring.age(0), 8);
        ring.cycle();
        ring.endDay();
        Checks.same("age of one that is settled", ring.age(0), 8);
        index(ring, "age", 1, ring::age);
    }

    static void promise45_loansCountsAllEverMade() {
        SettlementRing ring = three();
        Checks.same("loans", ring.loans(), 0);
        ring.lend(0);
        trade(ring, 1, 2, 5, 0);
        ring.cycle();
        Checks.same("loans", ring.loans(), 1);
        trade(ring, 2, 1, 5, 0);
        ring.cycle();
        ring.cycle();
        Checks.same("loan", ring.loan(0), NONE);
        Checks.same("loans", ring.loans(), 1);
        trade(ring, 1, 2, 4, 0);
        ring.cycle();
        Checks.same("loans", ring.loans(), 2);
    }

    static void promise46_loan() {
        SettlementRing ring = three();
        ring.lend(0);
        trade(ring, 1, 2, 5, 0);
        ring.cycle();
        Checks.same("loan", ring.loan(0), 5);
        ring.recall(0);
        Checks.same("loan, recalled", ring.loan(0), 5);
        ring.announce(SettlementRing.SPLIT, 0, 3, 2, 0, 0, 0);
        ring.endDay();
        Checks.same("loan, split", ring.loan(0), 7);
        index(ring, "loan", 1, ring::loan);
    }

    static void promise46_aLoanOfNoUnitsIsGivenBackAtOnce() {
        SettlementRing ring = three();
        ring.lend(0);
        trade(ring, 1, 2, 1, 0);
        ring.cycle();
        ring.announce(SettlementRing.SPLIT, 0, 1, 2, 0, 0, 0);
        ring.endDay();
        Checks.same("loan", ring.loan(0), 0);
        Checks.same("pledged", ring.pledged(1), 10);
        ring.cycle();
        Checks.same("loan", ring.loan(0), NONE);
        Checks.same("pledged", ring.pledged(1), 0);
    }
}
