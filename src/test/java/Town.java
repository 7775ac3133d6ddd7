/** Rings in which there is something of everything, all of everything, or nothing. */
final class Town {
    static final int NONE = SettlementRing.NONE;

    private Town() {
    }

    /** Two instructions that fit each other; returns the trade that they become. */
    static int trade(SettlementRing ring, int from, int to, int security, int units, int amount, int date,
            int priority, int least) {
        int one = ring.instruct(from, to, true, security, units, amount, date, priority, least);
        ring.instruct(to, from, false, security, units, amount, date, 0, least);
        return ring.tradeOf(one);
    }

    /** A trade that is due today, of the security 0, without a priority and a least part. */
    static int trade(SettlementRing ring, int from, int to, int units, int amount) {
        return trade(ring, from, to, 0, units, amount, ring.today(), 0, 0);
    }

    /** Accounts without a custodian and a line, of the country 0, with so much cash each. */
    static SettlementRing accounts(int... cash) {
        SettlementRing ring = new SettlementRing();
        for (int own : cash) {
            ring.open(NONE, false, 0, own, 0);
        }
        return ring;
    }

    static void days(SettlementRing ring, int count) {
        for (int i = 0; i < count; i++) {
            ring.endDay();
        }
    }

    /**
     * On the day 3: six accounts, three securities, trades that are settled, pending, held, linked, of
     * which one side asked to cancel, and cancelled, loans that are given back, recalled and neither,
     * events ahead of the record day, noted with elections, and paid; a state of the day 1 is kept.
     */
    static SettlementRing busy() {
        SettlementRing ring = new SettlementRing();
        ring.open(NONE, false, 0, 5000, 100);
        ring.open(0, true, 1, 50, 0);
        ring.open(0, false, 2, 60, 7);
        ring.open(NONE, false, 1, 4000, 0);
        ring.open(NONE, true, 2, 3000, 1000);
        ring.open(NONE, false, 0, 0, 0);
        ring.lend(4);
        ring.relieve(3);
        ring.treaty(1, 2, 9);
        ring.issue(0, 0, 1000, 10, 200);
        ring.issue(3, 1, 500, 3, 50);
        ring.issue(4, 2, 300, 7, 500);
        trade(ring, 0, 1, 0, 33, 0, 0, 0, 0);
        trade(ring, 3, 4, 1, 40, 90, 0, 0, 0);
        ring.cycle();
        ring.block(1, 0, 11);
        ring.announce(SettlementRing.SPLIT, 1, 3, 2, 0, 0, 1);
        ring.endDay();
        ring.keep();
        ring.announce(SettlementRing.OPTION, 0, 4, 3, 50, 1, 4);
        borrow(ring);
        ring.endDay();
        ring.elect(0, 1, 100);
        ring.elect(1, 1, 20);
        leavePending(ring);
        ring.endDay();
        ring.announce(SettlementRing.DIVIDEND, 2, 5, 0, 0, 4, 6);
        return ring;
    }

    /** Three loans: the first one is given back, the second one recalled. */
    private static void borrow(SettlementRing ring) {
        trade(ring, 0, 3, 2, 5, 1, 1, 0, 0);
        ring.cycle();
        trade(ring, 3, 0, 2, 5, 1, 1, 0, 0);
        ring.cycle();
        ring.cycle();
        trade(ring, 0, 3, 2, 6, 1, 1, 0, 0);
        trade(ring, 0, 1, 2, 4, 2, 1, 0, 0);
        ring.cycle();
        ring.recall(1);
    }

    /** The trades 6 to 8 stay pending; 18 and 19 stay OPEN; 20, and the trade 9, are cancelled. */
    private static void leavePending(SettlementRing ring) {
        trade(ring, 0, 3, 0, 10, 20, 2, 3, 0);
        ring.hold(12);
        trade(ring, 3, 5, 1, 9000, 20, 2, 2, 8000);
        trade(ring, 0, 4, 0, 1, 3, 9, 0, 1);
        ring.cancel(16);
        ring.link(6, 7, true);
        ring.link(8, 7, false);
        ring.instruct(0, 5, true, 0, 12, 100, 2, 1, 0);
        ring.instruct(5, 0, false, 0, 12, 103, 2, 1, 4);
        ring.instruct(5, 2, false, 1, 2, 3, 2, 1, 0);
        ring.cancel(20);
        trade(ring, 0, 4, 0, 2, 3, 9, 0, 1);
        ring.cancel(21);
        ring.cancel(22);
    }

    /**
     * On the day 2000: 10 accounts, 4 securities, 40 instructions, 20 trades, of which 9 are pending
     * and have 10 links, 20 loans, and 10 events, of which 5 were paid.
     */
    static SettlementRing full() {
        SettlementRing ring = new SettlementRing();
        for (int i = 0; i < 10; i++) {
            ring.open(i == 9 ? 0 : NONE, true, i % 3, 1000, 50);
        }
        for (int i = 0; i < 4; i++) {
            ring.issue(4 + i, i % 3, 100, 10, 100);
        }
        trade(ring, 4, 5, 50, 0);
        ring.cycle();
        ring.lend(4);
        ring.lend(5);
        for (int i = 1; i <= 10; i++) {
            // one unit comes from account 4 and one from account 5
            ring.block(4, 0, (int) ring.units(4, 0) - 1);
            trade(ring, 0, 1, 2, 0);
            ring.cycle();
        }
        for (int i = 11; i < 20; i++) {
            trade(ring, 6, 7, 2, i, i, 2000, i % 9, 0);
        }
        for (int i = 0; i < 10; i++) {
            ring.link(11 + i % 9, 11 + (i % 9 + 1 + i / 9) % 9, i % 2 == 0);
        }
        for (int i = 0; i < 10; i++) {
            ring.announce(i % 3, i % 4, 1, 1, 5, i < 5 ? 7 : 2000, i < 5 ? 8 : 2000);
        }
        days(ring, 2000);
        return ring;
    }
}
