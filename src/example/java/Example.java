/** The example of README.md. It prints calls of a SettlementRing with their answers. */
public final class Example {
    private Example() {
    }

    public static void main(String[] args) {
        SettlementRing ring = new SettlementRing();
        int issuer = ring.open(SettlementRing.NONE, false, 0, 0, 0);
        int seller = ring.open(SettlementRing.NONE, false, 0, 1000, 0);
        int buyer = ring.open(SettlementRing.NONE, false, 1, 400, 100);
        int share = ring.issue(issuer, 0, 100, 10, 50);

        // Both sides give an instruction: they are matched, and the trade is settled in the next cycle.
        int delivery = ring.instruct(issuer, seller, true, share, 30, 300, ring.today(), 5, 0);
        tell("status of the delivery, OPEN", ring.status(delivery));
        ring.instruct(seller, issuer, false, share, 30, 301, ring.today(), 5, 0);
        tell("status of the delivery, MATCHED", ring.status(delivery));
        tell("best", ring.best());
        tell("cycle", ring.cycle());
        tell("status of the delivery, SETTLED", ring.status(delivery));
        tell("units of the seller", ring.units(seller, share));
        tell("cash of the seller", ring.cash(seller));

        // The seller has 30 units and sells 50: the trade waits, and the seller is fined for it.
        int sale = ring.instruct(seller, buyer, true, share, 50, 520, ring.today(), 5, 0);
        ring.instruct(buyer, seller, false, share, 50, 520, ring.today(), 5, 0);
        int trade = ring.tradeOf(sale);
        tell("limit of the buyer", ring.limit(buyer));
        tell("cycle", ring.cycle());
        tell("causer of the trade, the seller", ring.causer(trade));
        tell("endDay", ring.endDay());
        tell("age of the trade", ring.age(trade));
        tell("ledger of the seller", ring.ledger(seller));

        // As soon as the issuer lends, the next cycle borrows what the seller lacks.
        tell("lend of the issuer", ring.lend(issuer));
        tell("cycle", ring.cycle());
        tell("loans", ring.loans());
        tell("loan 0", ring.loan(0));
        tell("pledged by the seller", ring.pledged(seller));
        tell("cash of the buyer", ring.cash(buyer));
        tell("used of the buyer", ring.used(buyer));

        // A state is kept; a dividend is paid at the end of the day; going back takes it back.
        tell("keep", ring.keep());
        int dividend = ring.announce(SettlementRing.DIVIDEND, share, 2, 0, 0, ring.today(), ring.today());
        tell("endDay", ring.endDay());
        tell("entitled units of the buyer", ring.entitled(dividend, buyer));
        tell("cash of the buyer", ring.cash(buyer));
        tell("goBack", ring.goBack());
        tell("cash of the buyer", ring.cash(buyer));

        // A call that throws changes nothing.
        try {
            ring.issue(3, 9, 100, 10, 50);
        } catch (IndexOutOfBoundsException e) {
            tell("issue to account 3 in country 9", "IndexOutOfBoundsException");
        }
        try {
            ring.issue(buyer, 9, 100, 10, 50);
        } catch (IllegalArgumentException e) {
            tell("issue to the buyer in country 9", "IllegalArgumentException");
        }
        try {
            ring.hold(sale);
        } catch (IllegalStateException e) {
            tell("hold of the sale", "IllegalStateException");
        }
    }

    private static void tell(String call, Object answer) {
        System.out.println(call + ": " + answer);
    }
}
