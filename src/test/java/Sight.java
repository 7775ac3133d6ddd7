import java.util.function.IntConsumer;

/** All that can be read of a SettlementRing, as a text; two states that look alike have the same one. */
final class Sight {
    private Sight() {
    }

    /** How many numbers from 0 on a call takes without an IndexOutOfBoundsException. */
    static int count(IntConsumer call) {
        int count = 0;
        while (count < 64) {
            try {
                call.accept(count);
            } catch (IndexOutOfBoundsException e) {
                return count;
            }
            count++;
        }
        return count;
    }

    static String of(SettlementRing ring) {
        StringBuilder text = new StringBuilder();
        int accounts = count(ring::cash);
        int securities = count(ring::out);
        int instructions = count(ring::status);
        int trades = count(ring::age);
        int events = count(ring::isPaid);
        text.append("day ").append(ring.today()).append('\n');
        for (int i = 0; i < accounts; i++) {
            text.append("account ").append(i).append(": cash ").append(ring.cash(i)).append(" pledged ")
                    .append(ring.pledged(i)).append(" limit ").append(ring.limit(i)).append(" sound ")
                    .append(ring.isSound(i)).append(" used ").append(ring.used(i)).append(" ledger ")
                    .append(ring.ledger(i)).append(" messages ").append(ring.messages(i)).append(" alleged ")
                    .append(ring.alleged(i));
            for (int j = 0; j < securities; j++) {
                text.append(" units ").append(ring.units(i, j)).append(" free ").append(ring.free(i, j));
            }
            for (int j = 0; j < events; j++) {
                text.append(" entitled ").append(ring.entitled(j, i)).append(' ').append(ring.entitledAnew(j, i));
            }
            text.append('\n');
        }
        for (int i = 0; i < securities; i++) {
            text.append("security ").append(i).append(": out ").append(ring.out(i)).append('\n');
        }
        for (int i = 0; i < instructions; i++) {
            text.append("instruction ").append(i).append(": ").append(ring.status(i)).append(" of trade ")
                    .append(ring.tradeOf(i)).append('\n');
        }
        for (int i = 0; i < trades; i++) {
            text.append("trade ").append(i).append(": units ").append(ring.tradeUnits(i)).append(" amount ")
                    .append(ring.tradeAmount(i)).append(" age ").append(ring.age(i)).append(" causer ")
                    .append(causer(ring, i)).append('\n');
        }
        for (int i = 0; i < ring.loans(); i++) {
            text.append("loan ").append(i).append(": ").append(ring.loan(i)).append('\n');
        }
        for (int i = 0; i < events; i++) {
            text.append("event ").append(i).append(": paid ").append(ring.isPaid(i)).append('\n');
        }
        return text.append("best ").append(ring.best()).append(' ').append(ring.bestByAll()).toString();
    }

    private static String causer(SettlementRing ring, int trade) {
        try {
            return Integer.toString(ring.causer(trade));
        } catch (IllegalStateException e) {
            return "none";
        }
    }
}
