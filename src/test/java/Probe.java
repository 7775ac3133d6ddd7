import java.util.function.Supplier;

/**
 * All that a ring can be brought to tell, what no call reads by itself, too: who lends, what is held,
 * asked, linked, recalled and elected, and what is kept. Each part spoils the ring that it asks.
 */
final class Probe {
    private Probe() {
    }

    static String of(Supplier<SettlementRing> maker) {
        StringBuilder text = new StringBuilder();
        text.append("days to come\n").append(daysToCome(maker.get()));
        text.append("switches\n").append(switches(maker.get()));
        text.append("cancel\n").append(cancel(maker.get(), 0)).append(cancel(maker.get(), 1));
        text.append("amend\n").append(amend(maker.get()));
        text.append("links\n").append(links(maker.get()));
        text.append("recall\n").append(recall(maker.get()));
        SettlementRing ring = maker.get();
        text.append("back ").append(Face.answer(ring, "goBack")).append('\n').append(daysToCome(ring));
        SettlementRing other = maker.get();
        text.append(Face.answer(other, "lend", 0)).append(Face.answer(other, "goBack")).append('\n');
        return text.append(switches(other)).append(cancel(other, 0)).toString();
    }

    private static String daysToCome(SettlementRing ring) {
        StringBuilder text = new StringBuilder(Sight.of(ring)).append('\n');
        for (int i = 0; i < 7; i++) {
            text.append(ring.cycle()).append(' ').append(Face.answer(ring, "endDay")).append('\n');
            text.append(Sight.of(ring)).append('\n');
        }
        return text.toString();
    }

    private static String switches(SettlementRing ring) {
        StringBuilder text = new StringBuilder();
        int accounts = Sight.count(ring::cash);
        int securities = Sight.count(ring::out);
        for (int i = 0; i < accounts; i++) {
            text.append(ring.lend(i)).append(ring.relieve(i)).append(' ');
            text.append(Face.answer(ring, "open", i, true, 0, 0, 0)).append(' ');
            for (int j = 0; j < securities; j++) {
                text.append(ring.block(i, j, 0)).append(' ');
            }
            for (int j = 0; j < Sight.count(ring::isPaid); j++) {
                text.append(Face.answer(ring, "elect", i, j, 0)).append(' ');
            }
        }
        for (int i = 0; i < securities; i++) {
            text.append(ring.setPrice(i, 1)).append(' ');
        }
        for (int i = 0; i < 9; i++) {
            text.append(ring.treaty(i / 3, i % 3, 0)).append(' ');
        }
        for (int i = 0; i < Sight.count(ring::status); i++) {
            text.append(Face.answer(ring, "hold", i)).append(' ');
        }
        return text.append(daysToCome(ring)).toString();
    }

    /** Every other instruction is cancelled, from the first or the second one on. */
    private static String cancel(SettlementRing ring, int from) {
        StringBuilder text = new StringBuilder();
        for (int i = from; i < Sight.count(ring::status); i += 2) {
            text.append(Face.answer(ring, "cancel", i)).append(' ');
        }
        return text.append(Sight.of(ring)).append('\n').toString();
    }

    /** Each amount comes near to some of the amounts of those that are OPEN. */
    private static String amend(SettlementRing ring) {
        StringBuilder text = new StringBuilder();
        for (int i = Sight.count(ring::status) - 1; i >= 0; i--) {
            for (int amount : new int[] {101, 3}) {
                text.append(Face.answer(ring, "amend", i, amount)).append(' ');
            }
        }
        return text.append(Sight.of(ring)).append('\n').toString();
    }

    private static String links(SettlementRing ring) {
        StringBuilder text = new StringBuilder();
        int trades = Sight.count(ring::age);
        for (int i = 0; i < trades; i++) {
            for (int j = 0; j < trades; j++) {
                text.append(Face.answer(ring, "link", j, i, false)).append(' ');
            }
        }
        return text.append(daysToCome(ring)).toString();
    }

    private static String recall(SettlementRing ring) {
        StringBuilder text = new StringBuilder();
        for (int i = 0; i < ring.loans(); i++) {
            text.append(Face.answer(ring, "recall", i)).append(' ');
        }
        text.append(Face.answer(ring, "endDay")).append('\n').append(Sight.of(ring));
        text.append(Face.answer(ring, "announce", 0, 0, 1, 0, 0, ring.today(), ring.today()));
        return text.append(Face.answer(ring, "issue", 0, 0, 1, 1, 0)).append('\n').toString();
    }
}
