/** Promises 10 to 14: instructions, trades and links. */
final class InstructionTests {
    private static final int NONE = SettlementRing.NONE;
    private static final int OPEN = SettlementRing.OPEN;
    private static final int MATCHED = SettlementRing.MATCHED;
    private static final int SETTLED = SettlementRing.SETTLED;
    private static final int CANCELLED = SettlementRing.CANCELLED;

    private InstructionTests() {
    }

    /** Three accounts with 1000 of cash each; the first has all 100 units of the only security. */
    private static SettlementRing three() {
        SettlementRing ring = new SettlementRing();
        for (int i = 0; i < 3; i++) {
            ring.open(NONE, false, 0, 1000, 0);
        }
        ring.issue(0, 0, 100, 10, 0);
        return ring;
    }

    /** A trade, due today, of an account that delivers to another one; returns its number. */
    private static int trade(SettlementRing ring, int from, int to, int units, int amount) {
        int one = ring.instruct(from, to, true, 0, units, amount, ring.today(), 0, 0);
        ring.instruct(to, from, false, 0, units, amount, ring.today(), 0, 0);
        return ring.tradeOf(one);
    }

    static void promise10_anInstructionWithoutAPartnerIsOpen() {
        SettlementRing ring = three();
        Checks.same("instruct", ring.instruct(0, 1, true, 0, 5, 50, 0, 0, 0), 0);
        Checks.same("status", ring.status(0), OPEN);
        Checks.same("tradeOf", ring.tradeOf(0), NONE);
        Checks.same("messages", ring.messages(0), 0);
        Checks.same("alleged", ring.alleged(1), 1);
        // each of these differs in one thing from the one that would be matched
        ring.instruct(1, 0, true, 0, 5, 50, 0, 0, 0);
        ring.instruct(2, 0, false, 0, 5, 50, 0, 0, 0);
        ring.instruct(1, 2, false, 0, 5, 50, 0, 0, 0);
        ring.instruct(1, 0, false, 0, 6, 50, 0, 0, 0);
        ring.instruct(1, 0, false, 0, 5, 50, 1, 0, 0);
        ring.instruct(1, 0, false, 0, 5, 53, 0, 0, 0);
        ring.instruct(1, 0, false, 0, 5, 47, 0, 0, 0);
        ring.issue(0, 0, 5, 1, 0);
        ring.instruct(1, 0, false, 1, 5, 50, 0, 0, 0);
        for (int i = 0; i < 9; i++) {
            Checks.same("status(" + i + ")", ring.status(i), OPEN);
        }
        Checks.same("the one that is matched", ring.instruct(1, 0, false, 0, 5, 50, 0, 0, 0), 9);
        Checks.same("status", ring.status(0), MATCHED);
        Checks.same("status", ring.status(9), MATCHED);
    }

    static void promise10_theAmountThatDiffersLeastThenTheLowestNumber() {
        SettlementRing ring = three();
        for (int amount : new int[] {98, 101, 99, 101, 102, 100}) {
            ring.instruct(0, 1, true, 0, 5, amount, 0, 0, 0);
        }
        int[] partners = {5, 1, 2, 3, 0, 4};
        for (int i = 0; i < 6; i++) {
            ring.instruct(1, 0, false, 0, 5, 100, 0, 0, 0);
            Checks.same("tradeOf(" + partners[i] + ")", ring.tradeOf(partners[i]), i);
            Checks.same("tradeOf(" + (6 + i) + ")", ring.tradeOf(6 + i), i);
        }
        long[] amounts = {100, 100, 99, 100, 98, 100};
        for (int i = 0; i < 6; i++) {
            Checks.same("tradeAmount(" + i + ")", ring.tradeAmount(i), amounts[i]);
        }
    }

    static void promise10_whatATradeTakesFromBoth() {
        SettlementRing ring = three();
        ring.instruct(1, 0, false, 0, 5, 50, 0, 3, 2);
        ring.instruct(0, 1, true, 0, 5, 52, 0, 7, 4);
        Checks.same("tradeOf", ring.tradeOf(0), 0);
        Checks.same("tradeUnits", ring.tradeUnits(0), 5);
        Checks.same("tradeAmount", ring.tradeAmount(0), 50);
        Checks.same("age", ring.age(0), 0);
        Checks.same("messages of the deliverer", ring.messages(0), 1);
        Checks.same("messages of the receiver", ring.messages(1), 1);
        Checks.same("messages of another one", ring.messages(2), 0);
        Checks.same("cycle", ring.cycle(), 1);
        Checks.same("units of the receiver", ring.units(1, 0), 5);
        Checks.same("cash of the deliverer", ring.cash(0), 1050);
    }

    /** A trade of 10 units of which the deliverer has 5, with the least parts of both sides. */
    private static long restOf(int least, int other) {
        SettlementRing ring = three();
        trade(ring, 0, 1, 5, 0);
        ring.cycle();
        ring.instruct(1, 2, true, 0, 10, 0, 0, 0, least);
        ring.instruct(2, 1, false, 0, 10, 0, 0, 0, other);
        ring.cycle();
        return ring.tradeUnits(1);
    }

    static void promise10_theLeastPartIsTheGreaterOneOrNone() {
        Checks.same("rest of 4 and 5", restOf(4, 5), 5);
        Checks.same("rest of 5 and 4", restOf(5, 4), 5);
        Checks.same("rest of 4 and 6", restOf(4, 6), 10);
        Checks.same("rest of 6 and 4", restOf(6, 4), 10);
        Checks.same("rest of 0 and 4", restOf(0, 4), 10);
        Checks.same("rest of 4 and 0", restOf(4, 0), 10);
        Checks.same("rest of 0 and 0", restOf(0, 0), 10);
    }

    static void promise10_rangesOfInstruct() {
        SettlementRing ring = three();
        ring.endDay();
        int[][] bad = {{0, 0, 1, 0, 0}, {100001, 0, 1, 0, 0}, {1, -1, 1, 0, 0}, {1, 100000001, 1, 0, 0},
            {1, 0, 0, 0, 0}, {1, 0, 2001, 0, 0}, {1, 0, 1, -1, 0}, {1, 0, 1, 10, 0}, {1, 0, 1, 0, -1},
            {7, 0, 1, 0, 8}};
        for (int[] of : bad) {
            Checks.badArgument(ring, "instruct",
                    () -> ring.instruct(0, 1, true, 0, of[0], of[1], of[2], of[3], of[4]));
        }
        Checks.badArgument(ring, "instruct(1, 1, ..)", () -> ring.instruct(1, 1, true, 0, 1, 0, 1, 0, 0));
        Checks.noSuch(ring, "instruct(3, 3, ..)", () -> ring.instruct(3, 3, true, 0, 1, 0, 1, 0, 0));
        Checks.noSuch(ring, "instruct(0, 3, ..)", () -> ring.instruct(0, 3, true, 0, 0, 0, 1, 0, 0));
        Checks.noSuch(ring, "instruct(0, -1, ..)", () -> ring.instruct(0, -1, true, 0, 1, 0, 1, 0, 0));
        Checks.noSuch(ring, "instruct(-1, 0, ..)", () -> ring.instruct(-1, 0, true, 0, 1, 0, 1, 0, 0));
        Checks.noSuch(ring, "instruct of security 1", () -> ring.instruct(0, 0, true, 1, 1, 0, 1, 0, 0));
        Checks.noSuch(ring, "instruct of security -1", () -> ring.instruct(0, 1, true, -1, 1, 0, 1, 0, 0));
        Checks.same("instruct", ring.instruct(0, 1, true, 0, 100000, 100000000, 2000, 9, 100000), 0);
        Checks.same("instruct", ring.instruct(1, 0, false, 0, 100000, 100000000, 2000, 0, 0), 1);
        Checks.same("tradeAmount", ring.tradeAmount(0), 100000000);
    }

    static void promise10_fortyInstructionsAndNoMore() {
        SettlementRing ring = three();
        for (int i = 0; i < 40; i++) {
            Checks.same("instruct", ring.instruct(0, 1, true, 0, 1, 0, 0, 0, 0), i);
        }
        Checks.badState(ring, "the 41st instruct", () -> ring.instruct(0, 2, true, 0, 1, 0, 0, 0, 0));
        Checks.badState(ring, "the 41st instruct, with a partner",
                () -> ring.instruct(1, 0, false, 0, 1, 0, 0, 0, 0));
        Checks.badArgument(ring, "the 41st instruct, no units",
                () -> ring.instruct(1, 0, false, 0, 0, 0, 0, 0, 0));
        Checks.noSuch(ring, "the 41st instruct, of account 3",
                () -> ring.instruct(3, 0, false, 0, 0, 0, 0, 0, 0));
        Checks.same("alleged", ring.alleged(1), 40);
    }

    static void promise10_twentyTrades() {
        SettlementRing ring = three();
        for (int i = 0; i < 20; i++) {
            Checks.same("trade", trade(ring, 0, 1, 1, 0), i);
        }
        Checks.same("age of the last one", ring.age(19), 0);
        Checks.noSuch(ring, "age(20)", () -> ring.age(20));
        Checks.same("messages", ring.messages(0), 20);
    }

    static void promise10_aHeldOrAnOldInstructionIsMatchedToo() {
        SettlementRing ring = three();
        ring.instruct(0, 1, true, 0, 5, 50, 1, 0, 0);
        ring.instruct(1, 0, false, 0, 5, 90, 1, 0, 0);
        ring.hold(0);
        ring.endDay();
        ring.endDay();
        Checks.same("amend", ring.amend(1, 49), 0);
        Checks.same("cycle while it is held up", ring.cycle(), 0);
        ring.hold(0);
        Checks.same("cycle", ring.cycle(), 1);
        Checks.same("cash", ring.cash(0), 1049);
    }

    static void promise11_amendsAndMatches() {
        SettlementRing ring = three();
        ring.instruct(0, 1, true, 0, 5, 50, 0, 0, 0);
        ring.instruct(0, 1, true, 0, 5, 54, 0, 0, 0);
        ring.instruct(1, 0, false, 0, 5, 70, 0, 0, 0);
        Checks.same("amend that stays OPEN", ring.amend(2, 57), NONE);
        Checks.same("amend of the other side", ring.amend(0, 54), NONE);
        Checks.same("amend to the same amount", ring.amend(2, 57), NONE);
        Checks.same("status", ring.status(2), OPEN);
        Checks.same("messages", ring.messages(1), 0);
        Checks.same("amend that matches the lowest number", ring.amend(2, 56), 0);
        Checks.same("tradeOf", ring.tradeOf(0), 0);
        Checks.same("status", ring.status(1), OPEN);
        Checks.same("status", ring.status(2), MATCHED);
        Checks.same("tradeAmount", ring.tradeAmount(0), 54);
        Checks.same("messages", ring.messages(1), 1);
        Checks.same("messages", ring.messages(0), 1);
        Checks.same("instruct that would fit it", ring.instruct(1, 0, false, 0, 5, 0, 0, 0, 0), 3);
        Checks.same("amend to the next trade", ring.amend(3, 53), 1);
        Checks.same("tradeAmount", ring.tradeAmount(1), 53);
    }

    static void promise11_whatCanNotBeAmended() {
        SettlementRing ring = three();
        trade(ring, 0, 1, 5, 50);
        ring.instruct(0, 1, true, 0, 5, 50, 0, 0, 0);
        ring.instruct(0, 1, true, 0, 9, 50, 0, 0, 0);
        ring.cancel(2);
        Checks.badArgument(ring, "amend(3, -1)", () -> ring.amend(3, -1));
        Checks.badArgument(ring, "amend(3, 100000001)", () -> ring.amend(3, 100000001));
        Checks.badArgument(ring, "amend(0, -1)", () -> ring.amend(0, -1));
        Checks.badState(ring, "amend of one that is MATCHED", () -> ring.amend(0, 1));
        Checks.badState(ring, "amend of one that is CANCELLED", () -> ring.amend(2, 1));
        ring.cycle();
        Checks.badState(ring, "amend of one that is SETTLED", () -> ring.amend(1, 1));
        Checks.noSuch(ring, "amend(4, -1)", () -> ring.amend(4, -1));
        Checks.noSuch(ring, "amend(-1, 0)", () -> ring.amend(-1, 0));
        Checks.same("amend", ring.amend(3, 100000000), NONE);
        Checks.same("amend", ring.amend(3, 0), NONE);
    }

    static void promise12_cancelsAnOpenOneAtOnce() {
        SettlementRing ring = three();
        ring.instruct(0, 1, true, 0, 5, 50, 0, 0, 0);
        Checks.is("cancel", ring.cancel(0));
        Checks.same("status", ring.status(0), CANCELLED);
        Checks.same("messages of its account", ring.messages(0), 1);
        Checks.same("messages of the other one", ring.messages(1), 0);
        Checks.same("alleged", ring.alleged(1), 0);
        ring.instruct(1, 0, false, 0, 5, 50, 0, 0, 0);
        Checks.same("status of one that it would have fitted", ring.status(1), OPEN);
    }

    static void promise12_cancelsATradeWhenBothAsk() {
        SettlementRing ring = three();
        trade(ring, 0, 1, 5, 50);
        Checks.isNot("cancel by one", ring.cancel(1));
        Checks.isNot("cancel by the same one again", ring.cancel(1));
        Checks.same("status", ring.status(0), MATCHED);
        Checks.same("messages", ring.messages(0), 1);
        Checks.is("cancel by the other one", ring.cancel(0));
        Checks.same("status", ring.status(0), CANCELLED);
        Checks.same("status", ring.status(1), CANCELLED);
        Checks.same("messages", ring.messages(0), 2);
        Checks.same("messages", ring.messages(1), 2);
        Checks.same("tradeOf", ring.tradeOf(0), 0);
        Checks.same("tradeUnits", ring.tradeUnits(0), 5);
        Checks.same("cycle", ring.cycle(), 0);
        Checks.same("best", ring.best(), 0);
        Checks.badState(ring, "causer of a cancelled trade", () -> ring.causer(0));
    }

    static void promise12_whatWasAskedByOneDoesNotHinderSettling() {
        SettlementRing ring = three();
        trade(ring, 0, 1, 5, 50);
        ring.cancel(0);
        Checks.same("cycle", ring.cycle(), 1);
        Checks.badState(ring, "cancel of one that is SETTLED", () -> ring.cancel(1));
        Checks.badState(ring, "cancel of one that is SETTLED", () -> ring.cancel(0));
        ring.instruct(0, 1, true, 0, 5, 50, 0, 0, 0);
        ring.cancel(2);
        Checks.badState(ring, "cancel of one that is CANCELLED", () -> ring.cancel(2));
        Checks.noSuch(ring, "cancel(3)", () -> ring.cancel(3));
        Checks.noSuch(ring, "cancel(-1)", () -> ring.cancel(-1));
    }

    static void promise13_holdsAndLetsGo() {
        SettlementRing ring = three();
        trade(ring, 0, 1, 5, 50);
        Checks.is("hold", ring.hold(0));
        Checks.same("cycle", ring.cycle(), 0);
        Checks.same("best", ring.best(), 0);
        Checks.is("hold of the other one", ring.hold(1));
        Checks.isNot("hold again", ring.hold(0));
        Checks.same("cycle", ring.cycle(), 0);
        Checks.isNot("hold again", ring.hold(1));
        Checks.same("cycle", ring.cycle(), 1);
        Checks.badState(ring, "hold of one that is SETTLED", () -> ring.hold(0));
        ring.instruct(0, 1, true, 0, 5, 50, 0, 0, 0);
        Checks.is("hold of one that is OPEN", ring.hold(2));
        ring.cancel(2);
        Checks.badState(ring, "hold of one that is CANCELLED", () -> ring.hold(2));
        Checks.noSuch(ring, "hold(3)", () -> ring.hold(3));
        Checks.noSuch(ring, "hold(-1)", () -> ring.hold(-1));
    }

    static void promise14_countsLinksAndRefusesASecondOneOfBoth() {
        SettlementRing ring = three();
        for (int i = 0; i < 4; i++) {
            trade(ring, 0, 1, 1, 0);
        }
        Checks.same("link", ring.link(0, 1, true), 1);
        Checks.same("link", ring.link(1, 2, false), 2);
        Checks.badState(ring, "the same link", () -> ring.link(0, 1, true));
        Checks.badState(ring, "the same link, BEHIND", () -> ring.link(0, 1, false));
        Checks.badState(ring, "the same link, the other way", () -> ring.link(2, 1, false));
        Checks.badArgument(ring, "link(0, 0)", () -> ring.link(0, 0, true));
        Checks.noSuch(ring, "link(4, 4)", () -> ring.link(4, 4, true));
        Checks.noSuch(ring, "link(0, 4)", () -> ring.link(0, 4, true));
        Checks.noSuch(ring, "link(-1, 0)", () -> ring.link(-1, 0, true));
        Checks.same("link", ring.link(2, 0, false), 3);
        ring.hold(6);
        ring.cycle();
        Checks.badState(ring, "link with one that is settled", () -> ring.link(3, 0, false));
        Checks.badState(ring, "link with one that is settled", () -> ring.link(0, 3, false));
        trade(ring, 0, 1, 1, 0);
        Checks.same("link, those of settled ones counted", ring.link(3, 4, false), 4);
        ring.cancel(8);
        ring.cancel(9);
        Checks.badState(ring, "link with one that is cancelled", () -> ring.link(3, 4, false));
        trade(ring, 0, 1, 1, 0);
        Checks.same("link, those of cancelled ones gone", ring.link(3, 5, false), 4);
    }

    static void promise14_tenLinksAndNoMore() {
        SettlementRing ring = three();
        for (int i = 0; i < 12; i++) {
            trade(ring, 0, 1, 1, 0);
        }
        for (int i = 0; i < 10; i++) {
            Checks.same("link", ring.link(i, i + 1, false), i + 1);
        }
        Checks.badState(ring, "the 11th link", () -> ring.link(0, 11, false));
        Checks.badArgument(ring, "the 11th link, of one", () -> ring.link(0, 0, false));
        ring.cancel(0);
        ring.cancel(1);
        Checks.same("link behind a trade was cancelled", ring.link(1, 11, false), 10);
        ring.cancel(4);
        ring.cancel(5);
        Checks.same("link behind another one was cancelled", ring.link(1, 3, false), 9);
        Checks.badState(ring, "a link that there is", () -> ring.link(11, 1, false));
    }

    static void promise14_withAndBehind() {
        SettlementRing ring = three();
        trade(ring, 0, 1, 1, 0);
        trade(ring, 1, 0, 50, 0);
        ring.link(0, 1, true);
        Checks.same("best, one WITH one that can not", ring.best(), 0);
        Checks.same("bestByAll", ring.bestByAll(), 0);
        Checks.same("cycle", ring.cycle(), 0);
        ring.cancel(2);
        ring.cancel(3);
        Checks.same("cycle behind the link is gone", ring.cycle(), 1);

        SettlementRing other = three();
        trade(other, 0, 1, 1, 0);
        trade(other, 0, 1, 200, 0);
        trade(other, 0, 1, 2, 0);
        other.link(0, 1, false);
        other.link(1, 2, false);
        Checks.same("best, one BEHIND one that can not", other.best(), 20);
        Checks.same("bestByAll", other.bestByAll(), 20);
        Checks.same("cycle", other.cycle(), 1);
        Checks.same("status of the first one", other.status(0), MATCHED);
        Checks.same("status of the last one", other.status(4), SETTLED);
    }

    static void promise14_behindOneThatWasSettled() {
        SettlementRing ring = three();
        trade(ring, 0, 1, 1, 0);
        trade(ring, 0, 1, 2, 0);
        ring.hold(0);
        ring.link(0, 1, false);
        Checks.same("cycle of the second one", ring.cycle(), 1);
        ring.hold(0);
        Checks.same("cycle of the first one", ring.cycle(), 1);
    }

    static void promise14_withOneThatIsHeld() {
        SettlementRing ring = three();
        trade(ring, 0, 1, 1, 0);
        trade(ring, 0, 1, 2, 0);
        ring.link(0, 1, true);
        ring.hold(2);
        Checks.same("cycle", ring.cycle(), 0);
        ring.hold(2);
        ring.hold(0);
        Checks.same("cycle, the other one held", ring.cycle(), 0);
        ring.hold(0);
        Checks.same("cycle, none held", ring.cycle(), 2);
    }
}
