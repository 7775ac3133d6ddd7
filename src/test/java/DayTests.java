/** Promises 18, 19, 21, 22 and 44: the end of a day, fines and buy-ins, causers, keeping and going back. */
final class DayTests {
    private static final int NONE = SettlementRing.NONE;
    private static final int CANCELLED = SettlementRing.CANCELLED;

    private DayTests() {
    }

    /** Four accounts; the first one has all 100 units of a security of price 10 and rate 200. */
    private static SettlementRing four() {
        SettlementRing ring = new SettlementRing();
        for (int i = 0; i < 4; i++) {
            ring.open(NONE, false, 0, 0, 0);
        }
        ring.issue(0, 0, 100, 10, 200);
        return ring;
    }

    private static int trade(SettlementRing ring, int from, int to, int units, int amount, int date) {
        int one = ring.instruct(from, to, true, 0, units, amount, date, 0, 0);
        ring.instruct(to, from, false, 0, units, amount, date, 0, 0);
        return ring.tradeOf(one);
    }

    private static void ledgers(SettlementRing ring, long... due) {
        for (int i = 0; i < due.length; i++) {
            Checks.same("ledger(" + i + ")", ring.ledger(i), due[i]);
        }
    }

    static void promise18_aDelivererWhoLacksUnitsOwesTheReceiver() {
        SettlementRing ring = four();
        trade(ring, 1, 2, 60, 7, 0);
        Checks.same("endDay", ring.endDay(), 1);
        // 600 times 200 by 10000 is 12, and 1
        ledgers(ring, 0, -13, 13, 0);
        Checks.same("messages", ring.messages(1), 2);
        Checks.same("messages", ring.messages(2), 2);
        Checks.same("age", ring.age(0), 1);
        Checks.same("cash", ring.cash(1), 0);
    }

    static void promise18_fineIsRoundedDownAndAtLeastOne() {
        SettlementRing ring = four();
        trade(ring, 1, 2, 4, 0, 0);
        ring.endDay();
        ledgers(ring, 0, -1, 1, 0);
        trade(ring, 1, 2, 9, 0, 1);
        ring.endDay();
        ledgers(ring, 0, -1 - 1 - 2, 4, 0);
        ring.setPrice(0, 1000);
        ring.endDay();
        ledgers(ring, 0, -4 - 81 - 181, 4 + 81 + 181, 0);
    }

    static void promise18_aReceiverWhoCanNotPayOwesTheDeliverer() {
        SettlementRing ring = four();
        trade(ring, 0, 1, 50, 100000, 0);
        Checks.same("causer", ring.causer(0), 1);
        Checks.same("endDay", ring.endDay(), 1);
        ledgers(ring, 11, -11, 0, 0);
    }

    static void promise18_noFineForWhatIsNotDue() {
        SettlementRing ring = four();
        trade(ring, 1, 2, 4, 0, 1);
        trade(ring, 0, 2, 4, 0, 0);
        ring.instruct(1, 2, true, 0, 5, 0, 0, 0, 0);
        ring.cycle();
        Checks.same("endDay", ring.endDay(), 0);
        Checks.same("age", ring.age(0), 0);
        Checks.same("age of one that is settled", ring.age(1), 0);
        Checks.same("endDay", ring.endDay(), 1);
        Checks.same("age", ring.age(0), 1);
        Checks.same("age of one that is settled", ring.age(1), 0);
    }

    static void promise18_whoHoldsOwes() {
        SettlementRing ring = four();
        trade(ring, 0, 1, 50, 0, 0);
        ring.hold(0);
        ring.endDay();
        ledgers(ring, -11, 11, 0, 0);
        ring.hold(1);
        ring.endDay();
        ledgers(ring, -22, 22, 0, 0);
        ring.hold(0);
        ring.endDay();
        ledgers(ring, -11, 11, 0, 0);
    }

    static void promise18_theReceiverWhoHoldsOwesEvenIfUnitsLack() {
        SettlementRing ring = four();
        trade(ring, 1, 2, 50, 0, 0);
        ring.hold(1);
        Checks.same("endDay", ring.endDay(), 1);
        ledgers(ring, 0, 11, -11, 0);
    }

    static void promise44_theChainGoesUpToWhoCausedIt() {
        SettlementRing ring = four();
        trade(ring, 2, 3, 5, 0, 0);
        trade(ring, 1, 2, 5, 0, 0);
        trade(ring, 0, 1, 500, 0, 0);
        Checks.same("causer", ring.causer(0), 0);
        Checks.same("causer", ring.causer(1), 0);
        Checks.same("causer", ring.causer(2), 0);
        Checks.same("endDay", ring.endDay(), 3);
        // 2, 2 and 101 are owed by account 0
        ledgers(ring, -105, 101, 2, 2);
        ring.hold(3);
        Checks.same("causer, the receiver in between holding", ring.causer(0), 2);
        ring.hold(2);
        Checks.same("causer, the deliverer in between holding", ring.causer(0), 1);
        ring.hold(1);
        Checks.same("causer, the first receiver holding", ring.causer(0), 3);
    }

    static void promise44_theChainEndsAtAReceiverWhoCouldHaveTheUnits() {
        SettlementRing ring = four();
        trade(ring, 1, 2, 5, 0, 0);
        trade(ring, 0, 1, 5, 99, 0);
        Checks.same("causer", ring.causer(0), 1);
        Checks.same("causer", ring.causer(1), 1);
        ring.endDay();
        ledgers(ring, 2, -4, 2, 0);
    }

    static void promise44_theLowestNumberOfTheSameSecurityThatIsDue() {
        SettlementRing ring = four();
        ring.issue(3, 0, 10, 10, 0);
        int one = ring.instruct(3, 1, true, 1, 99, 0, 0, 0, 0);
        ring.instruct(1, 3, false, 1, 99, 0, 0, 0, 0);
        trade(ring, 3, 1, 5, 0, 1);
        trade(ring, 0, 1, 500, 0, 0);
        trade(ring, 2, 1, 5, 0, 0);
        trade(ring, 1, 3, 5, 0, 0);
        Checks.same("tradeOf", ring.tradeOf(one), 0);
        Checks.same("causer", ring.causer(4), 0);
        ring.endDay();
        Checks.same("causer when trade 1 is due", ring.causer(4), 3);
    }

    static void promise44_roundACircleNoTradeIsGoneThroughTwice() {
        SettlementRing ring = four();
        trade(ring, 1, 2, 5, 0, 0);
        trade(ring, 2, 3, 5, 0, 0);
        trade(ring, 3, 1, 5, 0, 0);
        // from trade 0 by 2 and 1, whose deliverer receives in trade 0 alone
        Checks.same("causer", ring.causer(0), 2);
        Checks.same("causer", ring.causer(1), 3);
        Checks.same("causer", ring.causer(2), 1);
        Checks.same("endDay, as each owes itself", ring.endDay(), 0);
        ledgers(ring, 0, 0, 0, 0);
        Checks.same("messages", ring.messages(1), 2);
        Checks.same("age", ring.age(0), 1);
    }

    static void promise44_exceptionsOfCauser() {
        SettlementRing ring = four();
        trade(ring, 1, 2, 5, 0, 1);
        Checks.badState(ring, "causer of one that is not due", () -> ring.causer(0));
        Checks.noSuch(ring, "causer(1)", () -> ring.causer(1));
        Checks.noSuch(ring, "causer(-1)", () -> ring.causer(-1));
        ring.endDay();
        Checks.same("causer", ring.causer(0), 1);
    }

    static void promise18_loansThatAreRecalledAreFined() {
        SettlementRing ring = four();
        ring.bring(1, 1000);
        ring.lend(0);
        trade(ring, 1, 2, 30, 0, 0);
        ring.cycle();
        Checks.same("endDay", ring.endDay(), 0);
        ring.recall(0);
        Checks.same("endDay", ring.endDay(), 1);
        ledgers(ring, 7, -7, 0, 0);
        Checks.same("messages of the lender", ring.messages(0), 1);
        Checks.same("messages of the borrower", ring.messages(1), 3);
        Checks.same("endDay", ring.endDay(), 1);
        ledgers(ring, 14, -14, 0, 0);
        trade(ring, 2, 1, 30, 0, 3);
        ring.cycle();
        ring.cycle();
        Checks.same("endDay behind it was given back", ring.endDay(), 0);
    }

    static void promise18_buyInAtTheAgeOfFive() {
        SettlementRing ring = four();
        trade(ring, 1, 2, 10, 30, 0);
        trade(ring, 1, 2, 10, 200, 0);
        trade(ring, 0, 2, 10, 30000, 0);
        ring.link(0, 2, true);
        ring.link(2, 1, true);
        for (int i = 0; i < 4; i++) {
            Checks.same("endDay", ring.endDay(), 3);
        }
        Checks.same("age", ring.age(0), 4);
        Checks.same("status", ring.status(0), SettlementRing.MATCHED);
        long before = ring.ledger(1);
        int told = ring.messages(1);
        int toldReceiver = ring.messages(2);
        Checks.same("endDay", ring.endDay(), 3);
        Checks.same("age", ring.age(0), 5);
        Checks.same("status", ring.status(0), CANCELLED);
        Checks.same("status", ring.status(1), CANCELLED);
        Checks.same("status of the one that costs more than it is worth", ring.status(2), CANCELLED);
        Checks.same("status of one that does not lack units", ring.status(4), SettlementRing.MATCHED);
        Checks.same("ledger", ring.ledger(1), before - 3 - 3 - 70);
        Checks.same("messages", ring.messages(1), told + 4);
        Checks.same("messages", ring.messages(2), toldReceiver + 5);
        ring.block(0, 0, 100);
        Checks.same("endDay", ring.endDay(), 1);
        Checks.same("age", ring.age(2), 6);
        Checks.same("status, as it is older than 5", ring.status(4), SettlementRing.MATCHED);
        Checks.same("age of one that is cancelled", ring.age(0), 5);
        trade(ring, 0, 3, 1, 0, 6);
        Checks.same("link, as both are gone with the trades", ring.link(2, 3, true), 1);
    }

    static void promise18_heldTradesAgeAndAreBoughtInToo() {
        SettlementRing ring = four();
        trade(ring, 1, 2, 10, 30, 0);
        ring.hold(1);
        for (int i = 0; i < 5; i++) {
            ring.endDay();
        }
        Checks.same("status", ring.status(0), CANCELLED);
        ledgers(ring, 0, 15 - 70, -15 + 70, 0);
    }

    static void promise18_endsTheDay() {
        SettlementRing ring = four();
        Checks.same("endDay", ring.endDay(), 0);
        Checks.same("today", ring.today(), 1);
        Checks.badArgument(ring, "instruct for yesterday", () -> trade(ring, 0, 1, 1, 0, 0));
    }

    static void promise18_noDayBehindTheDay2000() {
        SettlementRing ring = new SettlementRing();
        for (int i = 0; i < 2000; i++) {
            ring.endDay();
        }
        Checks.badState(ring, "endDay on the day 2000", ring::endDay);
        Checks.same("today", ring.today(), 2000);
    }

    static void promise19_today() {
        SettlementRing ring = new SettlementRing();
        for (int i = 0; i < 7; i++) {
            Checks.same("today", ring.today(), i);
            ring.cycle();
            ring.endDay();
        }
        Checks.same("today", ring.today(), 7);
    }

    static void promise21_keepsInPlaceOfWhatWasKept() {
        SettlementRing ring = four();
        Checks.same("keep", ring.keep(), 0);
        ring.bring(0, 5);
        ring.endDay();
        Checks.same("keep", ring.keep(), 1);
        ring.bring(0, 5);
        ring.endDay();
        Checks.same("goBack", ring.goBack(), 1);
        Checks.same("cash", ring.cash(0), 5);
        ring.bring(0, 50);
        Checks.same("goBack, as it stays kept", ring.goBack(), 1);
        Checks.same("cash", ring.cash(0), 5);
        Checks.same("today", ring.today(), 1);
    }

    static void promise22_goesBackToAllOfTheState() {
        SettlementRing ring = four();
        ring.bring(1, 1000);
        trade(ring, 0, 2, 5, 3, 0);
        trade(ring, 0, 3, 50, 9000, 0);
        ring.cycle();
        ring.announce(SettlementRing.OPTION, 0, 3, 2, 10, 0, 1);
        ring.lend(0);
        trade(ring, 1, 2, 5, 0, 0);
        ring.instruct(3, 0, true, 0, 5, 0, 0, 0, 0);
        ring.cycle();
        ring.endDay();
        ring.elect(0, 0, 20);
        String before = Sight.of(ring);
        ring.keep();
        disturb(ring);
        Checks.isNot("what there is being the same behind many calls", Sight.of(ring).equals(before));
        ring.goBack();
        Checks.same("what there is, messages left out", withoutMessages(Sight.of(ring)), withoutMessages(before));
        Checks.same("treaty", ring.treaty(0, 0, 15), 15);
        Checks.same("setPrice", ring.setPrice(0, 10), 10);
        Checks.isNot("lend", ring.lend(0));
        Checks.is("relieve", ring.relieve(1));
        Checks.is("hold", ring.hold(6));
        Checks.isNot("cancel", ring.cancel(2));
        Checks.same("block", ring.block(0, 0, 0), 0);
        Checks.same("elect", ring.elect(0, 0, 0), 20);
        Checks.same("recall", ring.recall(0), 5);
        Checks.same("open", ring.open(NONE, false, 0, 0, 0), 4);
        Checks.same("units", ring.units(4, 0), 0);
        Checks.isNot("lend of a new account", !ring.lend(4));
    }

    private static void disturb(SettlementRing ring) {
        ring.treaty(0, 0, 1);
        ring.setPrice(0, 999);
        ring.lend(0);
        ring.relieve(1);
        ring.hold(6);
        ring.cancel(3);
        ring.block(0, 0, 3);
        ring.elect(0, 0, 10);
        ring.recall(0);
        ring.open(0, true, 0, 77, 7);
        ring.lend(4);
        ring.issue(4, 0, 5, 5, 5);
        trade(ring, 0, 4, 5, 3, 1);
        ring.link(1, 3, true);
        ring.announce(SettlementRing.SPLIT, 0, 3, 1, 0, 1, 1);
        ring.cycle();
        ring.endDay();
        ring.endDay();
    }

    private static String withoutMessages(String sight) {
        return sight.replaceAll("messages \\d+", "");
    }

    static void promise22_whatWasToldStaysTold() {
        SettlementRing ring = four();
        ring.instruct(0, 1, true, 0, 5, 0, 0, 0, 0);
        ring.keep();
        for (int i = 1; i <= 3; i++) {
            ring.instruct(1, 0, false, 0, 5, 0, 0, 0, 0);
            ring.cycle();
            Checks.same("messages", ring.messages(0), 2 * i);
            ring.goBack();
            Checks.same("messages", ring.messages(0), 2 * i);
            Checks.same("messages", ring.messages(1), 2 * i);
            Checks.same("status", ring.status(0), SettlementRing.OPEN);
        }
        Checks.same("messages", ring.messages(2), 0);
    }

    static void promise22_goesBackBehindLinksAndEventsWereThere() {
        SettlementRing ring = four();
        trade(ring, 0, 1, 1, 0, 0);
        trade(ring, 0, 2, 1, 0, 0);
        ring.keep();
        ring.link(0, 1, true);
        ring.announce(SettlementRing.DIVIDEND, 0, 1, 0, 0, 0, 0);
        ring.endDay();
        ring.goBack();
        Checks.noSuch(ring, "isPaid(0)", () -> ring.isPaid(0));
        Checks.same("link", ring.link(0, 1, false), 1);
        ring.announce(SettlementRing.DIVIDEND, 0, 1, 0, 0, 0, 1);
        Checks.same("entitled", ring.entitled(0, 0), NONE);
        Checks.isNot("isPaid", ring.isPaid(0));
        ring.cycle();
        ring.endDay();
        Checks.same("entitledAnew", ring.entitledAnew(0, 0), 98);
        Checks.same("entitledAnew", ring.entitledAnew(0, 1), 1);
    }

    static void promise22_goesBackToADayOfEventsManyTimes() {
        SettlementRing ring = four();
        for (int i = 0; i < 3; i++) {
            ring.announce(SettlementRing.DIVIDEND, 0, 1, 0, 0, 0, 0);
        }
        ring.keep();
        for (int i = 1; i <= 12; i++) {
            trade(ring, 0, 1, i, 0, 0);
            ring.cycle();
            ring.endDay();
            trade(ring, 0, 2, i, 0, 1);
            ring.cycle();
            Checks.same("entitledAnew", ring.entitledAnew(0, 0), 100 - i);
            Checks.same("entitledAnew", ring.entitledAnew(2, 1), i);
            Checks.same("entitledAnew", ring.entitledAnew(2, 2), 0);
            ring.goBack();
            Checks.same("entitledAnew", ring.entitledAnew(2, 1), NONE);
        }
    }

    static void promise22_nothingIsKeptAtFirst() {
        SettlementRing ring = four();
        ring.endDay();
        Checks.badState(ring, "goBack", ring::goBack);
        Checks.same("today", ring.today(), 1);
    }
}
