import java.util.function.Consumer;

/**
 * Going back brings back all, call by call, but what was told; and calls that read change nothing.
 * Both are looked at with all that a ring can be brought to tell.
 */
final class StateTests {
    private static final int NONE = SettlementRing.NONE;

    private StateTests() {
    }

    private static String withoutMessages(String text) {
        return text.replaceAll("messages \\d+", "");
    }

    private static SettlementRing keeping() {
        SettlementRing ring = Town.busy();
        ring.keep();
        return ring;
    }

    /** A call that changes something, and of which nothing is left when it is gone back from. */
    private static void goesBack(String name, Object... args) {
        String call = Face.text(name, args);
        String due = withoutMessages(Probe.of(StateTests::keeping));
        Checks.isNot("what there is being the same behind " + call, due.equals(withoutMessages(Probe.of(() -> {
            SettlementRing ring = keeping();
            String answer = Face.answer(ring, name, args);
            Checks.isNot(call + " throws " + answer, answer.endsWith("Exception"));
            return ring;
        }))));
        for (int times = 1; times <= 2; times++) {
            int most = times;
            String got = Probe.of(() -> {
                SettlementRing ring = keeping();
                for (int i = 0; i < most; i++) {
                    Face.answer(ring, name, args);
                    Face.answers(ring, 3, "goBack");
                }
                return ring;
            });
            Checks.same("what there is behind " + call + " and goBack, " + times, withoutMessages(got), due);
        }
    }

    static void promise22_goesBackFromOpen() {
        goesBack("open", NONE, false, 2, 7, 8);
        goesBack("open", 0, true, 1, 0, 0);
    }

    static void promise22_goesBackFromLend() {
        goesBack("lend", 4);
        goesBack("lend", 0);
    }

    static void promise22_goesBackFromRelieve() {
        goesBack("relieve", 3);
        goesBack("relieve", 4);
    }

    static void promise22_goesBackFromTreaty() {
        goesBack("treaty", 1, 2, 8);
        goesBack("treaty", 0, 0, 0);
    }

    static void promise22_goesBackFromIssue() {
        goesBack("issue", 5, 2, 70, 3, 4);
    }

    static void promise22_goesBackFromSetPrice() {
        goesBack("setPrice", 1, 4);
    }

    static void promise22_goesBackFromBlock() {
        goesBack("block", 1, 0, 12);
        goesBack("block", 4, 2, 290);
    }

    static void promise22_goesBackFromBring() {
        goesBack("bring", 0, -5);
        goesBack("bring", 5, 1000000);
    }

    static void promise22_goesBackFromInstruct() {
        goesBack("instruct", 0, 1, true, 0, 5, 5, 3, 9, 2);
        goesBack("instruct", 5, 0, false, 0, 12, 98, 3, 0, 0);
    }

    static void promise22_goesBackFromAmend() {
        goesBack("amend", 18, 1);
        goesBack("amend", 19, 102);
    }

    static void promise22_goesBackFromCancel() {
        goesBack("cancel", 18);
        goesBack("cancel", 12);
        goesBack("cancel", 17);
    }

    static void promise22_goesBackFromHold() {
        goesBack("hold", 12);
        goesBack("hold", 14);
    }

    static void promise22_goesBackFromLink() {
        goesBack("link", 6, 8, true);
        goesBack("link", 8, 6, false);
    }

    static void promise22_goesBackFromEndDay() {
        goesBack("endDay");
    }

    static void promise22_goesBackFromRecall() {
        goesBack("recall", 2);
    }

    static void promise22_goesBackFromAnnounce() {
        goesBack("announce", 1, 0, 3, 2, 0, 3, 3);
        goesBack("announce", 2, 2, 30, 2, 50, 4, 5);
    }

    static void promise22_goesBackFromElect() {
        goesBack("elect", 0, 1, 99);
        goesBack("elect", 1, 1, 33);
    }

    private static void play(Consumer<SettlementRing> steps) {
        String due = withoutMessages(Probe.of(StateTests::keeping));
        String got = Probe.of(() -> {
            SettlementRing ring = keeping();
            steps.accept(ring);
            Face.answers(ring, 3, "goBack");
            return ring;
        });
        Checks.same("what there is behind many calls and goBack", withoutMessages(got), due);
    }

    static void promise22_goesBackFromACycleThatSettlesBorrowsAndGivesBack() {
        play(ring -> {
            Town.trade(ring, 4, 0, 2, 10, 1, 3, 0, 0);
            Town.trade(ring, 5, 1, 2, 2, 30, 3, 0, 0);
            Town.trade(ring, 0, 1, 0, 9000, 0, 3, 0, 1);
            ring.bring(5, 100);
            Checks.same("cycle", ring.cycle(), 2);
            Checks.same("cycle", ring.cycle(), 0);
            Checks.same("loans", ring.loans(), 4);
            Checks.same("loan that is given back", ring.loan(1), NONE);
            Checks.same("tradeUnits, in part", ring.tradeUnits(12), 9000 - 967);
        });
    }

    static void promise22_goesBackFromAPartOfATradeAndASplit() {
        SettlementRing ring = Town.accounts(0, 1000);
        ring.issue(0, 0, 20, 1, 0);
        ring.announce(SettlementRing.SPLIT, 0, 2, 1, 0, 0, 0);
        Town.trade(ring, 0, 1, 0, 30, 90, 0, 0, 11);
        ring.block(0, 0, 9);
        ring.keep();
        for (int i = 0; i < 2; i++) {
            ring.cycle();
            Checks.same("tradeUnits", ring.tradeUnits(0), 19);
            Checks.same("tradeAmount", ring.tradeAmount(0), 57);
            ring.endDay();
            Checks.same("tradeUnits", ring.tradeUnits(0), 38);
            ring.goBack();
            Checks.same("tradeUnits", ring.tradeUnits(0), 30);
            Checks.same("tradeAmount", ring.tradeAmount(0), 90);
            Checks.same("age", ring.age(0), 0);
            ring.block(0, 0, 10);
            ring.cycle();
            Checks.same("tradeUnits, 10 being fewer than the least part", ring.tradeUnits(0), 30);
            Checks.same("block", ring.block(0, 0, 9), 10);
        }
    }

    static void promise22_goesBackFromCancellingATradeWithLinks() {
        SettlementRing ring = Town.accounts(0, 0);
        ring.issue(0, 0, 20, 1, 0);
        for (int i = 0; i < 4; i++) {
            Town.trade(ring, 0, 1, i == 1 ? 500 : 1, 0);
        }
        ring.link(0, 1, false);
        ring.link(2, 3, true);
        ring.hold(6);
        ring.keep();
        ring.cancel(2);
        ring.cancel(3);
        Checks.same("cycle, the trade 0 having no link then", ring.cycle(), 1);
        ring.goBack();
        Checks.same("cycle, one BEHIND one that can not and one WITH one that is held", ring.cycle(), 0);
        Checks.badState(ring, "link(0, 1, true)", () -> ring.link(0, 1, true));
        Checks.badState(ring, "link(3, 2, true)", () -> ring.link(3, 2, true));
        Checks.same("link", ring.link(1, 2, false), 3);
    }

    static void promise22_nothingIsLeftOfClaimsThatWereGoneBackFrom() {
        SettlementRing ring = Town.accounts(0, 0);
        ring.issue(0, 0, 20, 1, 0);
        ring.announce(SettlementRing.DIVIDEND, 0, 10, 0, 0, 0, 1);
        ring.keep();
        ring.hold(2 * Town.trade(ring, 0, 1, 5, 0));
        ring.endDay();
        ring.endDay();
        Checks.same("ledger, by a claim and two fines", ring.ledger(1), 52);
        ring.goBack();
        ring.endDay();
        Town.trade(ring, 0, 1, 5, 0);
        ring.cycle();
        ring.endDay();
        Checks.same("ledger, as no trade was due on the record day", ring.ledger(1), 0);
        ring.goBack();
        ring.hold(2 * Town.trade(ring, 0, 1, 3, 0));
        ring.endDay();
        ring.endDay();
        Checks.same("ledger, by a claim and two fines", ring.ledger(1), 32);
    }

    static void promise22_nothingIsLeftOfEntitlementsThatWereGoneBackFrom() {
        SettlementRing ring = Town.accounts(0);
        ring.issue(0, 0, 20, 1, 0);
        ring.announce(SettlementRing.OPTION, 0, 10, 1, 9, 0, 1);
        ring.keep();
        ring.open(NONE, false, 0, 0, 0);
        Town.trade(ring, 0, 1, 5, 0);
        ring.cycle();
        ring.endDay();
        ring.elect(1, 0, 5);
        Checks.same("entitled", ring.entitled(0, 1), 5);
        ring.goBack();
        ring.endDay();
        ring.open(NONE, false, 0, 0, 0);
        Checks.same("entitled", ring.entitled(0, 1), 0);
        Checks.same("entitledAnew", ring.entitledAnew(0, 1), 0);
        Checks.same("elect", ring.elect(1, 0, 0), 0);
        ring.endDay();
        Checks.same("cash", ring.cash(0), 140);
        Checks.same("cash", ring.cash(1), 0);
        Checks.same("units", ring.units(1, 0), 0);
    }

    static void promise22_anAccountOpenedAgainIsAsNew() {
        SettlementRing ring = Town.accounts(100, 0);
        ring.issue(0, 1, 20, 1, 0);
        ring.keep();
        ring.open(0, true, 1, 500, 60);
        ring.lend(2);
        ring.relieve(2);
        Town.trade(ring, 0, 2, 6, 30);
        Town.trade(ring, 1, 0, 2, 0);
        ring.bring(1, 100);
        ring.cycle();
        ring.block(2, 0, 1);
        ring.endDay();
        ring.goBack();
        Checks.same("open", ring.open(NONE, false, 2, 7, 0), 2);
        Checks.same("cash", ring.cash(2), 7);
        Checks.same("limit", ring.limit(2), 0);
        Checks.same("units", ring.units(2, 0), 0);
        Checks.same("pledged", ring.pledged(2), 0);
        Checks.same("ledger", ring.ledger(2), 0);
        Checks.is("lend", ring.lend(2));
        Checks.is("relieve", ring.relieve(2));
        Checks.same("block", ring.block(2, 0, 0), 0);
        Checks.same("open with it as the custodian", ring.open(2, true, 0, 0, 0), 3);
    }

    /** The document says of messages only that they are not gone back from, whatever their account. */
    static void promise22_whatWasToldUnderANumberStaysTold() {
        SettlementRing ring = Town.accounts(0, 0);
        ring.issue(0, 0, 20, 1, 0);
        ring.keep();
        ring.open(NONE, false, 0, 0, 0);
        Town.trade(ring, 0, 2, 6, 0);
        Checks.same("messages", ring.messages(2), 1);
        ring.goBack();
        Checks.noSuch(ring, "messages(2)", () -> ring.messages(2));
        ring.open(NONE, false, 0, 0, 0);
        Checks.same("messages", ring.messages(2), 1);
    }

    static void promise22_anInstructionGivenAgainIsAsNew() {
        SettlementRing ring = Town.accounts(0, 0, 0);
        ring.issue(0, 0, 20, 1, 0);
        ring.keep();
        ring.hold(2 * Town.trade(ring, 0, 1, 0, 5, 9, 0, 7, 3));
        ring.cancel(0);
        Town.days(ring, 2);
        ring.goBack();
        Town.trade(ring, 0, 2, 4, 0);
        Checks.same("age", ring.age(0), 0);
        Checks.same("tradeUnits", ring.tradeUnits(0), 4);
        Checks.isNot("cancel by the receiver, as the deliverer did not ask", ring.cancel(1));
        Checks.same("cycle, as it is not held", ring.cycle(), 1);
        Checks.same("units", ring.units(2, 0), 4);
    }

    static void promise22_goesBackFromManyDays() {
        play(ring -> {
            Town.days(ring, 10);
            Checks.same("status of one that was bought in", ring.status(14), SettlementRing.CANCELLED);
            Checks.is("isPaid", ring.isPaid(2));
        });
    }

    static void promise21_keepTakesThePlaceOfWhatWasKept() {
        SettlementRing ring = Town.busy();
        ring.bring(0, 7);
        Checks.same("keep", ring.keep(), 3);
        ring.bring(0, 7);
        Checks.same("goBack, not to the day 1", ring.goBack(), 3);
        Checks.same("cash", ring.cash(0), 5010);
        Checks.same("goBack", ring.goBack(), 3);
        ring.endDay();
        Checks.same("goBack from the next day", ring.goBack(), 3);
        Checks.same("keep of what was gone back to", ring.keep(), 3);
    }

    static void promise21_keepChangesNothingElse() {
        SettlementRing ring = Town.busy();
        String before = Sight.of(ring);
        ring.keep();
        Checks.same("what there is behind keep", Sight.of(ring), before);
    }

    static void promise21_whatIsKeptIsNotTouchedByWhatComesBehind() {
        SettlementRing ring = Town.busy();
        ring.keep();
        String kept = withoutMessages(Sight.of(ring));
        for (int i = 0; i < 5; i++) {
            Town.trade(ring, 0, 4, 0, 1 + i, 0, 3, 0, 0);
            ring.cycle();
            Town.days(ring, 1 + i);
            ring.goBack();
            Checks.same("what there is", withoutMessages(Sight.of(ring)), kept);
        }
    }

    static void promise22_goesBackToTheDayThatWasKept() {
        SettlementRing ring = Town.busy();
        Checks.same("goBack", ring.goBack(), 1);
        Checks.same("today", ring.today(), 1);
        Checks.same("loans", ring.loans(), 0);
        Checks.noSuch(ring, "loan(0)", () -> ring.loan(0));
        Checks.noSuch(ring, "age(2)", () -> ring.age(2));
        Checks.noSuch(ring, "isPaid(1)", () -> ring.isPaid(1));
        Checks.isNot("isPaid(0), as the pay day is not over then", ring.isPaid(0));
        Checks.same("units", ring.units(3, 1), 460);
    }

    static void promise22_messagesAreNotGoneBackFrom() {
        SettlementRing ring = Town.busy();
        int[] told = new int[6];
        for (int i = 0; i < 6; i++) {
            told[i] = ring.messages(i);
        }
        ring.goBack();
        for (int i = 0; i < 6; i++) {
            Checks.same("messages(" + i + ")", ring.messages(i), told[i]);
        }
        Town.trade(ring, 0, 5, 0, 1, 0, 1, 0, 0);
        Checks.same("messages", ring.messages(5), told[5] + 1);
        ring.goBack();
        Checks.same("messages", ring.messages(5), told[5] + 1);
        ring.keep();
        ring.goBack();
        Checks.same("messages", ring.messages(5), told[5] + 1);
    }

    /** Calls that only read, each of which must change nothing. */
    private static void readsOnly(String name, Object... args) {
        String got = Probe.of(() -> {
            SettlementRing ring = Town.busy();
            String answer = Face.answer(ring, name, args);
            Face.answers(ring, answer, name, args);
            return ring;
        });
        Checks.same("what there is behind " + Face.text(name, args), got, Probe.of(Town::busy));
    }

    static void promise16_bestChangesNothing() {
        readsOnly("best");
    }

    static void promise17_bestByAllChangesNothing() {
        readsOnly("bestByAll");
    }

    static void promise44_causerChangesNothing() {
        readsOnly("causer", 6);
        readsOnly("causer", 7);
    }

    static void promise26_entitledAnewChangesNothing() {
        readsOnly("entitledAnew", 1, 0);
        readsOnly("entitledAnew", 2, 0);
    }

    static void promise28_readingChangesNothing() {
        String[] names = {"cash", "pledged", "limit", "isSound", "used", "ledger", "messages", "alleged", "out",
            "status", "tradeOf", "tradeUnits", "tradeAmount", "age", "loan", "isPaid"};
        for (String name : names) {
            readsOnly(name, 1);
        }
        readsOnly("units", 1, 0);
        readsOnly("free", 1, 0);
        readsOnly("entitled", 1, 0);
        readsOnly("today");
        readsOnly("loans");
    }

    static void promise30_whatAllHoldIsWhatIsOut() {
        SettlementRing ring = Town.busy();
        for (int day = 0; day < 12; day++) {
            ring.cycle();
            for (int security = 0; security < 3; security++) {
                long all = 0;
                for (int account = 0; account < 6; account++) {
                    all += ring.units(account, security);
                }
                Checks.same("units of all of " + security, all, ring.out(security));
            }
            if (day < 7) {
                ring.announce(day % 3, day % 2, 2, 1 + day % 2, 9, ring.today(), ring.today() + 1);
            }
            ring.endDay();
        }
    }
}
