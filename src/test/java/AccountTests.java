/** Promises 1 to 9: a new object, accounts and securities. */
final class AccountTests {
    private static final int NONE = SettlementRing.NONE;

    private AccountTests() {
    }

    /** Two accounts of the country 0, without cash and lines. */
    private static SettlementRing pair() {
        SettlementRing ring = new SettlementRing();
        ring.open(NONE, false, 0, 0, 0);
        ring.open(NONE, false, 0, 0, 0);
        return ring;
    }

    static void promise01_aNewObjectIsEmpty() {
        SettlementRing ring = new SettlementRing();
        Checks.same("today", ring.today(), 0);
        Checks.same("loans", ring.loans(), 0);
        Checks.same("best", ring.best(), 0);
        Checks.same("bestByAll", ring.bestByAll(), 0);
        Checks.same("cycle", ring.cycle(), 0);
        Checks.noSuch(ring, "cash(0)", () -> ring.cash(0));
        Checks.noSuch(ring, "out(0)", () -> ring.out(0));
        Checks.noSuch(ring, "status(0)", () -> ring.status(0));
        Checks.noSuch(ring, "age(0)", () -> ring.age(0));
        Checks.noSuch(ring, "loan(0)", () -> ring.loan(0));
        Checks.noSuch(ring, "isPaid(0)", () -> ring.isPaid(0));
        Checks.badState(ring, "goBack()", ring::goBack);
        Checks.same("endDay", ring.endDay(), 0);
    }

    static void promise01_eachTreatyHas15AtFirst() {
        SettlementRing ring = new SettlementRing();
        for (int i = 0; i < 3; i++) {
            for (int j = 0; j < 3; j++) {
                Checks.same("treaty(" + i + ", " + j + ", 0)", ring.treaty(i, j, 0), 15);
            }
        }
    }

    static void promise01_objectsAreApart() {
        SettlementRing one = pair();
        SettlementRing other = new SettlementRing();
        one.treaty(0, 0, 3);
        one.endDay();
        Checks.noSuch(other, "cash(0)", () -> other.cash(0));
        Checks.same("treaty of the other", other.treaty(0, 0, 3), 15);
        Checks.same("today of the other", other.today(), 0);
    }

    static void promise02_opensAccountsByNumber() {
        SettlementRing ring = new SettlementRing();
        Checks.same("open", ring.open(NONE, true, 2, 1000000, 1000000), 0);
        Checks.same("open", ring.open(0, false, 0, 0, 0), 1);
        Checks.same("open", ring.open(0, true, 1, 17, 5), 2);
        Checks.same("cash", ring.cash(0), 1000000);
        Checks.same("limit", ring.limit(0), 1000000);
        Checks.same("cash", ring.cash(2), 17);
        Checks.same("limit", ring.limit(2), 5);
        Checks.same("ledger", ring.ledger(2), 0);
        Checks.same("pledged", ring.pledged(2), 0);
        Checks.same("messages", ring.messages(2), 0);
        Checks.is("isSound", ring.isSound(2));
    }

    static void promise02_rangesOfOpen() {
        SettlementRing ring = pair();
        int[][] bad = {{-1, 0, 0}, {3, 0, 0}, {0, -1, 0}, {0, 1000001, 0}, {0, 0, -1}, {0, 0, 1000001}};
        for (int[] of : bad) {
            Checks.badArgument(ring, "open", () -> ring.open(NONE, false, of[0], of[1], of[2]));
        }
        Checks.noSuch(ring, "open(2, ..)", () -> ring.open(2, false, 0, 0, 0));
        Checks.noSuch(ring, "open(-2, ..)", () -> ring.open(-2, true, 0, 0, 0));
        Checks.same("open", ring.open(1, true, 0, 0, 0), 2);
        Checks.badState(ring, "open(2, ..)", () -> ring.open(2, true, 0, 0, 0));
    }

    static void promise02_tenAccountsAndNoMore() {
        SettlementRing ring = new SettlementRing();
        for (int i = 0; i < 10; i++) {
            Checks.same("open", ring.open(i % 2 == 1 ? 0 : NONE, true, 0, i, 0), i);
        }
        Checks.badState(ring, "the 11th open", () -> ring.open(NONE, false, 0, 0, 0));
        Checks.badArgument(ring, "the 11th open, of country 3", () -> ring.open(1, false, 3, 0, 0));
        Checks.noSuch(ring, "the 11th open, of custodian 10", () -> ring.open(10, false, 3, 0, 0));
        Checks.same("cash", ring.cash(9), 9);
    }

    static void promise03_lendGoesToAndFro() {
        SettlementRing ring = pair();
        Checks.is("lend", ring.lend(0));
        Checks.isNot("lend", ring.lend(0));
        Checks.is("lend", ring.lend(1));
        Checks.is("lend", ring.lend(0));
        Checks.noSuch(ring, "lend(2)", () -> ring.lend(2));
        Checks.noSuch(ring, "lend(-1)", () -> ring.lend(-1));
        Checks.isNot("lend", ring.lend(0));
    }

    static void promise03_onlyWhoLendsIsBorrowedFrom() {
        SettlementRing ring = pair();
        ring.open(NONE, false, 0, 0, 0);
        ring.open(NONE, false, 0, 0, 0);
        ring.issue(3, 0, 5, 10, 0);
        ring.bring(0, 100);
        ring.instruct(0, 1, true, 0, 5, 0, 0, 0, 0);
        ring.instruct(1, 0, false, 0, 5, 0, 0, 0, 0);
        Checks.same("cycle while nobody lends", ring.cycle(), 0);
        ring.lend(3);
        ring.lend(3);
        Checks.same("cycle while nobody lends any more", ring.cycle(), 0);
        ring.lend(3);
        Checks.same("cycle", ring.cycle(), 1);
        Checks.same("loan", ring.loan(0), 5);
    }

    static void promise04_relieveGoesToAndFro() {
        SettlementRing ring = pair();
        Checks.is("relieve", ring.relieve(1));
        Checks.isNot("relieve", ring.relieve(1));
        Checks.is("relieve", ring.relieve(1));
        Checks.noSuch(ring, "relieve(2)", () -> ring.relieve(2));
        Checks.noSuch(ring, "relieve(-1)", () -> ring.relieve(-1));
    }

    /** What an account of a country gets of a dividend of 100 of a security of another country. */
    private static long netOf(SettlementRing ring, int holder) {
        long before = ring.cash(holder);
        ring.announce(SettlementRing.DIVIDEND, 0, 100, 0, 0, ring.today(), ring.today());
        ring.endDay();
        return ring.cash(holder) - before;
    }

    static void promise04_reliefIsThatOfThePayDay() {
        SettlementRing ring = new SettlementRing();
        ring.open(NONE, false, 2, 0, 0);
        ring.issue(0, 1, 1, 1, 0);
        Checks.same("net", netOf(ring, 0), 70);
        ring.relieve(0);
        Checks.same("net, relieved", netOf(ring, 0), 85);
        ring.relieve(0);
        Checks.same("net, not relieved any more", netOf(ring, 0), 70);
        ring.announce(SettlementRing.DIVIDEND, 0, 100, 0, 0, 3, 4);
        ring.endDay();
        ring.relieve(0);
        ring.endDay();
        Checks.same("cash", ring.cash(0), 70 + 85 + 70 + 85);
    }

    static void promise05_setsATreatyOfTwoCountriesInOneDirection() {
        SettlementRing ring = new SettlementRing();
        Checks.same("treaty", ring.treaty(1, 2, 7), 15);
        Checks.same("treaty", ring.treaty(1, 2, 30), 7);
        Checks.same("treaty", ring.treaty(2, 1, 0), 15);
        Checks.same("treaty", ring.treaty(2, 1, 1), 0);
        Checks.same("treaty", ring.treaty(1, 2, 8), 30);
        Checks.same("treaty of the same country", ring.treaty(1, 1, 2), 15);
        ring.open(NONE, false, 2, 0, 0);
        ring.relieve(0);
        ring.issue(0, 1, 1, 1, 0);
        Checks.same("net by the treaty of 1 and 2", netOf(ring, 0), 92);
    }

    static void promise05_rangesOfTreaty() {
        SettlementRing ring = new SettlementRing();
        int[][] bad = {{-1, 0, 0}, {3, 0, 0}, {0, -1, 0}, {0, 3, 0}, {0, 0, -1}, {0, 0, 31}};
        for (int[] of : bad) {
            Checks.badArgument(ring, "treaty", () -> ring.treaty(of[0], of[1], of[2]));
        }
        for (int i = 0; i < 9; i++) {
            Checks.same("treaty behind calls that throw", ring.treaty(i / 3, i % 3, 0), 15);
        }
    }

    static void promise06_givesAllUnitsToAnAccount() {
        SettlementRing ring = pair();
        Checks.same("issue", ring.issue(1, 2, 100000, 1000, 500), 0);
        Checks.same("issue", ring.issue(0, 0, 1, 1, 0), 1);
        Checks.same("units", ring.units(1, 0), 100000);
        Checks.same("units", ring.units(0, 0), 0);
        Checks.same("units", ring.units(0, 1), 1);
        Checks.same("out", ring.out(0), 100000);
        Checks.same("out", ring.out(1), 1);
        Checks.same("limit", ring.limit(1), 50000000);
        Checks.same("price", ring.setPrice(0, 1), 1000);
    }

    static void promise06_rangesOfIssue() {
        SettlementRing ring = pair();
        int[][] bad = {{-1, 1, 1, 0}, {3, 1, 1, 0}, {0, 0, 1, 0}, {0, 100001, 1, 0}, {0, 1, 0, 0},
            {0, 1, 1001, 0}, {0, 1, 1, -1}, {0, 1, 1, 501}};
        for (int[] of : bad) {
            Checks.badArgument(ring, "issue", () -> ring.issue(0, of[0], of[1], of[2], of[3]));
        }
        Checks.noSuch(ring, "issue(2, ..)", () -> ring.issue(2, 0, 1, 1, 0));
        Checks.noSuch(ring, "issue(-1, ..), no units", () -> ring.issue(-1, 0, 0, 1, 0));
        for (int i = 0; i < 4; i++) {
            Checks.same("issue", ring.issue(0, 0, 1, 1, 0), i);
        }
        Checks.badState(ring, "the 5th issue", () -> ring.issue(0, 0, 1, 1, 0));
        Checks.badArgument(ring, "the 5th issue, no units", () -> ring.issue(0, 0, 0, 1, 0));
    }

    static void promise07_setsAPrice() {
        SettlementRing ring = pair();
        ring.issue(0, 0, 3, 7, 0);
        Checks.same("limit", ring.limit(0), 10);
        Checks.same("setPrice", ring.setPrice(0, 1000), 7);
        Checks.same("limit", ring.limit(0), 1500);
        Checks.same("setPrice", ring.setPrice(0, 1), 1000);
        Checks.same("limit", ring.limit(0), 1);
        Checks.badArgument(ring, "setPrice(0, 0)", () -> ring.setPrice(0, 0));
        Checks.badArgument(ring, "setPrice(0, 1001)", () -> ring.setPrice(0, 1001));
        Checks.noSuch(ring, "setPrice(1, 0)", () -> ring.setPrice(1, 0));
        Checks.noSuch(ring, "setPrice(-1, 1)", () -> ring.setPrice(-1, 1));
        Checks.same("setPrice", ring.setPrice(0, 5), 1);
    }

    static void promise07_aPriceCanMakeAnAccountUnsound() {
        SettlementRing ring = pair();
        ring.issue(0, 0, 10, 10, 0);
        ring.bring(0, -50);
        Checks.is("isSound", ring.isSound(0));
        ring.setPrice(0, 9);
        Checks.isNot("isSound", ring.isSound(0));
    }

    static void promise08_blocksInPlaceOfThoseBlocked() {
        SettlementRing ring = pair();
        ring.issue(0, 0, 10, 3, 0);
        ring.issue(0, 0, 10, 1, 0);
        Checks.same("block", ring.block(0, 0, 10), 0);
        Checks.same("free", ring.free(0, 0), 0);
        Checks.same("free of the other security", ring.free(0, 1), 10);
        Checks.same("limit", ring.limit(0), 5);
        Checks.same("block", ring.block(0, 0, 4), 10);
        Checks.same("free", ring.free(0, 0), 6);
        Checks.same("units", ring.units(0, 0), 10);
        Checks.same("block", ring.block(0, 0, 0), 4);
        Checks.same("block of none held", ring.block(1, 0, 0), 0);
    }

    static void promise08_whatCanNotBeBlocked() {
        SettlementRing ring = pair();
        ring.issue(0, 0, 10, 3, 0);
        ring.block(0, 0, 2);
        Checks.badState(ring, "block(0, 0, 11)", () -> ring.block(0, 0, 11));
        Checks.badState(ring, "block(1, 0, 1)", () -> ring.block(1, 0, 1));
        Checks.badArgument(ring, "block(0, 0, -1)", () -> ring.block(0, 0, -1));
        Checks.noSuch(ring, "block(2, 0, -1)", () -> ring.block(2, 0, -1));
        Checks.noSuch(ring, "block(0, 1, -1)", () -> ring.block(0, 1, -1));
        Checks.noSuch(ring, "block(-1, 0, 0)", () -> ring.block(-1, 0, 0));
        Checks.noSuch(ring, "block(0, -1, 0)", () -> ring.block(0, -1, 0));
        Checks.same("block", ring.block(0, 0, 0), 2);
    }

    static void promise09_bringsAndTakesCash() {
        SettlementRing ring = pair();
        Checks.same("bring", ring.bring(0, 1000000), 1000000);
        Checks.same("bring", ring.bring(0, 1000000), 2000000);
        Checks.same("bring", ring.bring(0, -1000000), 1000000);
        Checks.same("bring", ring.bring(0, 0), 1000000);
        Checks.same("cash of the other", ring.cash(1), 0);
        Checks.badState(ring, "bring(1, -1)", () -> ring.bring(1, -1));
        Checks.badArgument(ring, "bring(0, 1000001)", () -> ring.bring(0, 1000001));
        Checks.badArgument(ring, "bring(0, -1000001)", () -> ring.bring(0, -1000001));
        Checks.noSuch(ring, "bring(2, 1000001)", () -> ring.bring(2, 1000001));
        Checks.noSuch(ring, "bring(-1, 0)", () -> ring.bring(-1, 0));
    }

    static void promise09_takesDownToTheLimit() {
        SettlementRing ring = new SettlementRing();
        ring.open(NONE, false, 0, 10, 5);
        ring.issue(0, 0, 3, 3, 0);
        Checks.badState(ring, "bring(0, -20)", () -> ring.bring(0, -20));
        Checks.same("bring", ring.bring(0, -19), -9);
        Checks.badState(ring, "bring(0, -1)", () -> ring.bring(0, -1));
    }

    static void promise09_anUnsoundAccountCanBringCash() {
        SettlementRing ring = new SettlementRing();
        ring.open(NONE, false, 0, 0, 0);
        ring.issue(0, 0, 10, 100, 0);
        ring.bring(0, -500);
        ring.setPrice(0, 10);
        Checks.isNot("isSound", ring.isSound(0));
        Checks.same("bring", ring.bring(0, 1), -499);
        Checks.same("bring of nothing", ring.bring(0, 0), -499);
        Checks.badState(ring, "bring(0, -1)", () -> ring.bring(0, -1));
        Checks.isNot("isSound", ring.isSound(0));
    }
}
