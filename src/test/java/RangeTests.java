/**
 * The least and the greatest argument that each call allows, that each of them counts as given, and
 * how many there are of each kind at most. What is just outside of a range stands in RefusalTests.
 */
final class RangeTests {
    private static final int NONE = SettlementRing.NONE;
    private static final int DIVIDEND = SettlementRing.DIVIDEND;
    private static final int SPLIT = SettlementRing.SPLIT;
    private static final int OPTION = SettlementRing.OPTION;

    private RangeTests() {
    }

    // ---- the ranges of arguments

    static void promise02_leastAndGreatestCustodian() {
        SettlementRing ring = Town.accounts(0, 0, 0);
        Checks.same("open, the least custodian", ring.open(0, true, 0, 0, 0), 3);
        Checks.same("open, the greatest custodian", ring.open(2, true, 0, 0, 0), 4);
        Checks.same("open, none", ring.open(NONE, true, 0, 0, 0), 5);
        Checks.same("open, the greatest custodian", ring.open(5, false, 0, 0, 0), 6);
        Checks.badState(ring, "open, a custodian that has one", () -> ring.open(6, false, 0, 0, 0));
        Checks.noSuch(ring, "open, itself", () -> ring.open(7, false, 0, 0, 0));
    }

    static void promise02_leastAndGreatestCash() {
        SettlementRing ring = new SettlementRing();
        ring.open(NONE, false, 0, 0, 5);
        ring.open(NONE, false, 0, 1000000, 5);
        Checks.same("cash", ring.cash(0), 0);
        Checks.same("cash", ring.cash(1), 1000000);
        Checks.badArgument(ring, "open, cash -1", () -> ring.open(NONE, false, 0, -1, 5));
        Checks.badArgument(ring, "open, cash 1000001", () -> ring.open(NONE, false, 0, 1000001, 5));
    }

    static void promise02_leastAndGreatestLine() {
        SettlementRing ring = new SettlementRing();
        ring.open(NONE, false, 0, 5, 0);
        ring.open(NONE, false, 0, 5, 1000000);
        Checks.same("limit", ring.limit(0), 0);
        Checks.same("limit", ring.limit(1), 1000000);
        Checks.badArgument(ring, "open, line -1", () -> ring.open(NONE, false, 0, 5, -1));
        Checks.badArgument(ring, "open, line 1000001", () -> ring.open(NONE, false, 0, 5, 1000001));
    }

    /** Three relieved accounts, one of each country, with one unit of three securities, one of each country. */
    private static SettlementRing countries() {
        SettlementRing ring = new SettlementRing();
        for (int i = 0; i < 3; i++) {
            ring.open(NONE, false, i, 0, 0);
            ring.relieve(i);
        }
        for (int i = 0; i < 3; i++) {
            ring.issue(0, i, 3, 1, 0);
            Town.trade(ring, 0, 1, i, 1, 0, 0, 0, 0);
            Town.trade(ring, 0, 2, i, 1, 0, 0, 0, 0);
        }
        ring.cycle();
        return ring;
    }

    static void promise05_eachPairOfCountriesHasItsOwnTreaty() {
        SettlementRing ring = countries();
        for (int i = 0; i < 9; i++) {
            Checks.same("treaty", ring.treaty(i / 3, i % 3, 3 * i + 2), 15);
        }
        for (int i = 0; i < 3; i++) {
            ring.announce(DIVIDEND, i, 100, 0, 0, i, i);
            long[] before = {ring.cash(0), ring.cash(1), ring.cash(2)};
            ring.endDay();
            for (int j = 0; j < 3; j++) {
                Checks.same("net of security " + i + " for account " + j, ring.cash(j) - before[j],
                        100 - (3 * (3 * i + j) + 2));
            }
        }
    }

    static void promise05_leastAndGreatestRate() {
        SettlementRing ring = countries();
        ring.treaty(0, 1, 0);
        ring.treaty(0, 2, 30);
        ring.announce(DIVIDEND, 0, 1000, 0, 0, 0, 0);
        ring.endDay();
        Checks.same("net at the rate 15", ring.cash(0), 850);
        Checks.same("net at the rate 0", ring.cash(1), 1000);
        Checks.same("net at the rate 30", ring.cash(2), 700);
        Checks.badArgument(ring, "treaty, rate -1", () -> ring.treaty(0, 1, -1));
        Checks.badArgument(ring, "treaty, rate 31", () -> ring.treaty(0, 1, 31));
        Checks.same("treaty", ring.treaty(0, 1, 1), 0);
        Checks.same("treaty", ring.treaty(0, 2, 1), 30);
    }

    static void promise06_leastAndGreatestUnits() {
        SettlementRing ring = Town.accounts(0);
        ring.issue(0, 0, 1, 1, 0);
        ring.issue(0, 0, 100000, 1, 0);
        Checks.same("units", ring.units(0, 0), 1);
        Checks.same("units", ring.units(0, 1), 100000);
        Checks.same("out", ring.out(0), 1);
        Checks.same("out", ring.out(1), 100000);
        Checks.badArgument(ring, "issue of none", () -> ring.issue(0, 0, 0, 1, 0));
        Checks.badArgument(ring, "issue of 100001", () -> ring.issue(0, 0, 100001, 1, 0));
    }

    static void promise06_leastAndGreatestPrice() {
        SettlementRing ring = Town.accounts(0, 0);
        ring.issue(0, 0, 2, 1, 0);
        ring.issue(1, 0, 2, 1000, 0);
        Checks.same("limit", ring.limit(0), 1);
        Checks.same("limit", ring.limit(1), 1000);
        Checks.badArgument(ring, "issue, price 0", () -> ring.issue(0, 0, 1, 0, 0));
        Checks.badArgument(ring, "issue, price 1001", () -> ring.issue(0, 0, 1, 1001, 0));
    }

    static void promise06_leastAndGreatestRate() {
        SettlementRing ring = Town.accounts(0, 0, 0);
        ring.issue(0, 0, 1, 1000, 0);
        ring.issue(0, 0, 1, 1000, 500);
        Town.trade(ring, 1, 2, 0, 100, 0, 0, 0, 0);
        ring.endDay();
        Checks.same("ledger by a fine of the rate 0", ring.ledger(2), 1);
        Town.trade(ring, 1, 0, 1, 100, 0, 1, 0, 0);
        ring.endDay();
        Checks.same("ledger by a fine of the rate 500", ring.ledger(0), 5001);
        Checks.badArgument(ring, "issue, rate -1", () -> ring.issue(0, 0, 1, 1, -1));
        Checks.badArgument(ring, "issue, rate 501", () -> ring.issue(0, 0, 1, 1, 501));
    }

    static void promise07_leastAndGreatestPrice() {
        SettlementRing ring = Town.accounts(0);
        ring.issue(0, 0, 2, 7, 0);
        Checks.same("setPrice", ring.setPrice(0, 1), 7);
        Checks.same("limit", ring.limit(0), 1);
        Checks.same("setPrice", ring.setPrice(0, 1000), 1);
        Checks.same("limit", ring.limit(0), 1000);
        Checks.badArgument(ring, "setPrice 0", () -> ring.setPrice(0, 0));
        Checks.badArgument(ring, "setPrice 1001", () -> ring.setPrice(0, 1001));
        Checks.same("setPrice", ring.setPrice(0, 1000), 1000);
    }

    static void promise08_leastAndGreatestUnits() {
        SettlementRing ring = Town.accounts(0, 0);
        ring.issue(0, 0, 12, 1, 0);
        Checks.same("block of all", ring.block(0, 0, 12), 0);
        Checks.same("free", ring.free(0, 0), 0);
        Checks.badState(ring, "block of one more", () -> ring.block(0, 0, 13));
        Checks.same("block of none", ring.block(0, 0, 0), 12);
        Checks.same("free", ring.free(0, 0), 12);
        Checks.badArgument(ring, "block of -1", () -> ring.block(0, 0, -1));
        Checks.same("block of none of none", ring.block(1, 0, 0), 0);
        Checks.badState(ring, "block of one of none", () -> ring.block(1, 0, 1));
    }

    static void promise09_leastAndGreatestCash() {
        SettlementRing ring = Town.accounts(0);
        Checks.same("bring", ring.bring(0, 1000000), 1000000);
        Checks.same("bring", ring.bring(0, -1000000), 0);
        Checks.same("bring of nothing", ring.bring(0, 0), 0);
        ring.bring(0, 1000000);
        ring.bring(0, 1000000);
        Checks.badArgument(ring, "bring(0, 1000001)", () -> ring.bring(0, 1000001));
        Checks.badArgument(ring, "bring(0, -1000001)", () -> ring.bring(0, -1000001));
    }

    static void promise10_leastAndGreatestUnits() {
        SettlementRing ring = Town.accounts(0, 0);
        ring.issue(0, 0, 100000, 1, 0);
        Checks.same("tradeUnits", ring.tradeUnits(Town.trade(ring, 0, 1, 1, 0)), 1);
        Checks.same("tradeUnits", ring.tradeUnits(Town.trade(ring, 0, 1, 100000, 0)), 100000);
        Checks.badArgument(ring, "instruct of none", () -> ring.instruct(0, 1, true, 0, 0, 0, 0, 0, 0));
        Checks.badArgument(ring, "instruct of 100001", () -> ring.instruct(0, 1, true, 0, 100001, 0, 0, 0, 0));
        Checks.same("cycle, of the greater one", ring.cycle(), 1);
        Checks.same("units", ring.units(1, 0), 100000);
    }

    static void promise10_leastAndGreatestAmount() {
        SettlementRing ring = Town.accounts(0, 0);
        ring.issue(0, 0, 5, 1, 0);
        Checks.same("tradeAmount", ring.tradeAmount(Town.trade(ring, 0, 1, 1, 0)), 0);
        Checks.same("tradeAmount", ring.tradeAmount(Town.trade(ring, 0, 1, 1, 100000000)), 100000000);
        Checks.badArgument(ring, "instruct, amount -1", () -> ring.instruct(0, 1, true, 0, 1, -1, 0, 0, 0));
        Checks.badArgument(ring, "instruct, amount 100000001",
                () -> ring.instruct(0, 1, true, 0, 1, 100000001, 0, 0, 0));
        Checks.same("cycle, of the one for nothing", ring.cycle(), 1);
    }

    static void promise10_leastAndGreatestDate() {
        SettlementRing ring = Town.accounts(0, 0);
        ring.issue(0, 0, 5, 1, 0);
        Town.days(ring, 1998);
        Checks.badArgument(ring, "instruct for yesterday", () -> ring.instruct(0, 1, true, 0, 1, 0, 1997, 0, 0));
        Checks.badArgument(ring, "instruct for the day 2001", () -> ring.instruct(0, 1, true, 0, 1, 0, 2001, 0, 0));
        Town.trade(ring, 0, 1, 0, 1, 0, 1998, 0, 0);
        Town.trade(ring, 0, 1, 0, 1, 0, 2000, 0, 0);
        Checks.same("cycle, of the one for today", ring.cycle(), 1);
        Town.days(ring, 1);
        Checks.same("cycle on the day 1999", ring.cycle(), 0);
        Town.days(ring, 1);
        Checks.same("cycle on the day 2000", ring.cycle(), 1);
        Checks.same("trade on the day 2000", Town.trade(ring, 0, 1, 0, 1, 0, 2000, 0, 0), 2);
        Checks.badArgument(ring, "instruct for yesterday", () -> ring.instruct(0, 1, true, 0, 1, 0, 1999, 0, 0));
    }

    static void promise10_leastAndGreatestPriority() {
        SettlementRing ring = Town.accounts(0, 0);
        ring.issue(0, 0, 1, 1, 0);
        Town.trade(ring, 0, 1, 0, 1, 0, 0, 8, 0);
        Town.trade(ring, 0, 1, 0, 1, 0, 0, 9, 0);
        Town.trade(ring, 0, 1, 0, 1, 0, 0, 0, 0);
        Checks.badArgument(ring, "instruct, priority -1", () -> ring.instruct(0, 1, true, 0, 1, 0, 0, -1, 0));
        Checks.badArgument(ring, "instruct, priority 10", () -> ring.instruct(0, 1, true, 0, 1, 0, 0, 10, 0));
        Checks.same("cycle", ring.cycle(), 1);
        Checks.same("status of the one of 9", ring.status(2), SettlementRing.SETTLED);
    }

    static void promise10_leastAndGreatestLeastPart() {
        SettlementRing ring = Town.accounts(0, 0);
        ring.issue(0, 0, 6, 1, 0);
        Checks.badArgument(ring, "instruct, least -1", () -> ring.instruct(0, 1, true, 0, 7, 0, 0, 0, -1));
        Checks.badArgument(ring, "instruct, least 8 of 7", () -> ring.instruct(0, 1, true, 0, 7, 0, 0, 0, 8));
        Town.trade(ring, 0, 1, 0, 7, 0, 0, 0, 7);
        Town.trade(ring, 0, 1, 0, 7, 0, 0, 0, 0);
        ring.cycle();
        Checks.same("tradeUnits, all 7 being the least part", ring.tradeUnits(0), 7);
        Checks.same("tradeUnits, without a least part", ring.tradeUnits(1), 7);
        Town.trade(ring, 0, 1, 0, 7, 0, 0, 0, 6);
        ring.cycle();
        Checks.same("tradeUnits, 6 being the least part", ring.tradeUnits(2), 1);
    }

    static void promise10_theGreatestLeastPartIsThatOfItsOwnUnits() {
        SettlementRing ring = Town.accounts(0, 0);
        ring.issue(0, 0, 6, 1, 0);
        Checks.badArgument(ring, "instruct, least 2 of 1", () -> ring.instruct(0, 1, true, 0, 1, 0, 0, 0, 2));
        Checks.same("instruct, least 1 of 1", ring.instruct(0, 1, true, 0, 1, 0, 0, 0, 1), 0);
        Checks.same("instruct, least 100000", ring.instruct(0, 1, true, 0, 100000, 0, 0, 0, 100000), 1);
    }

    static void promise11_leastAndGreatestAmount() {
        SettlementRing ring = Town.accounts(0, 0);
        ring.issue(0, 0, 5, 1, 0);
        ring.instruct(0, 1, true, 0, 1, 7, 0, 0, 0);
        ring.instruct(0, 1, true, 0, 1, 8, 0, 0, 0);
        Checks.badArgument(ring, "amend to -1", () -> ring.amend(0, -1));
        Checks.badArgument(ring, "amend to 100000001", () -> ring.amend(0, 100000001));
        Checks.same("amend", ring.amend(0, 100000000), NONE);
        Checks.same("amend", ring.amend(1, 0), NONE);
        ring.instruct(1, 0, false, 0, 1, 100000000, 0, 0, 0);
        ring.instruct(1, 0, false, 0, 1, 0, 0, 0, 0);
        Checks.same("tradeAmount", ring.tradeAmount(ring.tradeOf(0)), 100000000);
        Checks.same("tradeAmount", ring.tradeAmount(ring.tradeOf(1)), 0);
    }

    static void promise23_leastAndGreatestOfADividend() {
        SettlementRing ring = Town.accounts(0);
        ring.issue(0, 0, 10, 1, 0);
        ring.announce(DIVIDEND, 0, 1, Integer.MIN_VALUE, Integer.MIN_VALUE, 0, 0);
        ring.endDay();
        Checks.same("cash", ring.cash(0), 7);
        ring.announce(DIVIDEND, 0, 1000, Integer.MAX_VALUE, Integer.MAX_VALUE, 1, 1);
        ring.endDay();
        Checks.same("cash", ring.cash(0), 7007);
        Checks.badArgument(ring, "announce, a 0", () -> ring.announce(DIVIDEND, 0, 0, 1, 1, 2, 2));
        Checks.badArgument(ring, "announce, a 1001", () -> ring.announce(DIVIDEND, 0, 1001, 1, 1, 2, 2));
    }

    static void promise23_leastAndGreatestOfASplit() {
        long[][] due = {{24, 12, 8}, {48, 24, 16}, {72, 36, 24}};
        for (int a = 1; a <= 3; a++) {
            for (int b = 1; b <= 3; b++) {
                SettlementRing ring = Town.accounts(0);
                ring.issue(0, 0, 24, 1, 0);
                ring.announce(SPLIT, 0, a, b, a - 2, 0, 0);
                ring.endDay();
                Checks.same("units at " + a + " for " + b, ring.units(0, 0), due[a - 1][b - 1]);
            }
        }
        SettlementRing ring = Town.accounts(0);
        ring.issue(0, 0, 24, 1, 0);
        int[][] bad = {{0, 1}, {4, 1}, {1, 0}, {1, 4}};
        for (int[] of : bad) {
            Checks.badArgument(ring, "announce", () -> ring.announce(SPLIT, 0, of[0], of[1], 0, 0, 0));
        }
        Checks.same("announce, whatever cap", ring.announce(SPLIT, 0, 1, 1, Integer.MIN_VALUE, 0, 0), 0);
        Checks.same("announce, whatever cap", ring.announce(SPLIT, 0, 1, 1, Integer.MAX_VALUE, 0, 0), 1);
    }

    /** What an account with 10 units, which elects for some, has of cash and units behind an OPTION. */
    private static void option(int a, int b, int cap, int elected, long cash, long units) {
        SettlementRing ring = Town.accounts(0);
        ring.issue(0, 0, 10, 1, 0);
        ring.announce(OPTION, 0, a, b, cap, 0, 1);
        ring.endDay();
        ring.elect(0, 0, elected);
        ring.endDay();
        String of = " of an OPTION of " + a + ", " + b + ", " + cap + ", " + elected;
        Checks.same("cash" + of, ring.cash(0), cash);
        Checks.same("units" + of, ring.units(0, 0), units);
        Checks.same("out" + of, ring.out(0), units);
    }

    static void promise23_leastAndGreatestOfAnOption() {
        option(1, 1, 100000, 10, 0, 20);
        option(1, 10, 100000, 10, 0, 11);
        option(1, 10, 100000, 9, 7, 10);
        option(1000, 1, 0, 10, 7000, 10);
        option(1000, 1, 1, 10, 6300, 11);
        option(1000, 10, 100000, 0, 7000, 10);
        SettlementRing ring = Town.accounts(0);
        ring.issue(0, 0, 10, 1, 0);
        int[][] bad = {{0, 1, 0}, {1001, 1, 0}, {1, 0, 0}, {1, 11, 0}, {1, 1, -1}, {1, 1, 100001}};
        for (int[] of : bad) {
            Checks.badArgument(ring, "announce", () -> ring.announce(OPTION, 0, of[0], of[1], of[2], 0, 0));
        }
    }

    static void promise23_leastAndGreatestKind() {
        SettlementRing ring = Town.accounts(0);
        ring.issue(0, 0, 10, 1, 0);
        Checks.badArgument(ring, "announce, kind -1", () -> ring.announce(-1, 0, 1, 1, 1, 0, 0));
        Checks.badArgument(ring, "announce, kind 3", () -> ring.announce(3, 0, 1, 1, 1, 0, 0));
        Checks.same("announce", ring.announce(0, 0, 1, 1, 1, 0, 0), 0);
        Checks.same("announce", ring.announce(2, 0, 1, 1, 1, 0, 0), 1);
    }

    static void promise23_leastAndGreatestDays() {
        SettlementRing ring = Town.accounts(0);
        ring.issue(0, 0, 10, 1, 0);
        Town.days(ring, 1998);
        int[][] bad = {{1997, 1998}, {1999, 1998}, {2000, 1999}, {1998, 2001}, {2001, 2001}};
        for (int[] of : bad) {
            Checks.badArgument(ring, "announce", () -> ring.announce(DIVIDEND, 0, 1, 1, 1, of[0], of[1]));
        }
        Checks.same("announce", ring.announce(DIVIDEND, 0, 100, 1, 1, 1998, 1998), 0);
        Checks.same("announce", ring.announce(DIVIDEND, 0, 10, 1, 1, 1999, 1999), 1);
        Checks.same("announce", ring.announce(DIVIDEND, 0, 1, 1, 1, 1998, 2000), 2);
        Checks.same("announce", ring.announce(DIVIDEND, 0, 1, 1, 1, 2000, 2000), 3);
        ring.endDay();
        Checks.same("cash", ring.cash(0), 700);
        ring.endDay();
        Checks.same("cash", ring.cash(0), 770);
        Checks.isNot("isPaid of what is to be paid at the end of the day 2000", ring.isPaid(2));
        Checks.same("entitled to it", ring.entitled(2, 0), 10);
        Checks.same("entitled, recorded on the day 2000", ring.entitled(3, 0), NONE);
        Checks.same("announce on the day 2000", ring.announce(SPLIT, 0, 1, 1, 1, 2000, 2000), 4);
    }

    static void promise24_leastAndGreatestUnits() {
        SettlementRing ring = Town.accounts(0, 0);
        ring.issue(0, 0, 10, 1, 0);
        ring.announce(OPTION, 0, 1, 1, 100, 0, 1);
        ring.endDay();
        Checks.badState(ring, "elect for 11 of 10", () -> ring.elect(0, 0, 11));
        Checks.same("elect for all", ring.elect(0, 0, 10), 0);
        Checks.same("elect for none", ring.elect(0, 0, 0), 10);
        Checks.badArgument(ring, "elect for -1", () -> ring.elect(0, 0, -1));
        Checks.same("elect for none of none", ring.elect(1, 0, 0), 0);
        Checks.badState(ring, "elect for 1 of none", () -> ring.elect(1, 0, 1));
    }

    // ---- how many there are at most

    static void promise02_accountsAreTenAtMost() {
        SettlementRing ring = Town.accounts(0, 1, 2, 3, 4, 5, 6, 7, 8);
        Checks.noSuch(ring, "cash(9)", () -> ring.cash(9));
        Checks.same("open", ring.open(8, true, 0, 9, 0), 9);
        Checks.same("cash", ring.cash(9), 9);
        Checks.badState(ring, "the 11th open", () -> ring.open(NONE, true, 0, 10, 0));
        Checks.badState(ring, "the 11th open, with a custodian", () -> ring.open(0, true, 0, 10, 0));
        Checks.noSuch(ring, "cash(10)", () -> ring.cash(10));
    }

    static void promise06_securitiesAreFourAtMost() {
        SettlementRing ring = Town.accounts(0);
        for (int i = 0; i < 4; i++) {
            int number = i;
            Checks.noSuch(ring, "out(" + i + ")", () -> ring.out(number));
            Checks.same("issue", ring.issue(0, 0, 1 + i, 1, 0), i);
            Checks.same("out", ring.out(i), 1 + i);
        }
        Checks.badState(ring, "the 5th issue", () -> ring.issue(0, 0, 1, 1, 0));
        Checks.noSuch(ring, "out(4)", () -> ring.out(4));
    }

    static void promise10_instructionsAreFortyAtMostTheCancelledOnesCounted() {
        SettlementRing ring = Town.accounts(0, 0);
        ring.issue(0, 0, 1, 1, 0);
        for (int i = 0; i < 40; i++) {
            Checks.same("instruct", ring.instruct(0, 1, i % 2 == 0, 0, 1 + i, 0, 0, 0, 0), i);
            ring.cancel(i);
        }
        Checks.badState(ring, "the 41st instruct", () -> ring.instruct(0, 1, true, 0, 1, 0, 0, 0, 0));
        Checks.same("status of the last one", ring.status(39), SettlementRing.CANCELLED);
        Checks.noSuch(ring, "status(40)", () -> ring.status(40));
    }

    static void promise10_tradesAreTwentyAtMost() {
        SettlementRing ring = Town.accounts(0, 0);
        ring.issue(0, 0, 100, 1, 0);
        for (int i = 0; i < 20; i++) {
            int number = i;
            Checks.noSuch(ring, "age(" + i + ")", () -> ring.age(number));
            Checks.same("trade", Town.trade(ring, 0, 1, 1 + i, 0), i);
        }
        Checks.noSuch(ring, "age(20)", () -> ring.age(20));
        Checks.same("tradeUnits of the last one", ring.tradeUnits(19), 20);
        Checks.same("tradeOf of the last one", ring.tradeOf(39), 19);
    }

    static void promise14_linksAreTenAtMostThoseOfSettledTradesCounted() {
        SettlementRing ring = Town.accounts(0, 0);
        ring.issue(0, 0, 100, 1, 0);
        for (int i = 0; i < 11; i++) {
            Town.trade(ring, 0, 1, 1, 0);
        }
        for (int i = 1; i <= 10; i++) {
            Checks.same("link", ring.link(0, i, false), i);
        }
        Checks.badState(ring, "the 11th link", () -> ring.link(1, 2, false));
        ring.hold(2);
        ring.hold(4);
        ring.cycle();
        Checks.same("status", ring.status(6), SettlementRing.SETTLED);
        Checks.badState(ring, "the 11th link when most are settled", () -> ring.link(1, 2, false));
        ring.cancel(2);
        ring.cancel(3);
        int trade = Town.trade(ring, 0, 1, 1, 0);
        Checks.same("link behind one trade was cancelled", ring.link(trade, 2, false), 10);
        Checks.badState(ring, "the 11th link again", () -> ring.link(trade, 0, false));
    }

    static void promise23_eventsAreTenAtMostThePaidOnesCounted() {
        SettlementRing ring = Town.accounts(0);
        ring.issue(0, 0, 10, 1, 0);
        for (int i = 0; i < 10; i++) {
            int number = i;
            Checks.noSuch(ring, "isPaid(" + i + ")", () -> ring.isPaid(number));
            Checks.same("announce", ring.announce(DIVIDEND, 0, 1, 0, 0, i, i), i);
            ring.endDay();
            Checks.is("isPaid", ring.isPaid(i));
        }
        Checks.badState(ring, "the 11th announce", () -> ring.announce(DIVIDEND, 0, 1, 0, 0, 10, 10));
        Checks.noSuch(ring, "isPaid(10)", () -> ring.isPaid(10));
        Checks.same("cash", ring.cash(0), 70);
    }

    static void promise18_theLastDayIsTheDay2000() {
        SettlementRing ring = new SettlementRing();
        Town.days(ring, 1999);
        Checks.same("today", ring.today(), 1999);
        Checks.same("endDay on the day 1999", ring.endDay(), 0);
        Checks.same("today", ring.today(), 2000);
        Checks.badState(ring, "endDay on the day 2000", ring::endDay);
        Checks.same("cycle on the day 2000", ring.cycle(), 0);
        Checks.same("keep on the day 2000", ring.keep(), 2000);
        Checks.same("goBack on the day 2000", ring.goBack(), 2000);
    }

    static void promise22_whatIsFullHasRoomAgainBehindGoingBack() {
        SettlementRing ring = Town.accounts(5);
        ring.keep();
        for (int round = 0; round < 2; round++) {
            fill(ring);
            ring.goBack();
            Checks.noSuch(ring, "cash(1)", () -> ring.cash(1));
            Checks.noSuch(ring, "out(0)", () -> ring.out(0));
            Checks.noSuch(ring, "status(0)", () -> ring.status(0));
            Checks.noSuch(ring, "age(0)", () -> ring.age(0));
            Checks.noSuch(ring, "isPaid(0)", () -> ring.isPaid(0));
            Checks.noSuch(ring, "loan(0)", () -> ring.loan(0));
            Checks.same("loans", ring.loans(), 0);
            Checks.same("today", ring.today(), 0);
        }
    }

    private static void fill(SettlementRing ring) {
        for (int i = 1; i < 10; i++) {
            Checks.same("open", ring.open(NONE, false, 0, 0, 0), i);
        }
        for (int i = 0; i < 4; i++) {
            Checks.same("issue", ring.issue(0, 0, 100, 1, 0), i);
        }
        for (int i = 0; i < 20; i++) {
            Checks.same("trade", Town.trade(ring, 0, 1 + i % 9, 1, 0), i);
        }
        for (int i = 0; i < 10; i++) {
            Checks.same("link", ring.link(i + 1, i, false), i + 1);
            Checks.same("announce", ring.announce(SPLIT, 0, 2, 1, 0, 0, 0), i);
        }
        Checks.same("cycle", ring.cycle(), 10);
        Checks.same("endDay", ring.endDay(), 10);
    }
}
