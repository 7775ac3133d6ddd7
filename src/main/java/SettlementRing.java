/**
 * A securities depository: accounts, instructions that are matched to trades, cycles in which the
 * set of trades that is worth most is settled, loans, fines, buy-ins, events and claims.
 *
 * <p>All that going back brings back stands in a Book, of which there are two: the one of now and
 * the one that is kept. What was told to accounts stands outside of both.
 */
public final class SettlementRing {
    public static final int NONE = -1;
    public static final int OPEN = 0, MATCHED = 1, SETTLED = 2, CANCELLED = 3;
    public static final int DIVIDEND = 0, SPLIT = 1, OPTION = 2;

    private static final int MOST_ACCOUNTS = 10;
    private static final int MOST_SECURITIES = 4;
    private static final int MOST_INSTRUCTIONS = 40;
    private static final int MOST_TRADES = 20;
    private static final int MOST_LINKS = 10;
    private static final int MOST_LOANS = 20;
    private static final int MOST_EVENTS = 10;
    private static final int MOST_CANDIDATES = 10;

    private static final int COUNTRIES = 3;
    private static final int LAST_DAY = 2000;
    private static final int MOST_CASH = 1000000;
    private static final int MOST_UNITS = 100000;
    private static final int MOST_AMOUNT = 100000000;
    private static final int MOST_PRICE = 1000;
    private static final int MOST_RATE = 500;
    private static final int MOST_PRIORITY = 9;
    private static final int MOST_DIFFERENCE = 2;
    private static final int MOST_SPLIT = 3;
    private static final int MOST_FOR_ONE = 10;
    private static final int MOST_CAP = 100000;
    private static final int BUY_IN_AGE = 5;
    private static final int FULL_TAX = 30;
    private static final int FIRST_TREATY_TAX = 15;

    private final Mail mail;
    private final Book now;
    private final Book kept;
    private final Cycle desk;
    private final DayEnd evening;
    private boolean isAnyKept;

    public SettlementRing() {
        mail = new Mail();
        now = new Book(mail);
        kept = new Book(mail);
        desk = new Cycle(now);
        evening = new DayEnd(now);
        isAnyKept = false;
    }

    // ---- accounts and securities

    public int open(int custodian, boolean isPooled, int country, int cash, int line)
            throws IndexOutOfBoundsException, IllegalArgumentException, IllegalStateException {
        if (custodian != NONE) {
            needAccount(custodian);
        }
        needRange(country, 0, COUNTRIES - 1);
        needRange(cash, 0, MOST_CASH);
        needRange(line, 0, MOST_CASH);
        needState(custodian == NONE || now.account(custodian).custodian == NONE);
        needState(now.accountCount < MOST_ACCOUNTS);
        int number = now.accountCount;
        Account account = now.account(number);
        account.custodian = custodian;
        account.isPooled = isPooled && custodian != NONE;
        account.country = country;
        account.cash = cash;
        account.line = line;
        now.accountCount = number + 1;
        return number;
    }

    public boolean lend(int account) throws IndexOutOfBoundsException {
        needAccount(account);
        Account one = now.account(account);
        one.lends = !one.lends;
        return one.lends;
    }

    public boolean relieve(int account) throws IndexOutOfBoundsException {
        needAccount(account);
        Account one = now.account(account);
        one.isRelieved = !one.isRelieved;
        return one.isRelieved;
    }

    public int treaty(int country, int other, int rate) throws IllegalArgumentException {
        needRange(country, 0, COUNTRIES - 1);
        needRange(other, 0, COUNTRIES - 1);
        needRange(rate, 0, FULL_TAX);
        int before = now.treatyTax(country, other);
        now.setTreatyTax(country, other, rate);
        return before;
    }

    public int issue(int account, int country, int units, int price, int rate)
            throws IndexOutOfBoundsException, IllegalArgumentException, IllegalStateException {
        needAccount(account);
        needRange(country, 0, COUNTRIES - 1);
        needRange(units, 1, MOST_UNITS);
        needRange(price, 1, MOST_PRICE);
        needRange(rate, 0, MOST_RATE);
        needState(now.securityCount < MOST_SECURITIES);
        int number = now.securityCount;
        Security security = now.security(number);
        security.country = country;
        security.price = price;
        security.rate = rate;
        security.out = units;
        now.securityCount = number + 1;
        now.account(account).move(number, units, now.page);
        return number;
    }

    public int setPrice(int security, int price) throws IndexOutOfBoundsException, IllegalArgumentException {
        needSecurity(security);
        needRange(price, 1, MOST_PRICE);
        Security one = now.security(security);
        int before = one.price;
        one.price = price;
        return before;
    }

    public long block(int account, int security, int units)
            throws IndexOutOfBoundsException, IllegalArgumentException, IllegalStateException {
        needAccount(account);
        needSecurity(security);
        needArgument(units >= 0);
        Account one = now.account(account);
        needState(units <= one.heldOf(security));
        long before = one.blockedOf(security);
        one.setBlocked(security, units);
        return before;
    }

    public long bring(int account, int cash)
            throws IndexOutOfBoundsException, IllegalArgumentException, IllegalStateException {
        needAccount(account);
        needRange(cash, -MOST_CASH, MOST_CASH);
        Account one = now.account(account);
        one.cash += cash;
        boolean isFit = cash >= 0 || now.isFirm(account);
        if (!isFit) {
            one.cash -= cash;
        }
        needState(isFit);
        return one.cash;
    }

    // ---- instructions and trades

    public int instruct(int account, int other, boolean isDelivery, int security, int units, int amount,
            int date, int priority, int least)
            throws IndexOutOfBoundsException, IllegalArgumentException, IllegalStateException {
        needAccount(account);
        needAccount(other);
        needSecurity(security);
        needArgument(account != other);
        needRange(units, 1, MOST_UNITS);
        needRange(amount, 0, MOST_AMOUNT);
        needRange(date, now.today, LAST_DAY);
        needRange(priority, 0, MOST_PRIORITY);
        needRange(least, 0, units);
        needState(now.instructionCount < MOST_INSTRUCTIONS);
        int number = now.instructionCount;
        // The row is not counted yet, so that nothing has changed if the call throws behind this.
        Instruction one = now.instruction(number);
        one.account = account;
        one.other = other;
        one.isDelivery = isDelivery;
        one.security = security;
        one.units = units;
        one.amount = amount;
        one.date = date;
        one.priority = priority;
        one.least = least;
        int partner = now.partnerFor(one, amount);
        needState(partner == NONE || now.tradeCount < MOST_TRADES);
        now.instructionCount = number + 1;
        if (partner != NONE) {
            now.match(number, partner);
        }
        return number;
    }

    public int amend(int instruction, int amount)
            throws IndexOutOfBoundsException, IllegalArgumentException, IllegalStateException {
        needInstruction(instruction);
        needRange(amount, 0, MOST_AMOUNT);
        Instruction one = now.instruction(instruction);
        needState(one.status == OPEN);
        int partner = now.partnerFor(one, amount);
        needState(partner == NONE || now.tradeCount < MOST_TRADES);
        one.amount = amount;
        return partner == NONE ? NONE : now.match(instruction, partner);
    }

    public boolean cancel(int instruction) throws IndexOutOfBoundsException, IllegalStateException {
        needInstruction(instruction);
        Instruction one = now.instruction(instruction);
        needState(one.isAlive());
        if (one.status == OPEN) {
            now.cancelInstruction(one);
            return true;
        }
        one.isCancelAsked = true;
        Trade trade = now.trade(one.trade);
        if (!now.instruction(trade.delivery).isCancelAsked || !now.instruction(trade.receipt).isCancelAsked) {
            return false;
        }
        now.cancelTrade(trade);
        return true;
    }

    public boolean hold(int instruction) throws IndexOutOfBoundsException, IllegalStateException {
        needInstruction(instruction);
        Instruction one = now.instruction(instruction);
        needState(one.isAlive());
        one.isHeld = !one.isHeld;
        return one.isHeld;
    }

    public int link(int trade, int other, boolean isWith)
            throws IndexOutOfBoundsException, IllegalArgumentException, IllegalStateException {
        needTrade(trade);
        needTrade(other);
        needArgument(trade != other);
        needState(now.trade(trade).status == MATCHED && now.trade(other).status == MATCHED);
        needState(!now.isLinkOf(trade, other) && now.linkCount < MOST_LINKS);
        Link link = now.linkAt(now.linkCount);
        link.first = trade;
        link.second = other;
        link.isWith = isWith;
        now.linkCount++;
        return now.linkCount;
    }

    // ---- cycles and days

    public int cycle() {
        desk.giveLoansBack();
        desk.bestByBranches();
        int settled = desk.settleBestSet() + desk.settleByLoans();
        desk.settleInPart();
        return settled;
    }

    public long best() {
        return desk.bestByBranches();
    }

    public long bestByAll() {
        return desk.bestOfAllSets();
    }

    public int endDay() throws IllegalStateException {
        needState(now.today < LAST_DAY);
        evening.takeTurns();
        int fines = evening.tellFinesOfTrades() + evening.tellFinesOfLoans();
        evening.growOlder();
        now.today++;
        return fines;
    }

    public int today() {
        return now.today;
    }

    public long recall(int loan) throws IndexOutOfBoundsException, IllegalStateException {
        needLoan(loan);
        Loan one = now.loanAt(loan);
        needState(!one.isBack && !one.isRecalled);
        one.isRecalled = true;
        return one.units;
    }

    public int keep() {
        kept.copyFrom(now);
        isAnyKept = true;
        return now.today;
    }

    public int goBack() throws IllegalStateException {
        needState(isAnyKept);
        now.copyFrom(kept);
        return now.today;
    }

    // ---- events

    public int announce(int kind, int security, int a, int b, int cap, int record, int pay)
            throws IndexOutOfBoundsException, IllegalArgumentException, IllegalStateException {
        needSecurity(security);
        needRange(kind, DIVIDEND, OPTION);
        needRange(a, 1, kind == SPLIT ? MOST_SPLIT : MOST_PRICE);
        if (kind != DIVIDEND) {
            needRange(b, 1, kind == SPLIT ? MOST_SPLIT : MOST_FOR_ONE);
        }
        if (kind == OPTION) {
            needRange(cap, 0, MOST_CAP);
        }
        needRange(record, now.today, LAST_DAY);
        needRange(pay, record, LAST_DAY);
        needState(now.eventCount < MOST_EVENTS);
        int number = now.eventCount;
        Event event = now.event(number);
        event.kind = kind;
        event.security = security;
        event.a = a;
        event.b = b;
        event.cap = cap;
        event.record = record;
        event.pay = pay;
        now.eventCount = number + 1;
        return number;
    }

    public long elect(int account, int event, int units)
            throws IndexOutOfBoundsException, IllegalArgumentException, IllegalStateException {
        needAccount(account);
        needEvent(event);
        needArgument(units >= 0);
        Event one = now.event(event);
        needState(one.kind == OPTION && one.isNoted && !one.isDone);
        needState(units <= one.entitledOf(account));
        long before = one.electedOf(account);
        one.setElected(account, units);
        return before;
    }

    public long entitled(int event, int account) throws IndexOutOfBoundsException {
        needEvent(event);
        needAccount(account);
        Event one = now.event(event);
        return one.isNoted ? one.entitledOf(account) : NONE;
    }

    public long entitledAnew(int event, int account) throws IndexOutOfBoundsException {
        needEvent(event);
        needAccount(account);
        Event one = now.event(event);
        return one.isNoted ? now.account(account).movedUpTo(one.page, one.security) : NONE;
    }

    public boolean isPaid(int event) throws IndexOutOfBoundsException {
        needEvent(event);
        return now.event(event).isDone;
    }

    // ---- what there is

    public long units(int account, int security) throws IndexOutOfBoundsException {
        needAccount(account);
        needSecurity(security);
        return now.account(account).heldOf(security);
    }

    public long free(int account, int security) throws IndexOutOfBoundsException {
        needAccount(account);
        needSecurity(security);
        return now.account(account).freeOf(security);
    }

    public long out(int security) throws IndexOutOfBoundsException {
        needSecurity(security);
        return now.security(security).out;
    }

    public long cash(int account) throws IndexOutOfBoundsException {
        needAccount(account);
        return now.account(account).cash;
    }

    public long pledged(int account) throws IndexOutOfBoundsException {
        needAccount(account);
        return now.account(account).pledged;
    }

    public long limit(int account) throws IndexOutOfBoundsException {
        needAccount(account);
        return now.limitOf(now.account(account));
    }

    public boolean isSound(int account) throws IndexOutOfBoundsException {
        needAccount(account);
        return now.isFirm(account);
    }

    public double used(int account) throws IndexOutOfBoundsException {
        needAccount(account);
        Account one = now.account(account);
        long freeCash = one.freeCash();
        if (freeCash >= 0) {
            return 0.0;
        }
        long limit = now.limitOf(one);
        if (limit == 0) {
            double large = 1.0e300;
            return large * large;
        }
        return (double) -freeCash / (double) limit;
    }

    public long ledger(int account) throws IndexOutOfBoundsException {
        needAccount(account);
        return now.account(account).ledger;
    }

    public int messages(int account) throws IndexOutOfBoundsException {
        needAccount(account);
        return mail.toldTo(account);
    }

    public int alleged(int account) throws IndexOutOfBoundsException {
        needAccount(account);
        int count = 0;
        for (int i = 0; i < now.instructionCount; i++) {
            Instruction one = now.instruction(i);
            if (one.status == OPEN && one.other == account) {
                count++;
            }
        }
        return count;
    }

    public int status(int instruction) throws IndexOutOfBoundsException {
        needInstruction(instruction);
        return now.instruction(instruction).status;
    }

    public int tradeOf(int instruction) throws IndexOutOfBoundsException {
        needInstruction(instruction);
        return now.instruction(instruction).trade;
    }

    public long tradeUnits(int trade) throws IndexOutOfBoundsException {
        needTrade(trade);
        return now.trade(trade).units;
    }

    public long tradeAmount(int trade) throws IndexOutOfBoundsException {
        needTrade(trade);
        return now.trade(trade).amount;
    }

    public int age(int trade) throws IndexOutOfBoundsException {
        needTrade(trade);
        return now.trade(trade).age;
    }

    public int causer(int trade) throws IndexOutOfBoundsException, IllegalStateException {
        needTrade(trade);
        Trade one = now.trade(trade);
        needState(now.isDue(one));
        return now.causerOf(one);
    }

    public int loans() {
        return now.loanCount;
    }

    public long loan(int loan) throws IndexOutOfBoundsException {
        needLoan(loan);
        Loan one = now.loanAt(loan);
        return one.isBack ? NONE : one.units;
    }

    // ---- what arguments and the state must be

    private void needAccount(int number) {
        needIndex(number, now.accountCount);
    }

    private void needSecurity(int number) {
        needIndex(number, now.securityCount);
    }

    private void needInstruction(int number) {
        needIndex(number, now.instructionCount);
    }

    private void needTrade(int number) {
        needIndex(number, now.tradeCount);
    }

    private void needLoan(int number) {
        needIndex(number, now.loanCount);
    }

    private void needEvent(int number) {
        needIndex(number, now.eventCount);
    }

    private static void needIndex(int number, int count) {
        if (number < 0 || number >= count) {
            throw new IndexOutOfBoundsException("there is none of this number");
        }
    }

    private static void needRange(int value, int from, int to) {
        needArgument(value >= from && value <= to);
    }

    private static void needArgument(boolean isFit) {
        if (!isFit) {
            throw new IllegalArgumentException("an argument is out of its range");
        }
    }

    private static void needState(boolean isFit) {
        if (!isFit) {
            throw new IllegalStateException("the state does not allow it");
        }
    }

    private static void copyAll(long[] from, long[] to) {
        System.arraycopy(from, 0, to, 0, Math.min(from.length, to.length));
    }

    private static long sumOf(long[] values) {
        long sum = 0;
        for (int i = 0; i < values.length; i++) {
            sum += values[i];
        }
        return sum;
    }

    /** How many messages each account number was told. It is in no Book, so going back leaves it. */
    private static final class Mail {
        final int[] told = new int[MOST_ACCOUNTS];

        void tell(int account) {
            if (account >= 0 && account < told.length) {
                told[account]++;
            }
        }

        int toldTo(int account) {
            return account >= 0 && account < told.length ? told[account] : 0;
        }
    }

    private static final class Account {
        int country;
        int custodian = NONE;
        boolean isPooled;
        boolean lends;
        boolean isRelieved;
        long cash;
        long pledged;
        long line;
        long ledger;
        final long[] held = new long[MOST_SECURITIES];
        final long[] blocked = new long[MOST_SECURITIES];
        /** What it got less what it gave of each security; a new page begins when an event is noted. */
        final long[] moved = new long[(MOST_EVENTS + 1) * MOST_SECURITIES];

        long heldOf(int security) {
            return security >= 0 && security < held.length ? held[security] : 0;
        }

        long blockedOf(int security) {
            return security >= 0 && security < blocked.length ? blocked[security] : 0;
        }

        long freeOf(int security) {
            boolean isThere = security >= 0 && security < held.length && security < blocked.length;
            return isThere ? held[security] - blocked[security] : 0;
        }

        long freeCash() {
            return cash - pledged;
        }

        void setBlocked(int security, long units) {
            if (security >= 0 && security < blocked.length) {
                blocked[security] = units;
            }
        }

        /** Changes what is held for a trial; it has to be taken back by the opposite change. */
        void shift(int security, long change) {
            if (security >= 0 && security < held.length) {
                held[security] += change;
            }
        }

        /** Changes what is held for good, and writes that down. */
        void move(int security, long change, int page) {
            shift(security, change);
            int place = page * MOST_SECURITIES + security;
            if (place >= 0 && place < moved.length) {
                moved[place] += change;
            }
        }

        long movedUpTo(int lastPage, int security) {
            long sum = 0;
            for (int page = 0; page <= lastPage && page <= MOST_EVENTS; page++) {
                int place = page * MOST_SECURITIES + security;
                if (place >= 0 && place < moved.length) {
                    sum += moved[place];
                }
            }
            return sum;
        }

        void copyFrom(Account from) {
            country = from.country;
            custodian = from.custodian;
            isPooled = from.isPooled;
            lends = from.lends;
            isRelieved = from.isRelieved;
            cash = from.cash;
            pledged = from.pledged;
            line = from.line;
            ledger = from.ledger;
            copyAll(from.held, held);
            copyAll(from.blocked, blocked);
            copyAll(from.moved, moved);
        }
    }

    private static final class Security {
        int country;
        int price;
        int rate;
        long out;

        void copyFrom(Security from) {
            country = from.country;
            price = from.price;
            rate = from.rate;
            out = from.out;
        }
    }

    private static final class Instruction {
        int account;
        int other;
        boolean isDelivery;
        int security;
        int units;
        int amount;
        int date;
        int priority;
        int least;
        int status = OPEN;
        int trade = NONE;
        boolean isHeld;
        boolean isCancelAsked;

        boolean isAlive() {
            return status == OPEN || status == MATCHED;
        }

        /** Whether it would be matched with another one, if its own amount was as told. */
        boolean fits(Instruction one, int ownAmount) {
            return status == OPEN && account == one.other && other == one.account
                    && isDelivery != one.isDelivery && security == one.security
                    && units == one.units && date == one.date
                    && Math.abs(amount - ownAmount) <= MOST_DIFFERENCE;
        }

        void copyFrom(Instruction from) {
            account = from.account;
            other = from.other;
            isDelivery = from.isDelivery;
            security = from.security;
            units = from.units;
            amount = from.amount;
            date = from.date;
            priority = from.priority;
            least = from.least;
            status = from.status;
            trade = from.trade;
            isHeld = from.isHeld;
            isCancelAsked = from.isCancelAsked;
        }
    }

    /** Two instructions that are matched; it is pending while its status is MATCHED. */
    private static final class Trade {
        final int number;
        int delivery;
        int receipt;
        int deliverer;
        int receiver;
        int security;
        long units;
        long amount;
        long least;
        int date;
        int priority;
        int age;
        int status = MATCHED;

        Trade(int number) {
            this.number = number;
        }

        void copyFrom(Trade from) {
            delivery = from.delivery;
            receipt = from.receipt;
            deliverer = from.deliverer;
            receiver = from.receiver;
            security = from.security;
            units = from.units;
            amount = from.amount;
            least = from.least;
            date = from.date;
            priority = from.priority;
            age = from.age;
            status = from.status;
        }
    }

    private static final class Link {
        int first;
        int second;
        boolean isWith;

        boolean names(int trade) {
            return first == trade || second == trade;
        }

        void copyFrom(Link from) {
            first = from.first;
            second = from.second;
            isWith = from.isWith;
        }
    }

    private static final class Loan {
        int lender;
        int borrower;
        int security;
        long units;
        long pledged;
        boolean isRecalled;
        boolean isBack;

        void copyFrom(Loan from) {
            lender = from.lender;
            borrower = from.borrower;
            security = from.security;
            units = from.units;
            pledged = from.pledged;
            isRecalled = from.isRecalled;
            isBack = from.isBack;
        }
    }

    private static final class Event {
        int kind;
        int security;
        int a;
        int b;
        int cap;
        int record;
        int pay;
        boolean isNoted;
        boolean isDone;
        /** The last page of moves that stood when it was noted. */
        int page;
        final long[] entitled = new long[MOST_ACCOUNTS];
        final long[] elected = new long[MOST_ACCOUNTS];
        /** Of each trade the units for which there is a claim; 0 if there is none. */
        final long[] claimed = new long[MOST_TRADES];

        long entitledOf(int account) {
            return account >= 0 && account < entitled.length ? entitled[account] : 0;
        }

        void setEntitled(int account, long units) {
            if (account >= 0 && account < entitled.length) {
                entitled[account] = units;
            }
        }

        long electedOf(int account) {
            return account >= 0 && account < elected.length ? elected[account] : 0;
        }

        void setElected(int account, long units) {
            if (account >= 0 && account < elected.length) {
                elected[account] = units;
            }
        }

        long claimedOf(int trade) {
            return trade >= 0 && trade < claimed.length ? claimed[trade] : 0;
        }

        void setClaimed(int trade, long units) {
            if (trade >= 0 && trade < claimed.length) {
                claimed[trade] = units;
            }
        }

        /** Units behind a split, rounded down. */
        long splitOf(long units) {
            return b == 0 ? units : units * a / b;
        }

        /** New units that an account asks for in an option. */
        long askedBy(int account) {
            return b == 0 ? 0 : electedOf(account) / b;
        }

        void copyFrom(Event from) {
            kind = from.kind;
            security = from.security;
            a = from.a;
            b = from.b;
            cap = from.cap;
            record = from.record;
            pay = from.pay;
            isNoted = from.isNoted;
            isDone = from.isDone;
            page = from.page;
            copyAll(from.entitled, entitled);
            copyAll(from.elected, elected);
            copyAll(from.claimed, claimed);
        }
    }

    /**
     * All that going back brings back, in rows that are made once and used again. Behind the rows
     * that can be counted each array has one more: it stands for any number that there is not, so
     * that no index leaves its array. Rows that are not counted yet are as they were made.
     */
    private static final class Book {
        final Mail mail;
        final Account[] accounts = new Account[MOST_ACCOUNTS + 1];
        final Security[] securities = new Security[MOST_SECURITIES + 1];
        final Instruction[] instructions = new Instruction[MOST_INSTRUCTIONS + 1];
        final Trade[] trades = new Trade[MOST_TRADES + 1];
        final Link[] links = new Link[MOST_LINKS + 1];
        final Loan[] loans = new Loan[MOST_LOANS + 1];
        final Event[] events = new Event[MOST_EVENTS + 1];
        final long[] treaties = new long[COUNTRIES * COUNTRIES];
        int accountCount;
        int securityCount;
        int instructionCount;
        int tradeCount;
        int linkCount;
        int loanCount;
        int eventCount;
        int today;
        /** The page on which moves are written down now. */
        int page;

        Book(Mail mail) {
            this.mail = mail;
            for (int i = 0; i < accounts.length; i++) {
                accounts[i] = new Account();
            }
            for (int i = 0; i < securities.length; i++) {
                securities[i] = new Security();
            }
            for (int i = 0; i < instructions.length; i++) {
                instructions[i] = new Instruction();
            }
            for (int i = 0; i < trades.length; i++) {
                trades[i] = new Trade(i);
            }
            for (int i = 0; i < links.length; i++) {
                links[i] = new Link();
            }
            for (int i = 0; i < loans.length; i++) {
                loans[i] = new Loan();
            }
            for (int i = 0; i < events.length; i++) {
                events[i] = new Event();
            }
            for (int i = 0; i < treaties.length; i++) {
                treaties[i] = FIRST_TREATY_TAX;
            }
        }

        Account account(int number) {
            return accounts[number < 0 || number > MOST_ACCOUNTS ? MOST_ACCOUNTS : number];
        }

        Security security(int number) {
            return securities[number < 0 || number > MOST_SECURITIES ? MOST_SECURITIES : number];
        }

        Instruction instruction(int number) {
            return instructions[number < 0 || number > MOST_INSTRUCTIONS ? MOST_INSTRUCTIONS : number];
        }

        Trade trade(int number) {
            return trades[number < 0 || number > MOST_TRADES ? MOST_TRADES : number];
        }

        Link linkAt(int number) {
            return links[number < 0 || number > MOST_LINKS ? MOST_LINKS : number];
        }

        Loan loanAt(int number) {
            return loans[number < 0 || number > MOST_LOANS ? MOST_LOANS : number];
        }

        Event event(int number) {
            return events[number < 0 || number > MOST_EVENTS ? MOST_EVENTS : number];
        }

        /** Copies the rows that are not counted, too: they must be as new when they come into use. */
        void copyFrom(Book from) {
            for (int i = 0; i <= MOST_ACCOUNTS; i++) {
                account(i).copyFrom(from.account(i));
            }
            for (int i = 0; i <= MOST_SECURITIES; i++) {
                security(i).copyFrom(from.security(i));
            }
            for (int i = 0; i <= MOST_INSTRUCTIONS; i++) {
                instruction(i).copyFrom(from.instruction(i));
            }
            for (int i = 0; i <= MOST_TRADES; i++) {
                trade(i).copyFrom(from.trade(i));
            }
            for (int i = 0; i <= MOST_LINKS; i++) {
                linkAt(i).copyFrom(from.linkAt(i));
            }
            for (int i = 0; i <= MOST_LOANS; i++) {
                loanAt(i).copyFrom(from.loanAt(i));
            }
            for (int i = 0; i <= MOST_EVENTS; i++) {
                event(i).copyFrom(from.event(i));
            }
            copyAll(from.treaties, treaties);
            copyCounts(from);
        }

        private void copyCounts(Book from) {
            accountCount = from.accountCount;
            securityCount = from.securityCount;
            instructionCount = from.instructionCount;
            tradeCount = from.tradeCount;
            linkCount = from.linkCount;
            loanCount = from.loanCount;
            eventCount = from.eventCount;
            today = from.today;
            page = from.page;
        }

        int treatyTax(int country, int other) {
            int place = country * COUNTRIES + other;
            return place >= 0 && place < treaties.length ? (int) treaties[place] : FULL_TAX;
        }

        void setTreatyTax(int country, int other, int rate) {
            int place = country * COUNTRIES + other;
            if (place >= 0 && place < treaties.length) {
                treaties[place] = rate;
            }
        }

        // What accounts are worth

        long worthOf(int security, long units) {
            return units * security(security).price;
        }

        long limitOf(Account account) {
            long worth = 0;
            for (int i = 0; i < securityCount; i++) {
                worth += account.freeOf(i) * security(i).price;
            }
            return account.line + worth / 2;
        }

        /** Whether an account is sound as it stands, perhaps in the midst of a trial. */
        boolean isFirm(int number) {
            Account account = account(number);
            for (int i = 0; i < securityCount; i++) {
                if (account.freeOf(i) < 0) {
                    return false;
                }
            }
            return account.freeCash() + limitOf(account) >= 0;
        }

        void owe(int debtor, int creditor, long amount) {
            account(debtor).ledger -= amount;
            account(creditor).ledger += amount;
        }

        // Instructions and trades

        /** The instruction that one is matched with if its amount is as told, or NONE. */
        int partnerFor(Instruction one, int amount) {
            int partner = NONE;
            int least = MOST_DIFFERENCE + 1;
            for (int i = 0; i < instructionCount; i++) {
                Instruction other = instruction(i);
                int difference = Math.abs(other.amount - amount);
                if (other.fits(one, amount) && difference < least) {
                    partner = i;
                    least = difference;
                }
            }
            return partner;
        }

        /** Makes a trade of two instructions and returns its number. */
        int match(int one, int other) {
            Instruction first = instruction(one);
            Instruction second = instruction(other);
            int number = tradeCount;
            Trade trade = trade(number);
            trade.delivery = first.isDelivery ? one : other;
            trade.receipt = first.isDelivery ? other : one;
            trade.deliverer = first.isDelivery ? first.account : second.account;
            trade.receiver = first.isDelivery ? second.account : first.account;
            trade.security = first.security;
            trade.units = first.units;
            trade.amount = Math.min(first.amount, second.amount);
            trade.date = first.date;
            trade.priority = Math.max(first.priority, second.priority);
            boolean isWhole = first.least == 0 || second.least == 0;
            trade.least = isWhole ? 0 : Math.max(first.least, second.least);
            tradeCount = number + 1;
            first.trade = number;
            second.trade = number;
            putStatus(trade, MATCHED);
            tellBoth(trade);
            return number;
        }

        void putStatus(Trade trade, int status) {
            trade.status = status;
            instruction(trade.delivery).status = status;
            instruction(trade.receipt).status = status;
        }

        void tellBoth(Trade trade) {
            mail.tell(trade.deliverer);
            mail.tell(trade.receiver);
        }

        void cancelInstruction(Instruction one) {
            one.status = CANCELLED;
            mail.tell(one.account);
        }

        void cancelTrade(Trade trade) {
            putStatus(trade, CANCELLED);
            tellBoth(trade);
            int left = 0;
            for (int i = 0; i < linkCount; i++) {
                if (!linkAt(i).names(trade.number)) {
                    linkAt(left).copyFrom(linkAt(i));
                    left++;
                }
            }
            linkCount = left;
        }

        boolean isDue(Trade trade) {
            return trade.status == MATCHED && trade.date <= today;
        }

        boolean isHeldUp(Trade trade) {
            return instruction(trade.delivery).isHeld || instruction(trade.receipt).isHeld;
        }

        boolean isLacking(Trade trade) {
            return account(trade.deliverer).freeOf(trade.security) < trade.units;
        }

        boolean isLinked(Trade trade) {
            for (int i = 0; i < linkCount; i++) {
                if (linkAt(i).names(trade.number)) {
                    return true;
                }
            }
            return false;
        }

        boolean isLinkOf(int trade, int other) {
            for (int i = 0; i < linkCount; i++) {
                if (linkAt(i).names(trade) && linkAt(i).names(other)) {
                    return true;
                }
            }
            return false;
        }

        /** Gives units and cash of a trade on trial; negative ones take that back. */
        void shift(Trade trade, long units, long amount) {
            account(trade.deliverer).shift(trade.security, -units);
            account(trade.receiver).shift(trade.security, units);
            payFor(trade, amount);
        }

        private void payFor(Trade trade, long amount) {
            account(trade.receiver).cash -= amount;
            account(trade.deliverer).cash += amount;
        }

        void settleWhole(Trade trade) {
            moveUnits(trade.deliverer, trade.receiver, trade.security, trade.units);
            payFor(trade, trade.amount);
            putStatus(trade, SETTLED);
            tellBoth(trade);
        }

        void settlePart(Trade trade, long units, long amount) {
            moveUnits(trade.deliverer, trade.receiver, trade.security, units);
            payFor(trade, amount);
            trade.units -= units;
            trade.amount -= amount;
            tellBoth(trade);
        }

        void moveUnits(int giver, int taker, int security, long units) {
            account(giver).move(security, -units, page);
            account(taker).move(security, units, page);
        }

        /** Who causes the fine for a trade, found by going up the chain of trades that are due. */
        int causerOf(Trade trade) {
            Trade at = trade;
            int gone = 0;
            for (int i = 0; i < MOST_TRADES; i++) {
                if (instruction(at.delivery).isHeld) {
                    return at.deliverer;
                }
                if (instruction(at.receipt).isHeld || !isLacking(at)) {
                    return at.receiver;
                }
                gone |= 1 << at.number;
                int source = sourceOf(at, gone);
                if (source == NONE) {
                    return at.deliverer;
                }
                at = trade(source);
            }
            return at.deliverer;
        }

        /** The trade, not gone through yet, that should bring units to the deliverer of one, or NONE. */
        private int sourceOf(Trade one, int gone) {
            for (int i = 0; i < tradeCount; i++) {
                Trade trade = trade(i);
                boolean isNew = (gone >> i & 1) == 0;
                if (isNew && isDue(trade) && trade.receiver == one.deliverer && trade.security == one.security) {
                    return i;
                }
            }
            return NONE;
        }
    }

    /** Runs cycles, and finds the best set of candidates. Sets are bits, by the numbers of trades. */
    private static final class Cycle {
        final Book book;
        final int[] candidates = new int[MOST_TRADES];
        /** The worth of all candidates from one on, in their order. */
        final long[] worthFrom = new long[MOST_CANDIDATES + 1];
        /** What each account would lend for the trade that is looked at. */
        final long[] lent = new long[MOST_ACCOUNTS];
        int count;
        int set;
        int size;
        long worth;
        int bestSet;
        int bestSize;
        long bestWorth;

        Cycle(Book book) {
            this.book = book;
        }

        long bestByBranches() {
            beginSearch();
            choose(this, 0);
            return bestWorth;
        }

        long bestOfAllSets() {
            beginSearch();
            for (int chosen = 0; chosen < 1 << count; chosen++) {
                for (int i = 0; i < count; i++) {
                    if ((chosen >> i & 1) != 0) {
                        putIn(candidate(i));
                    }
                }
                weigh();
                for (int i = 0; i < count; i++) {
                    if ((chosen >> i & 1) != 0) {
                        takeOut(candidate(i));
                    }
                }
            }
            return bestWorth;
        }

        // Candidates

        private Trade candidate(int place) {
            return book.trade(place >= 0 && place < candidates.length ? candidates[place] : NONE);
        }

        private void beginSearch() {
            findCandidates();
            set = 0;
            size = 0;
            worth = 0;
            bestSet = 0;
            bestSize = 0;
            bestWorth = 0;
            long sum = 0;
            for (int i = worthFrom.length - 1; i >= 0; i--) {
                sum += i < count ? worthOf(candidate(i)) : 0;
                worthFrom[i] = sum;
            }
        }

        private void findCandidates() {
            count = 0;
            for (int i = 0; i < book.tradeCount; i++) {
                Trade trade = book.trade(i);
                if (book.isDue(trade) && !book.isHeldUp(trade)) {
                    insertCandidate(trade);
                }
            }
            count = Math.min(count, MOST_CANDIDATES);
        }

        /** Puts a trade behind all that have its rank or a greater one; trades come by their numbers. */
        private void insertCandidate(Trade trade) {
            int place = 0;
            while (place < count && rankOf(candidate(place)) >= rankOf(trade)) {
                place++;
            }
            for (int i = Math.min(count, candidates.length - 1); i > place; i--) {
                candidates[i] = candidates[i - 1];
            }
            if (place < candidates.length) {
                candidates[place] = trade.number;
                count++;
            }
        }

        private static int rankOf(Trade trade) {
            return trade.priority + trade.age;
        }

        private long worthOf(Trade trade) {
            return trade.amount + book.worthOf(trade.security, trade.units);
        }

        // The best set

        /** Goes through the sets that choose from one candidate on, those that have it ahead of others. */
        private static void choose(Cycle search, int next) {
            if (next >= search.worthFrom.length || next < 0) {
                return;
            }
            if (search.worth + search.worthFrom[next] < search.bestWorth) {
                return;
            }
            if (next >= search.count) {
                search.weigh();
                return;
            }
            Trade trade = search.candidate(next);
            search.putIn(trade);
            choose(search, next + 1);
            search.takeOut(trade);
            choose(search, next + 1);
        }

        private void putIn(Trade trade) {
            book.shift(trade, trade.units, trade.amount);
            set |= 1 << trade.number;
            size++;
            worth += worthOf(trade);
        }

        private void takeOut(Trade trade) {
            book.shift(trade, -trade.units, -trade.amount);
            set &= ~(1 << trade.number);
            size--;
            worth -= worthOf(trade);
        }

        /** Of sets that are alike in worth and size the one that comes first stays. */
        private void weigh() {
            boolean isBetter = worth > bestWorth || worth == bestWorth && size > bestSize;
            if (isBetter && areLinksKept() && areAllFirm()) {
                bestSet = set;
                bestSize = size;
                bestWorth = worth;
            }
        }

        private boolean areLinksKept() {
            for (int i = 0; i < book.linkCount; i++) {
                Link link = book.linkAt(i);
                boolean isSecondMissing = isIn(link.first, set) && !isInOrSettled(link.second);
                boolean isFirstMissing = isIn(link.second, set) && !isInOrSettled(link.first);
                if (isSecondMissing || link.isWith && isFirstMissing) {
                    return false;
                }
            }
            return true;
        }

        private boolean isInOrSettled(int trade) {
            return isIn(trade, set) || book.trade(trade).status == SETTLED;
        }

        private static boolean isIn(int trade, int trades) {
            return (trades >> trade & 1) != 0;
        }

        private boolean areAllFirm() {
            for (int i = 0; i < count; i++) {
                Trade trade = candidate(i);
                if (isIn(trade.number, set) && !(book.isFirm(trade.deliverer) && book.isFirm(trade.receiver))) {
                    return false;
                }
            }
            return true;
        }

        // The steps of a cycle, in their order; the best set is found between the first two

        void giveLoansBack() {
            for (int i = 0; i < book.loanCount; i++) {
                Loan loan = book.loanAt(i);
                Account borrower = book.account(loan.borrower);
                if (!loan.isBack && borrower.freeOf(loan.security) >= loan.units) {
                    book.moveUnits(loan.borrower, loan.lender, loan.security, loan.units);
                    borrower.pledged -= loan.pledged;
                    loan.isBack = true;
                }
            }
        }

        int settleBestSet() {
            for (int i = 0; i < count; i++) {
                Trade trade = candidate(i);
                if (isIn(trade.number, bestSet)) {
                    book.settleWhole(trade);
                }
            }
            return bestSize;
        }

        int settleByLoans() {
            int settled = 0;
            for (int i = 0; i < count; i++) {
                Trade trade = candidate(i);
                if (trade.status == MATCHED && book.isLacking(trade) && !book.isLinked(trade)
                        && settleByLoan(trade)) {
                    settled++;
                }
            }
            return settled;
        }

        private boolean settleByLoan(Trade trade) {
            findLenders(trade);
            Account deliverer = book.account(trade.deliverer);
            long lacking = trade.units - deliverer.freeOf(trade.security);
            int made = 0;
            for (int i = 0; i < lent.length; i++) {
                made += lent[i] > 0 ? 1 : 0;
            }
            if (sumOf(lent) < lacking || book.loanCount + made > MOST_LOANS) {
                return false;
            }
            shiftLoans(trade, 1);
            book.shift(trade, trade.units, trade.amount);
            boolean isFit = book.isFirm(trade.deliverer) && book.isFirm(trade.receiver)
                    && areLendersFirm();
            book.shift(trade, -trade.units, -trade.amount);
            shiftLoans(trade, -1);
            if (isFit) {
                makeLoans(trade);
                book.settleWhole(trade);
            }
            return isFit;
        }

        private void findLenders(Trade trade) {
            long lacking = trade.units - book.account(trade.deliverer).freeOf(trade.security);
            for (int i = 0; i < lent.length; i++) {
                Account lender = book.account(i);
                boolean mayLend = lender.lends && i != trade.deliverer && i != trade.receiver;
                long free = mayLend ? lender.freeOf(trade.security) : 0;
                lent[i] = Math.max(0L, Math.min(lacking, free));
                lacking -= lent[i];
            }
        }

        /** Lends on trial, or takes that back, if the sign is -1. */
        private void shiftLoans(Trade trade, int sign) {
            Account deliverer = book.account(trade.deliverer);
            for (int i = 0; i < lent.length; i++) {
                long units = sign * lent[i];
                book.account(i).shift(trade.security, -units);
                deliverer.shift(trade.security, units);
                deliverer.pledged += book.worthOf(trade.security, units);
            }
        }

        private boolean areLendersFirm() {
            for (int i = 0; i < lent.length; i++) {
                if (lent[i] > 0 && !book.isFirm(i)) {
                    return false;
                }
            }
            return true;
        }

        private void makeLoans(Trade trade) {
            Account deliverer = book.account(trade.deliverer);
            for (int i = 0; i < lent.length; i++) {
                if (lent[i] > 0) {
                    Loan loan = book.loanAt(book.loanCount);
                    loan.lender = i;
                    loan.borrower = trade.deliverer;
                    loan.security = trade.security;
                    loan.units = lent[i];
                    loan.pledged = book.worthOf(trade.security, lent[i]);
                    book.loanCount++;
                    book.moveUnits(i, trade.deliverer, trade.security, lent[i]);
                    deliverer.pledged += loan.pledged;
                }
            }
        }

        void settleInPart() {
            for (int i = 0; i < count; i++) {
                Trade trade = candidate(i);
                long free = book.account(trade.deliverer).freeOf(trade.security);
                boolean isPart = free < trade.units && free >= trade.least;
                if (trade.status == MATCHED && trade.least > 0 && isPart && !book.isLinked(trade)) {
                    settlePartOf(trade, free);
                }
            }
        }

        private void settlePartOf(Trade trade, long part) {
            if (trade.units <= 0) {
                return;
            }
            long amount = trade.amount * part / trade.units;
            book.shift(trade, part, amount);
            boolean isFit = book.isFirm(trade.deliverer) && book.isFirm(trade.receiver);
            book.shift(trade, -part, -amount);
            if (isFit) {
                book.settlePart(trade, part, amount);
            }
        }
    }

    /** What happens at the end of a day. */
    private static final class DayEnd {
        final Book book;

        DayEnd(Book book) {
            this.book = book;
        }

        void takeTurns() {
            for (int i = 0; i < book.eventCount; i++) {
                Event event = book.event(i);
                if (event.record == book.today) {
                    note(event);
                }
                if (event.pay == book.today) {
                    payOut(event);
                }
            }
        }

        private void note(Event event) {
            for (int i = 0; i < book.accountCount; i++) {
                event.setEntitled(i, book.account(i).heldOf(event.security));
            }
            for (int i = 0; i < book.tradeCount; i++) {
                Trade trade = book.trade(i);
                boolean isClaim = event.kind != SPLIT && book.isDue(trade) && trade.security == event.security;
                event.setClaimed(i, isClaim ? trade.units : 0);
            }
            event.page = book.page;
            event.isNoted = true;
            book.page++;
        }

        private void payOut(Event event) {
            if (event.kind == SPLIT) {
                splitHoldings(event);
                splitLoans(event);
                splitTrades(event);
            } else if (event.kind == DIVIDEND) {
                payDividend(event);
            } else {
                payOption(event);
            }
            payClaims(event);
            event.isDone = true;
        }

        private void payDividend(Event event) {
            for (int i = 0; i < book.accountCount; i++) {
                payLessTax(i, event.security, event.a * event.entitledOf(i));
            }
        }

        private void payLessTax(int account, int security, long gross) {
            Account one = book.account(account);
            int rate = one.isRelieved
                    ? book.treatyTax(book.security(security).country, one.country) : FULL_TAX;
            one.cash += gross - gross * rate / 100;
        }

        private void payOption(Event event) {
            long asked = 0;
            for (int i = 0; i < book.accountCount; i++) {
                asked += event.askedBy(i);
            }
            for (int i = 0; i < book.accountCount; i++) {
                long got = event.askedBy(i);
                if (asked > event.cap && asked > 0) {
                    got = got * event.cap / asked;
                }
                book.account(i).move(event.security, got, book.page);
                book.security(event.security).out += got;
                payLessTax(i, event.security, event.a * (event.entitledOf(i) - event.b * got));
            }
        }

        private void payClaims(Event event) {
            for (int i = 0; i < book.tradeCount; i++) {
                Trade trade = book.trade(i);
                book.owe(trade.deliverer, trade.receiver, event.a * event.claimedOf(i));
            }
        }

        private void splitHoldings(Event event) {
            long out = 0;
            for (int i = 0; i < book.accountCount; i++) {
                if (!book.account(i).isPooled) {
                    out += splitWithPool(event, i);
                }
            }
            book.security(event.security).out = out;
        }

        /** Splits an account and those that are pooled there, and returns what they hold then. */
        private long splitWithPool(Event event, int custodian) {
            long own = book.account(custodian).heldOf(event.security);
            long all = own;
            long given = 0;
            for (int i = 0; i < book.accountCount; i++) {
                Account account = book.account(i);
                if (account.isPooled && account.custodian == custodian) {
                    long units = account.heldOf(event.security);
                    all += units;
                    given += event.splitOf(units);
                    splitAccount(event, account, event.splitOf(units));
                }
            }
            long allThen = event.splitOf(all);
            splitAccount(event, book.account(custodian), allThen - given);
            return allThen;
        }

        private void splitAccount(Event event, Account account, long unitsThen) {
            account.move(event.security, unitsThen - account.heldOf(event.security), book.page);
            account.setBlocked(event.security, event.splitOf(account.blockedOf(event.security)));
        }

        private void splitLoans(Event event) {
            for (int i = 0; i < book.loanCount; i++) {
                Loan loan = book.loanAt(i);
                if (loan.security == event.security) {
                    loan.units = event.splitOf(loan.units);
                }
            }
        }

        private void splitTrades(Event event) {
            for (int i = 0; i < book.tradeCount; i++) {
                Trade trade = book.trade(i);
                if (trade.status == MATCHED && trade.security == event.security) {
                    trade.units = event.splitOf(trade.units);
                    trade.least = event.splitOf(trade.least);
                    if (trade.units == 0) {
                        book.cancelTrade(trade);
                    }
                }
            }
        }

        int tellFinesOfTrades() {
            int fines = 0;
            for (int i = 0; i < book.tradeCount; i++) {
                Trade trade = book.trade(i);
                if (book.isDue(trade)) {
                    int causer = book.causerOf(trade);
                    fines += tellFine(causer, finedFor(trade), trade.security, trade.units);
                }
            }
            return fines;
        }

        /** To whom a fine for a trade is owed. */
        private int finedFor(Trade trade) {
            boolean isByDeliverer = book.instruction(trade.delivery).isHeld
                    || !book.isHeldUp(trade) && book.isLacking(trade);
            return isByDeliverer ? trade.receiver : trade.deliverer;
        }

        int tellFinesOfLoans() {
            int fines = 0;
            for (int i = 0; i < book.loanCount; i++) {
                Loan loan = book.loanAt(i);
                if (loan.isRecalled && !loan.isBack) {
                    fines += tellFine(loan.borrower, loan.lender, loan.security, loan.units);
                }
            }
            return fines;
        }

        /** Returns 1, or 0 if there is no fine as nobody owes himself. */
        private int tellFine(int causer, int creditor, int security, long units) {
            if (causer == creditor) {
                return 0;
            }
            long fine = book.worthOf(security, units) * book.security(security).rate / 10000 + 1;
            book.owe(causer, creditor, fine);
            book.mail.tell(causer);
            book.mail.tell(creditor);
            return 1;
        }

        void growOlder() {
            for (int i = 0; i < book.tradeCount; i++) {
                Trade trade = book.trade(i);
                if (book.isDue(trade)) {
                    trade.age++;
                    if (trade.age == BUY_IN_AGE && book.isLacking(trade)) {
                        buyIn(trade);
                    }
                }
            }
        }

        private void buyIn(Trade trade) {
            long worth = book.worthOf(trade.security, trade.units);
            book.owe(trade.deliverer, trade.receiver, Math.max(0L, worth - trade.amount));
            book.cancelTrade(trade);
        }
    }
}
