import java.io.ByteArrayInputStream;
import java.io.ByteArrayOutputStream;
import java.io.IOException;
import java.io.ObjectInputStream;
import java.io.ObjectOutputStream;
import java.io.Serializable;
import java.util.ArrayList;
import java.util.HashMap;
import java.util.HashSet;
import java.util.List;
import java.util.Map;
import java.util.Set;

/**
 * The document written down a second time, as plainly as can be and without a thought of room or
 * speed: states are kept by writing all of them to bytes, all moves of units stand in a log, sets
 * are looked at one by one. Random runs compare it with SettlementRing, call by call.
 */
public final class PlainModel {
    static final class Acc implements Serializable {
        int custodian, country;
        boolean pooled, lends, relieved;
        long cash, pledged, line, ledger;
        long[] units = new long[4], blocked = new long[4];
    }

    static final class Sec implements Serializable {
        int country;
        long price, rate, out;
    }

    static final class Ins implements Serializable {
        int account, other, security, units, amount, date, priority, least, status, trade = -1;
        boolean delivery, held, asked;
    }

    static final class Trd implements Serializable {
        int number, age, priority, date;
        Ins deliver, receive;
        long units, amount, least;

        int from() {
            return deliver.account;
        }

        int to() {
            return receive.account;
        }

        int security() {
            return deliver.security;
        }

        int status() {
            return deliver.status;
        }
    }

    static final class Lnk implements Serializable {
        Trd first, second;
        boolean with;
    }

    static final class Ln implements Serializable {
        int lender, borrower, security;
        long units, pledge;
        boolean recalled, back;
    }

    static final class Ev implements Serializable {
        int kind, security, record, pay, logged;
        long a, b, cap;
        boolean noted, paid;
        long[] entitled = new long[10], elected = new long[10];
        List<long[]> claims = new ArrayList<>();
    }

    static final class World implements Serializable {
        int today;
        int[][] treaty = {{15, 15, 15}, {15, 15, 15}, {15, 15, 15}};
        List<Acc> accs = new ArrayList<>();
        List<Sec> secs = new ArrayList<>();
        List<Ins> ins = new ArrayList<>();
        List<Trd> trades = new ArrayList<>();
        List<Lnk> links = new ArrayList<>();
        List<Ln> loans = new ArrayList<>();
        List<Ev> events = new ArrayList<>();
        List<long[]> log = new ArrayList<>();
    }

    private World w = new World();
    private byte[] kept;
    private final Map<Integer, Integer> told = new HashMap<>();

    // ---- helpers

    private static void index(int number, int size) {
        if (number < 0 || number >= size) {
            throw new IndexOutOfBoundsException();
        }
    }

    private static void arg(boolean ok) {
        if (!ok) {
            throw new IllegalArgumentException();
        }
    }

    private static void state(boolean ok) {
        if (!ok) {
            throw new IllegalStateException();
        }
    }

    private static boolean in(long x, long from, long to) {
        return from <= x && x <= to;
    }

    private void tell(int account) {
        told.merge(account, 1, Integer::sum);
    }

    private void give(int account, int security, long units) {
        w.accs.get(account).units[security] += units;
        w.log.add(new long[] {account, security, units});
    }

    private long freeOf(int account, int security) {
        return w.accs.get(account).units[security] - w.accs.get(account).blocked[security];
    }

    private boolean sound(int account) {
        Acc a = w.accs.get(account);
        long worth = 0;
        for (int s = 0; s < w.secs.size(); s++) {
            if (freeOf(account, s) < 0) {
                return false;
            }
            worth += freeOf(account, s) * w.secs.get(s).price;
        }
        return a.cash - a.pledged + a.line + worth / 2 >= 0;
    }

    private boolean due(Trd t) {
        return t.status() == 1 && t.date <= w.today;
    }

    private long worth(int security, long units) {
        return units * w.secs.get(security).price;
    }

    private void end(Trd t, int status) {
        t.deliver.status = status;
        t.receive.status = status;
        tell(t.from());
        tell(t.to());
        if (status == 3) {
            w.links.removeIf(l -> l.first == t || l.second == t);
        }
    }

    private byte[] bytes() {
        try {
            ByteArrayOutputStream bytes = new ByteArrayOutputStream();
            ObjectOutputStream out = new ObjectOutputStream(bytes);
            out.writeObject(w);
            out.close();
            return bytes.toByteArray();
        } catch (IOException e) {
            throw new AssertionError(e);
        }
    }

    private static World world(byte[] bytes) {
        try {
            return (World) new ObjectInputStream(new ByteArrayInputStream(bytes)).readObject();
        } catch (IOException | ClassNotFoundException e) {
            throw new AssertionError(e);
        }
    }

    /** How many accounts, securities, instructions, trades, loans and events there are. */
    int[] counts() {
        return new int[] {w.accs.size(), w.secs.size(), w.ins.size(), w.trades.size(), w.loans.size(),
            w.events.size()};
    }

    /** The numbers of the events that can be elected for now. */
    List<Integer> openOptions() {
        List<Integer> open = new ArrayList<>();
        for (int i = 0; i < w.events.size(); i++) {
            Ev e = w.events.get(i);
            if (e.kind == 2 && e.noted && !e.paid) {
                open.add(i);
            }
        }
        return open;
    }

    // ---- the face

    public int open(int custodian, boolean isPooled, int country, int cash, int line) {
        if (custodian != -1) {
            index(custodian, w.accs.size());
        }
        arg(in(country, 0, 2) && in(cash, 0, 1000000) && in(line, 0, 1000000));
        state(custodian == -1 || w.accs.get(custodian).custodian == -1);
        state(w.accs.size() < 10);
        Acc a = new Acc();
        a.custodian = custodian;
        a.pooled = isPooled;
        a.country = country;
        a.cash = cash;
        a.line = line;
        w.accs.add(a);
        return w.accs.size() - 1;
    }

    public boolean lend(int account) {
        index(account, w.accs.size());
        return w.accs.get(account).lends ^= true;
    }

    public boolean relieve(int account) {
        index(account, w.accs.size());
        return w.accs.get(account).relieved ^= true;
    }

    public int treaty(int country, int other, int rate) {
        arg(in(country, 0, 2) && in(other, 0, 2) && in(rate, 0, 30));
        int before = w.treaty[country][other];
        w.treaty[country][other] = rate;
        return before;
    }

    public int issue(int account, int country, int units, int price, int rate) {
        index(account, w.accs.size());
        arg(in(country, 0, 2) && in(units, 1, 100000) && in(price, 1, 1000) && in(rate, 0, 500));
        state(w.secs.size() < 4);
        Sec s = new Sec();
        s.country = country;
        s.price = price;
        s.rate = rate;
        s.out = units;
        w.secs.add(s);
        give(account, w.secs.size() - 1, units);
        return w.secs.size() - 1;
    }

    public int setPrice(int security, int price) {
        index(security, w.secs.size());
        arg(in(price, 1, 1000));
        long before = w.secs.get(security).price;
        w.secs.get(security).price = price;
        return (int) before;
    }

    public long block(int account, int security, int units) {
        index(account, w.accs.size());
        index(security, w.secs.size());
        arg(units >= 0);
        Acc a = w.accs.get(account);
        state(a.units[security] >= units);
        long before = a.blocked[security];
        a.blocked[security] = units;
        return before;
    }

    public long bring(int account, int cash) {
        index(account, w.accs.size());
        arg(in(cash, -1000000, 1000000));
        Acc a = w.accs.get(account);
        a.cash += cash;
        if (cash < 0 && !sound(account)) {
            a.cash -= cash;
            state(false);
        }
        return a.cash;
    }

    private Ins partner(Ins x, int amount) {
        Ins found = null;
        for (int difference = 0; difference <= 2; difference++) {
            for (Ins y : w.ins) {
                if (found == null && y != x && y.status == 0 && y.account == x.other
                        && y.other == x.account && y.delivery != x.delivery && y.security == x.security
                        && y.units == x.units && y.date == x.date
                        && Math.abs((long) y.amount - amount) == difference) {
                    found = y;
                }
            }
        }
        return found;
    }

    private void match(Ins x, Ins y) {
        Trd t = new Trd();
        t.number = w.trades.size();
        t.deliver = x.delivery ? x : y;
        t.receive = x.delivery ? y : x;
        t.units = x.units;
        t.amount = Math.min(x.amount, y.amount);
        t.priority = Math.max(x.priority, y.priority);
        t.least = Math.min(x.least, y.least) == 0 ? 0 : Math.max(x.least, y.least);
        t.date = x.date;
        x.trade = t.number;
        y.trade = t.number;
        w.trades.add(t);
        end(t, 1);
    }

    public int instruct(int account, int other, boolean isDelivery, int security, int units, int amount,
            int date, int priority, int least) {
        index(account, w.accs.size());
        index(other, w.accs.size());
        index(security, w.secs.size());
        arg(account != other && in(units, 1, 100000) && in(amount, 0, 100000000)
                && in(date, w.today, 2000) && in(priority, 0, 9) && in(least, 0, units));
        state(w.ins.size() < 40);
        Ins x = new Ins();
        x.account = account;
        x.other = other;
        x.delivery = isDelivery;
        x.security = security;
        x.units = units;
        x.amount = amount;
        x.date = date;
        x.priority = priority;
        x.least = least;
        Ins y = partner(x, amount);
        state(y == null || w.trades.size() < 20);
        w.ins.add(x);
        if (y != null) {
            match(x, y);
        }
        return w.ins.size() - 1;
    }

    public int amend(int instruction, int amount) {
        index(instruction, w.ins.size());
        arg(in(amount, 0, 100000000));
        Ins x = w.ins.get(instruction);
        state(x.status == 0);
        Ins y = partner(x, amount);
        state(y == null || w.trades.size() < 20);
        x.amount = amount;
        if (y != null) {
            match(x, y);
        }
        return x.trade;
    }

    public boolean cancel(int instruction) {
        index(instruction, w.ins.size());
        Ins x = w.ins.get(instruction);
        state(x.status < 2);
        if (x.status == 0) {
            x.status = 3;
            tell(x.account);
            return true;
        }
        x.asked = true;
        Trd t = w.trades.get(x.trade);
        if (t.deliver.asked && t.receive.asked) {
            end(t, 3);
            return true;
        }
        return false;
    }

    public boolean hold(int instruction) {
        index(instruction, w.ins.size());
        Ins x = w.ins.get(instruction);
        state(x.status < 2);
        return x.held ^= true;
    }

    public int link(int trade, int other, boolean isWith) {
        index(trade, w.trades.size());
        index(other, w.trades.size());
        arg(trade != other);
        Trd a = w.trades.get(trade);
        Trd b = w.trades.get(other);
        state(a.status() == 1 && b.status() == 1);
        for (Lnk l : w.links) {
            state(!(l.first == a && l.second == b || l.first == b && l.second == a));
        }
        state(w.links.size() < 10);
        Lnk l = new Lnk();
        l.first = a;
        l.second = b;
        l.with = isWith;
        w.links.add(l);
        return w.links.size();
    }

    private List<Trd> candidates() {
        List<Trd> all = new ArrayList<>();
        for (Trd t : w.trades) {
            if (due(t) && !t.deliver.held && !t.receive.held) {
                all.add(t);
            }
        }
        all.sort((x, y) -> x.priority + x.age != y.priority + y.age
                ? (y.priority + y.age) - (x.priority + x.age) : x.number - y.number);
        return all.size() > 10 ? new ArrayList<>(all.subList(0, 10)) : all;
    }

    private void exchange(Trd t, long units, long amount) {
        w.accs.get(t.from()).units[t.security()] -= units;
        w.accs.get(t.to()).units[t.security()] += units;
        w.accs.get(t.from()).cash += amount;
        w.accs.get(t.to()).cash -= amount;
    }

    private boolean can(List<Trd> set) {
        for (Lnk l : w.links) {
            boolean first = set.contains(l.first);
            boolean second = set.contains(l.second);
            if (first && !second && l.second.status() != 2) {
                return false;
            }
            if (l.with && second && !first && l.first.status() != 2) {
                return false;
            }
        }
        boolean ok = true;
        for (Trd t : set) {
            exchange(t, t.units, t.amount);
        }
        for (Trd t : set) {
            ok = ok && sound(t.from()) && sound(t.to());
        }
        for (Trd t : set) {
            exchange(t, -t.units, -t.amount);
        }
        return ok;
    }

    private long worthOf(List<Trd> set) {
        long sum = 0;
        for (Trd t : set) {
            sum += t.amount + worth(t.security(), t.units);
        }
        return sum;
    }

    /** Whether a set is to be taken ahead of another one. */
    private boolean ahead(List<Trd> one, List<Trd> other, List<Trd> order) {
        if (worthOf(one) != worthOf(other)) {
            return worthOf(one) > worthOf(other);
        }
        if (one.size() != other.size()) {
            return one.size() > other.size();
        }
        for (Trd t : order) {
            if (one.contains(t) != other.contains(t)) {
                return one.contains(t);
            }
        }
        return false;
    }

    private List<Trd> bestSet(List<Trd> order) {
        List<Trd> found = new ArrayList<>();
        for (int mask = 0; mask < 1 << order.size(); mask++) {
            List<Trd> set = new ArrayList<>();
            for (int i = 0; i < order.size(); i++) {
                if ((mask & 1 << i) != 0) {
                    set.add(order.get(i));
                }
            }
            if (ahead(set, found, order) && can(set)) {
                found = set;
            }
        }
        return found;
    }

    private boolean linked(Trd t) {
        for (Lnk l : w.links) {
            if (l.first == t || l.second == t) {
                return true;
            }
        }
        return false;
    }

    private void settle(Trd t) {
        give(t.from(), t.security(), -t.units);
        give(t.to(), t.security(), t.units);
        w.accs.get(t.from()).cash += t.amount;
        w.accs.get(t.to()).cash -= t.amount;
        end(t, 2);
    }

    public int cycle() {
        for (Ln l : w.loans) {
            if (!l.back && freeOf(l.borrower, l.security) >= l.units) {
                give(l.borrower, l.security, -l.units);
                give(l.lender, l.security, l.units);
                w.accs.get(l.borrower).pledged -= l.pledge;
                l.back = true;
            }
        }
        List<Trd> order = candidates();
        int whole = 0;
        for (Trd t : bestSet(order)) {
            settle(t);
            whole++;
        }
        for (Trd t : order) {
            if (t.status() == 1 && freeOf(t.from(), t.security()) < t.units && borrowAndSettle(t)) {
                whole++;
            }
        }
        for (Trd t : order) {
            if (t.status() == 1 && t.least != 0 && !linked(t)) {
                long part = freeOf(t.from(), t.security());
                if (part < t.units && part >= t.least) {
                    long amount = t.amount * part / t.units;
                    exchange(t, part, amount);
                    boolean ok = sound(t.from()) && sound(t.to());
                    exchange(t, -part, -amount);
                    if (ok) {
                        give(t.from(), t.security(), -part);
                        give(t.to(), t.security(), part);
                        w.accs.get(t.from()).cash += amount;
                        w.accs.get(t.to()).cash -= amount;
                        t.units -= part;
                        t.amount -= amount;
                        tell(t.from());
                        tell(t.to());
                    }
                }
            }
        }
        return whole;
    }

    private boolean borrowAndSettle(Trd t) {
        if (linked(t)) {
            return false;
        }
        int security = t.security();
        long lacking = t.units - freeOf(t.from(), security);
        List<Ln> made = new ArrayList<>();
        for (int i = 0; i < w.accs.size(); i++) {
            if (w.accs.get(i).lends && i != t.from() && i != t.to() && lacking > 0 && freeOf(i, security) > 0) {
                Ln l = new Ln();
                l.lender = i;
                l.borrower = t.from();
                l.security = security;
                l.units = Math.min(lacking, freeOf(i, security));
                l.pledge = worth(security, l.units);
                lacking -= l.units;
                made.add(l);
            }
        }
        if (lacking > 0 || w.loans.size() + made.size() > 20) {
            return false;
        }
        World before = world(bytes());
        boolean ok = true;
        for (Ln l : made) {
            w.accs.get(l.lender).units[security] -= l.units;
            w.accs.get(t.from()).units[security] += l.units;
            w.accs.get(t.from()).pledged += l.pledge;
        }
        exchange(t, t.units, t.amount);
        ok = sound(t.from()) && sound(t.to());
        for (Ln l : made) {
            ok = ok && sound(l.lender);
        }
        for (int i = 0; i < w.accs.size(); i++) {
            w.accs.set(i, before.accs.get(i));
        }
        if (!ok) {
            return false;
        }
        for (Ln l : made) {
            give(l.lender, security, -l.units);
            give(t.from(), security, l.units);
            w.accs.get(t.from()).pledged += l.pledge;
            w.loans.add(l);
        }
        settle(t);
        return true;
    }

    public long best() {
        return worthOf(bestSet(candidates()));
    }

    public long bestByAll() {
        return best();
    }

    private boolean lacks(Trd t) {
        return freeOf(t.from(), t.security()) < t.units;
    }

    private int causer(Trd t, Set<Trd> gone) {
        gone.add(t);
        if (t.deliver.held) {
            return t.from();
        }
        if (t.receive.held) {
            return t.to();
        }
        if (!lacks(t)) {
            return t.to();
        }
        for (Trd u : w.trades) {
            if (due(u) && u.to() == t.from() && u.security() == t.security() && !gone.contains(u)) {
                return causer(u, gone);
            }
        }
        return t.from();
    }

    private int fine(int by, int to, int security, long units) {
        if (by == to) {
            return 0;
        }
        long fine = worth(security, units) * w.secs.get(security).rate / 10000 + 1;
        owe(by, to, fine);
        tell(by);
        tell(to);
        return 1;
    }

    private void owe(int by, int to, long amount) {
        w.accs.get(by).ledger -= amount;
        w.accs.get(to).ledger += amount;
    }

    public int endDay() {
        state(w.today != 2000);
        for (Ev e : w.events) {
            if (e.record == w.today) {
                note(e);
            }
            if (e.pay == w.today) {
                pay(e);
            }
        }
        int fines = 0;
        for (Trd t : w.trades) {
            if (due(t)) {
                int by = causer(t, new HashSet<>());
                boolean toReceiver = t.deliver.held || !t.receive.held && lacks(t);
                fines += fine(by, toReceiver ? t.to() : t.from(), t.security(), t.units);
            }
        }
        for (Ln l : w.loans) {
            if (l.recalled && !l.back) {
                fines += fine(l.borrower, l.lender, l.security, l.units);
            }
        }
        for (Trd t : w.trades) {
            if (due(t)) {
                t.age++;
                if (t.age == 5 && lacks(t)) {
                    long over = worth(t.security(), t.units) - t.amount;
                    if (over > 0) {
                        owe(t.from(), t.to(), over);
                    }
                    end(t, 3);
                }
            }
        }
        w.today++;
        return fines;
    }

    private void note(Ev e) {
        e.noted = true;
        e.logged = w.log.size();
        for (int i = 0; i < w.accs.size(); i++) {
            e.entitled[i] = w.accs.get(i).units[e.security];
        }
        if (e.kind != 1) {
            for (Trd t : w.trades) {
                if (due(t) && t.security() == e.security) {
                    e.claims.add(new long[] {t.from(), t.to(), e.a * t.units});
                }
            }
        }
    }

    private void net(int account, int security, long gross) {
        Acc a = w.accs.get(account);
        long rate = a.relieved ? w.treaty[w.secs.get(security).country][a.country] : 30;
        a.cash += gross - gross * rate / 100;
    }

    private void pay(Ev e) {
        e.paid = true;
        if (e.kind == 0) {
            for (int i = 0; i < w.accs.size(); i++) {
                net(i, e.security, e.a * e.entitled[i]);
            }
        }
        if (e.kind == 1) {
            split(e);
        }
        if (e.kind == 2) {
            long asked = 0;
            for (int i = 0; i < w.accs.size(); i++) {
                asked += e.elected[i] / e.b;
            }
            for (int i = 0; i < w.accs.size(); i++) {
                long got = e.elected[i] / e.b;
                if (asked > e.cap) {
                    got = got * e.cap / asked;
                }
                give(i, e.security, got);
                w.secs.get(e.security).out += got;
                net(i, e.security, e.a * (e.entitled[i] - e.b * got));
            }
        }
        for (long[] claim : e.claims) {
            owe((int) claim[0], (int) claim[1], claim[2]);
        }
    }

    private void split(Ev e) {
        int s = e.security;
        long[] then = new long[w.accs.size()];
        long[] together = new long[w.accs.size()];
        for (int i = 0; i < then.length; i++) {
            Acc a = w.accs.get(i);
            boolean inPool = a.custodian != -1 && a.pooled;
            together[inPool ? a.custodian : i] += a.units[s];
        }
        for (int i = 0; i < then.length; i++) {
            Acc a = w.accs.get(i);
            then[i] += (a.custodian != -1 && a.pooled ? a.units[s] : together[i]) * e.a / e.b;
            if (a.custodian != -1 && a.pooled) {
                then[a.custodian] -= then[i];
            }
        }
        w.secs.get(s).out = 0;
        for (int i = 0; i < then.length; i++) {
            give(i, s, then[i] - w.accs.get(i).units[s]);
            w.accs.get(i).blocked[s] = w.accs.get(i).blocked[s] * e.a / e.b;
            w.secs.get(s).out += then[i];
        }
        for (Ln l : w.loans) {
            if (l.security == s && !l.back) {
                l.units = l.units * e.a / e.b;
            }
        }
        for (Trd t : w.trades) {
            if (t.status() == 1 && t.security() == s) {
                t.units = t.units * e.a / e.b;
                t.least = t.least * e.a / e.b;
                if (t.units == 0) {
                    end(t, 3);
                }
            }
        }
    }

    public int today() {
        return w.today;
    }

    public long recall(int loan) {
        index(loan, w.loans.size());
        Ln l = w.loans.get(loan);
        state(!l.back && !l.recalled);
        l.recalled = true;
        return l.units;
    }

    public int keep() {
        kept = bytes();
        return w.today;
    }

    public int goBack() {
        state(kept != null);
        w = world(kept);
        return w.today;
    }

    public int announce(int kind, int security, int a, int b, int cap, int record, int pay) {
        index(security, w.secs.size());
        arg(in(kind, 0, 2) && in(a, 1, kind == 1 ? 3 : 1000));
        arg(kind == 0 || in(b, 1, kind == 1 ? 3 : 10));
        arg(kind != 2 || in(cap, 0, 100000));
        arg(in(record, w.today, 2000) && in(pay, record, 2000));
        state(w.events.size() < 10);
        Ev e = new Ev();
        e.kind = kind;
        e.security = security;
        e.a = a;
        e.b = b;
        e.cap = cap;
        e.record = record;
        e.pay = pay;
        w.events.add(e);
        return w.events.size() - 1;
    }

    public long elect(int account, int event, int units) {
        index(account, w.accs.size());
        index(event, w.events.size());
        arg(units >= 0);
        Ev e = w.events.get(event);
        state(e.kind == 2 && e.noted && !e.paid && units <= e.entitled[account]);
        long before = e.elected[account];
        e.elected[account] = units;
        return before;
    }

    public long entitled(int event, int account) {
        index(event, w.events.size());
        index(account, w.accs.size());
        Ev e = w.events.get(event);
        return e.noted ? e.entitled[account] : -1;
    }

    public long entitledAnew(int event, int account) {
        index(event, w.events.size());
        index(account, w.accs.size());
        Ev e = w.events.get(event);
        if (!e.noted) {
            return -1;
        }
        long sum = 0;
        for (long[] move : w.log.subList(0, e.logged)) {
            if (move[0] == account && move[1] == e.security) {
                sum += move[2];
            }
        }
        return sum;
    }

    public boolean isPaid(int event) {
        index(event, w.events.size());
        return w.events.get(event).paid;
    }

    public long units(int account, int security) {
        index(account, w.accs.size());
        index(security, w.secs.size());
        return w.accs.get(account).units[security];
    }

    public long free(int account, int security) {
        index(account, w.accs.size());
        index(security, w.secs.size());
        return freeOf(account, security);
    }

    public long out(int security) {
        index(security, w.secs.size());
        return w.secs.get(security).out;
    }

    public long cash(int account) {
        index(account, w.accs.size());
        return w.accs.get(account).cash;
    }

    public long pledged(int account) {
        index(account, w.accs.size());
        return w.accs.get(account).pledged;
    }

    public long limit(int account) {
        index(account, w.accs.size());
        long worth = 0;
        for (int s = 0; s < w.secs.size(); s++) {
            worth += freeOf(account, s) * w.secs.get(s).price;
        }
        return w.accs.get(account).line + worth / 2;
    }

    public boolean isSound(int account) {
        index(account, w.accs.size());
        return sound(account);
    }

    public double used(int account) {
        index(account, w.accs.size());
        long free = w.accs.get(account).cash - w.accs.get(account).pledged;
        return free >= 0 ? 0 : (double) -free / (double) limit(account);
    }

    public long ledger(int account) {
        index(account, w.accs.size());
        return w.accs.get(account).ledger;
    }

    public int messages(int account) {
        index(account, w.accs.size());
        return told.getOrDefault(account, 0);
    }

    public int alleged(int account) {
        index(account, w.accs.size());
        int count = 0;
        for (Ins x : w.ins) {
            count += x.status == 0 && x.other == account ? 1 : 0;
        }
        return count;
    }

    public int status(int instruction) {
        index(instruction, w.ins.size());
        return w.ins.get(instruction).status;
    }

    public int tradeOf(int instruction) {
        index(instruction, w.ins.size());
        return w.ins.get(instruction).trade;
    }

    public long tradeUnits(int trade) {
        index(trade, w.trades.size());
        return w.trades.get(trade).units;
    }

    public long tradeAmount(int trade) {
        index(trade, w.trades.size());
        return w.trades.get(trade).amount;
    }

    public int age(int trade) {
        index(trade, w.trades.size());
        return w.trades.get(trade).age;
    }

    public int causer(int trade) {
        index(trade, w.trades.size());
        state(due(w.trades.get(trade)));
        return causer(w.trades.get(trade), new HashSet<>());
    }

    public int loans() {
        return w.loans.size();
    }

    public long loan(int loan) {
        index(loan, w.loans.size());
        return w.loans.get(loan).back ? -1 : w.loans.get(loan).units;
    }
}
