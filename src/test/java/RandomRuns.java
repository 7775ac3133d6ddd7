import java.lang.reflect.InvocationTargetException;
import java.lang.reflect.Method;
import java.util.ArrayList;
import java.util.Arrays;
import java.util.HashMap;
import java.util.List;
import java.util.Map;
import java.util.Random;

/** Random runs of calls, each made on a SettlementRing and on the PlainModel, whose answers must be alike. */
public final class RandomRuns {
    private static final Map<String, Method> RING = methodsOf(SettlementRing.class);
    private static final Map<String, Method> MODEL = methodsOf(PlainModel.class);
    static final int ACCOUNTS = 0, SECURITIES = 1, INSTRUCTIONS = 2, TRADES = 3, LOANS = 4, EVENTS = 5;

    private final Random random;
    private final SettlementRing ring = new SettlementRing();
    private final PlainModel model = new PlainModel();
    private final List<String> calls = new ArrayList<>();
    final Map<String, Integer> seen = new HashMap<>();
    private String fault;
    private final int mostUnits;
    private final int mostPrice;
    private final int mostCash;
    private final int accounts;
    private final int securities;
    private final boolean isLarge;
    /** Of 100 steps how many give two instructions that fit. */
    private final int instructing;

    RandomRuns(long seed) {
        random = new Random(seed);
        isLarge = random.nextInt(12) == 0;
        mostUnits = isLarge ? 100000 : new int[] {3, 8, 20, 60, 300}[random.nextInt(5)];
        mostPrice = isLarge ? 1000 : new int[] {1, 3, 10, 50, 1000}[random.nextInt(5)];
        mostCash = isLarge ? 1000000 : new int[] {10, 200, 3000, 50000}[random.nextInt(4)];
        accounts = 2 + random.nextInt(9);
        instructing = 12 + random.nextInt(19);
        securities = 1 + random.nextInt(random.nextBoolean() ? 2 : 4);
    }

    private static Map<String, Method> methodsOf(Class<?> type) {
        Map<String, Method> methods = new HashMap<>();
        for (Method method : type.getDeclaredMethods()) {
            if (java.lang.reflect.Modifier.isPublic(method.getModifiers())) {
                methods.put(method.getName(), method);
            }
        }
        return methods;
    }

    private static String answer(Method method, Object on, Object[] args) {
        try {
            return String.valueOf(method.invoke(on, args));
        } catch (InvocationTargetException e) {
            return e.getCause().getClass().getName();
        } catch (IllegalAccessException e) {
            throw new AssertionError(e);
        }
    }

    private static String text(String name, Object[] args) {
        String inner = Arrays.toString(args);
        return name + "(" + inner.substring(1, inner.length() - 1) + ")";
    }

    /** Makes a call on both and notes the first one that is answered differently. */
    String call(String name, Object... args) {
        String got = answer(RING.get(name), ring, args);
        String due = answer(MODEL.get(name), model, args);
        calls.add(text(name, args) + " -> " + due);
        if (!got.equals(due) && fault == null) {
            fault = text(name, args) + " answered " + got + ", due is " + due;
        }
        seen.merge(name + (due.contains("Exception") ? " " + due : ""), 1, Integer::sum);
        return due;
    }

    private int upTo(int most) {
        return random.nextInt(most + 1);
    }

    private int oneOf(int kind) {
        int count = model.counts()[kind];
        return random.nextInt(60) == 0 ? random.nextInt(14) - 2 : count == 0 ? 0 : random.nextInt(count);
    }

    /** A value from a range, now and then one just outside of it or at its end. */
    private int value(int from, int to) {
        int choice = random.nextInt(60);
        if (choice == 0) {
            return from - 1;
        }
        if (choice == 1) {
            return to + 1;
        }
        return from + random.nextInt(to - from + 1);
    }

    private void open() {
        int custodian = random.nextInt(3) > 0 ? -1 : oneOf(ACCOUNTS);
        call("open", custodian, random.nextBoolean(), value(0, 2), value(0, Math.min(mostCash, 1000000)),
                random.nextInt(3) == 0 ? value(0, mostCash) : 0);
    }

    private void issue() {
        call("issue", oneOf(ACCOUNTS), value(0, 2), isLarge ? value(1, 100000) : value(1, mostUnits * 3),
                value(1, mostPrice), value(0, 500));
    }

    private int day() {
        int choice = random.nextInt(12);
        return choice == 0 ? model.today() - 1 : choice < 8 ? model.today() : model.today() + random.nextInt(4);
    }

    private void instructPair() {
        int giver = oneOf(ACCOUNTS);
        int taker = oneOf(ACCOUNTS);
        if (giver == taker && random.nextInt(10) > 0) {
            taker = giver > 0 ? giver - 1 : giver + 1;
        }
        int security = oneOf(SECURITIES);
        int units = value(1, mostUnits);
        long worth = (long) units * mostPrice;
        int amount = (int) Math.min(100000000L, random.nextInt(3) == 0 ? 0 : (long) (worth * random.nextDouble()));
        int date = day();
        int least = random.nextInt(2) == 0 ? 0 : value(0, units);
        call("instruct", giver, taker, true, security, units, amount, date, value(0, 9), least);
        if (random.nextInt(12) > 0) {
            int leastThen = random.nextInt(3) == 0 ? 0 : value(0, units);
            call("instruct", taker, giver, false, security, units, amount + (random.nextInt(3) == 0 ? upTo(6) - 3 : 0),
                    date, value(0, 9), leastThen);
        }
    }

    private void instructOne() {
        call("instruct", oneOf(ACCOUNTS), oneOf(ACCOUNTS), random.nextBoolean(), oneOf(SECURITIES), value(1, 2),
                value(0, 6), day(), value(0, 9), upTo(1));
    }

    private void announce() {
        int kind = random.nextInt(40) == 0 ? value(0, 2) : random.nextInt(3);
        int record = model.today() + random.nextInt(3) - (random.nextInt(30) == 0 ? 1 : 0);
        int pay = record + random.nextInt(4) - (random.nextInt(30) == 0 ? 1 : 0);
        int a = kind == 1 ? value(1, 3) : value(1, random.nextInt(4) == 0 ? 1000 : 10);
        int b = kind == 1 ? value(1, 3) : kind == 2 ? value(1, random.nextBoolean() ? 10 : 2) : value(0, 4);
        call("announce", kind, oneOf(SECURITIES), a, b, random.nextInt(30) == 0 ? -1 : upTo(mostUnits), record, pay);
    }

    private void elect() {
        List<Integer> open = model.openOptions();
        int event = open.isEmpty() || random.nextInt(20) == 0 ? oneOf(EVENTS) : open.get(random.nextInt(open.size()));
        int account = oneOf(ACCOUNTS);
        String entitled = call("entitled", event, account);
        long most = entitled.contains("E") ? 3 : Long.parseLong(entitled);
        int units = (int) Math.min(Integer.MAX_VALUE - 5L, Math.max(0, most));
        call("elect", account, event, random.nextInt(10) == 0 ? units + upTo(2) : random.nextInt(20) == 0 ? -1 : upTo(units));
    }

    private void act() {
        if (random.nextInt(8) == 0 && !model.openOptions().isEmpty()) {
            elect();
            return;
        }
        int choice = random.nextInt(100);
        if (choice < instructing) {
            instructPair();
        } else if (choice < 33) {
            instructOne();
        } else if (choice < 45) {
            call("best");
            call("bestByAll");
            call("cycle");
        } else if (choice < 55) {
            call("endDay");
        } else if (choice < 60) {
            announce();
        } else if (choice < 62) {
            elect();
        } else if (choice < 66) {
            for (int i = random.nextInt(3); i >= 0; i--) {
                call("endDay");
            }
        } else if (choice < 70) {
            call("link", oneOf(TRADES), oneOf(TRADES), random.nextBoolean());
        } else if (choice < 74) {
            call("hold", oneOf(INSTRUCTIONS));
        } else if (choice < 78) {
            call("cancel", oneOf(INSTRUCTIONS));
        } else if (choice < 80) {
            call("amend", oneOf(INSTRUCTIONS), random.nextInt(10) == 0 ? value(0, 100000000) : value(0, 20));
        } else if (choice < 84) {
            actOnAccounts();
        } else if (choice < 87) {
            call("recall", oneOf(LOANS));
        } else if (choice < 88) {
            call("keep");
        } else if (choice < 89) {
            call("goBack");
        } else {
            read();
        }
    }

    private void actOnAccounts() {
        switch (random.nextInt(8)) {
            case 0 -> call("lend", oneOf(ACCOUNTS));
            case 1 -> call("relieve", oneOf(ACCOUNTS));
            case 2 -> call("treaty", value(0, 2), value(0, 2), value(0, 30));
            case 3 -> call("setPrice", oneOf(SECURITIES), value(1, mostPrice));
            case 4 -> call("block", oneOf(ACCOUNTS), oneOf(SECURITIES), value(0, mostUnits));
            case 5 -> call("bring", oneOf(ACCOUNTS), value(-mostCash, mostCash));
            case 6 -> open();
            default -> issue();
        }
    }

    private void read() {
        int account = oneOf(ACCOUNTS);
        switch (random.nextInt(6)) {
            case 0 -> call("causer", oneOf(TRADES));
            case 1 -> call("entitledAnew", oneOf(EVENTS), account);
            case 2 -> call("units", account, oneOf(SECURITIES));
            case 3 -> call("loan", oneOf(LOANS));
            case 4 -> call("isPaid", oneOf(EVENTS));
            default -> call("used", account);
        }
    }

    /** Asks for all that there is. */
    void readAll() {
        int[] counts = model.counts();
        for (int i = 0; i < counts[ACCOUNTS]; i++) {
            for (String name : new String[] {"cash", "pledged", "limit", "isSound", "used", "ledger", "messages", "alleged"}) {
                call(name, i);
            }
            for (int j = 0; j < counts[SECURITIES]; j++) {
                call("units", i, j);
                call("free", i, j);
            }
            for (int j = 0; j < counts[EVENTS]; j++) {
                call("entitled", j, i);
                call("entitledAnew", j, i);
            }
        }
        for (int i = 0; i < counts[SECURITIES]; i++) {
            call("out", i);
        }
        for (int i = 0; i < counts[INSTRUCTIONS]; i++) {
            call("status", i);
            call("tradeOf", i);
        }
        for (int i = 0; i < counts[TRADES]; i++) {
            for (String name : new String[] {"tradeUnits", "tradeAmount", "age", "causer"}) {
                call(name, i);
            }
        }
        for (int i = 0; i < counts[LOANS]; i++) {
            call("loan", i);
        }
        for (int i = 0; i < counts[EVENTS]; i++) {
            call("isPaid", i);
        }
        call("loans");
        call("today");
        call("best");
        call("bestByAll");
    }

    /** Returns null if all answers of the run were alike, otherwise the calls up to the first that was not. */
    String run() {
        for (int i = 0; i < accounts; i++) {
            open();
        }
        for (int i = 0; i < securities; i++) {
            issue();
        }
        for (int i = 0; i < accounts; i++) {
            if (random.nextInt(3) == 0) {
                call("lend", i);
            }
            if (random.nextInt(3) == 0) {
                call("relieve", i);
            }
        }
        int steps = 20 + random.nextInt(140);
        for (int i = 0; i < steps && fault == null; i++) {
            act();
            if (random.nextInt(25) == 0) {
                readAll();
            }
        }
        readAll();
        return fault == null ? null : String.join("\n", calls) + "\n" + fault;
    }

    public static void main(String[] args) {
        long from = Long.parseLong(args[0]);
        long to = Long.parseLong(args[1]);
        Map<String, Integer> all = new java.util.TreeMap<>();
        for (long seed = from; seed < to; seed++) {
            RandomRuns runs = new RandomRuns(seed);
            String wrong = runs.run();
            runs.seen.forEach((name, count) -> all.merge(name, count, Integer::sum));
            if (wrong != null) {
                System.out.println("seed " + seed + "\n" + wrong);
                System.exit(1);
            }
        }
        System.out.println(all);
    }
}
