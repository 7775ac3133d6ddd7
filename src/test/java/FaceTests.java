import java.io.IOException;
import java.lang.reflect.Field;
import java.lang.reflect.Method;
import java.lang.reflect.Modifier;
import java.nio.charset.StandardCharsets;
import java.nio.file.Files;
import java.nio.file.Path;
import java.util.ArrayList;
import java.util.Arrays;
import java.util.HashSet;
import java.util.List;
import java.util.Set;
import java.util.TreeSet;
import java.util.regex.Matcher;
import java.util.regex.Pattern;

/** The face as the document gives it, and those rules of LANGUAGE.md that a look at the class can tell. */
final class FaceTests {
    private static final Path SOURCE = Path.of("src", "main", "java", "SettlementRing.java");

    private FaceTests() {
    }

    private static final String[] FACE = {
        "int open(int,boolean,int,int,int) IndexOutOfBoundsException IllegalArgumentException IllegalStateException",
        "boolean lend(int) IndexOutOfBoundsException",
        "boolean relieve(int) IndexOutOfBoundsException",
        "int treaty(int,int,int) IllegalArgumentException",
        "int issue(int,int,int,int,int) IndexOutOfBoundsException IllegalArgumentException IllegalStateException",
        "int setPrice(int,int) IndexOutOfBoundsException IllegalArgumentException",
        "long block(int,int,int) IndexOutOfBoundsException IllegalArgumentException IllegalStateException",
        "long bring(int,int) IndexOutOfBoundsException IllegalArgumentException IllegalStateException",
        "int instruct(int,int,boolean,int,int,int,int,int,int)"
            + " IndexOutOfBoundsException IllegalArgumentException IllegalStateException",
        "int amend(int,int) IndexOutOfBoundsException IllegalArgumentException IllegalStateException",
        "boolean cancel(int) IndexOutOfBoundsException IllegalStateException",
        "boolean hold(int) IndexOutOfBoundsException IllegalStateException",
        "int link(int,int,boolean) IndexOutOfBoundsException IllegalArgumentException IllegalStateException",
        "int cycle()",
        "long best()",
        "long bestByAll()",
        "int endDay() IllegalStateException",
        "int today()",
        "long recall(int) IndexOutOfBoundsException IllegalStateException",
        "int keep()",
        "int goBack() IllegalStateException",
        "int announce(int,int,int,int,int,int,int)"
            + " IndexOutOfBoundsException IllegalArgumentException IllegalStateException",
        "long elect(int,int,int) IndexOutOfBoundsException IllegalArgumentException IllegalStateException",
        "long entitled(int,int) IndexOutOfBoundsException",
        "long entitledAnew(int,int) IndexOutOfBoundsException",
        "boolean isPaid(int) IndexOutOfBoundsException",
        "long units(int,int) IndexOutOfBoundsException",
        "long free(int,int) IndexOutOfBoundsException",
        "long out(int) IndexOutOfBoundsException",
        "long cash(int) IndexOutOfBoundsException",
        "long pledged(int) IndexOutOfBoundsException",
        "long limit(int) IndexOutOfBoundsException",
        "boolean isSound(int) IndexOutOfBoundsException",
        "double used(int) IndexOutOfBoundsException",
        "long ledger(int) IndexOutOfBoundsException",
        "int messages(int) IndexOutOfBoundsException",
        "int alleged(int) IndexOutOfBoundsException",
        "int status(int) IndexOutOfBoundsException",
        "int tradeOf(int) IndexOutOfBoundsException",
        "long tradeUnits(int) IndexOutOfBoundsException",
        "long tradeAmount(int) IndexOutOfBoundsException",
        "int age(int) IndexOutOfBoundsException",
        "int causer(int) IndexOutOfBoundsException IllegalStateException",
        "int loans()",
        "long loan(int) IndexOutOfBoundsException"};

    private static String textOf(Method method) {
        StringBuilder text = new StringBuilder();
        text.append(method.getReturnType().getName()).append(' ').append(method.getName()).append('(');
        text.append(String.join(",", Arrays.stream(method.getParameterTypes()).map(Class::getName).toList()));
        text.append(')');
        for (Class<?> type : method.getExceptionTypes()) {
            text.append(' ').append(type.getSimpleName());
        }
        return text.toString();
    }

    static void rule1_theFaceIsThatOfTheDocument() {
        Set<String> got = new TreeSet<>();
        for (Method method : SettlementRing.class.getDeclaredMethods()) {
            if (!Modifier.isPrivate(method.getModifiers())) {
                got.add(textOf(method));
                Checks.is(method.getName() + " is public", Modifier.isPublic(method.getModifiers()));
                Checks.isNot(method.getName() + " is static", Modifier.isStatic(method.getModifiers()));
            }
        }
        Checks.same("the methods", String.join("\n", got), String.join("\n", new TreeSet<>(List.of(FACE))));
        int modifiers = SettlementRing.class.getModifiers();
        Checks.is("the class is public and final", Modifier.isPublic(modifiers) && Modifier.isFinal(modifiers));
        Checks.same("constructors", SettlementRing.class.getDeclaredConstructors().length, 1);
        Checks.same("public constructors", SettlementRing.class.getConstructors().length, 1);
    }

    static void rule1_theConstantsAreThoseOfTheDocument() {
        Set<String> got = new TreeSet<>();
        for (Field field : SettlementRing.class.getDeclaredFields()) {
            if (!Modifier.isPrivate(field.getModifiers())) {
                got.add(field.getName());
            }
        }
        Checks.same("constants", got.toString(),
                "[CANCELLED, DIVIDEND, MATCHED, NONE, OPEN, OPTION, SETTLED, SPLIT]");
        int[] values = {SettlementRing.NONE, SettlementRing.OPEN, SettlementRing.MATCHED, SettlementRing.SETTLED,
            SettlementRing.CANCELLED, SettlementRing.DIVIDEND, SettlementRing.SPLIT, SettlementRing.OPTION};
        Checks.same("constants", Arrays.toString(values), "[-1, 0, 1, 2, 3, 0, 1, 2]");
    }

    static void rule1_noOtherMethodBearsANameOfTheFace() {
        Set<String> names = new HashSet<>();
        for (Method method : SettlementRing.class.getMethods()) {
            names.add(method.getName());
        }
        List<Class<?>> all = new ArrayList<>(List.of(SettlementRing.class.getDeclaredClasses()));
        all.add(SettlementRing.class);
        for (Class<?> type : all) {
            for (Method method : type.getDeclaredMethods()) {
                boolean isPublic = Modifier.isPublic(method.getModifiers());
                Checks.isNot(method + " bears a name of the face", !isPublic && names.contains(method.getName()));
            }
        }
    }

    static void rule5and11_fieldsAndClasses() {
        Class<?>[] inside = SettlementRing.class.getDeclaredClasses();
        Checks.is("some twelve classes", inside.length <= 12);
        List<Class<?>> all = new ArrayList<>(List.of(inside));
        all.add(SettlementRing.class);
        for (Class<?> type : all) {
            int fields = 0;
            for (Field field : type.getDeclaredFields()) {
                boolean isStatic = Modifier.isStatic(field.getModifiers());
                fields += isStatic ? 0 : 1;
                Checks.is(field + ": a static field is final", !isStatic || Modifier.isFinal(field.getModifiers()));
            }
            Checks.is("some twenty fields in " + type, fields <= 20);
            for (Method method : type.getDeclaredMethods()) {
                boolean isOfTheFace = Modifier.isPublic(method.getModifiers());
                Checks.is("seven parameters of " + method, isOfTheFace || method.getParameterCount() <= 7);
            }
        }
    }

    private static String source() {
        try {
            return Files.readString(SOURCE, StandardCharsets.US_ASCII);
        } catch (IOException e) {
            throw new AssertionError(e);
        }
    }

    /** The source without comments and texts. */
    private static String code() {
        String code = source().replaceAll("(?s)/\\*.*?\\*/", "").replaceAll("//[^\n]*", "");
        return code.replaceAll("\"[^\"\n]*\"", "\"\"");
    }

    static void rule2to10_wordsThatDoNotComeUp() {
        String[] never = {"import", "package", "->", "::", "synchronized", "assert", "finally", "catch", "try",
            "goto", "native", "volatile", "transient", "System\\.(?!arraycopy)", "Exact\\(", "Thread", "Random",
            "hashCode", "equals", "toString", "getMessage", "instanceof", "Object", "protected", "new (?!Illegal"
            + "|IndexOut|Mail|Book|Cycle|DayEnd|Account|Security|Instruction|Trade|Link|Loan|Event|long\\[|int\\[)"};
        for (String word : never) {
            Matcher matcher = Pattern.compile(word.matches("\\w+") ? "\\b" + word + "\\b" : word).matcher(code());
            Checks.isNot("the source holds " + word, matcher.find());
        }
    }

    static void rule11_methodsAreShort() {
        int length = 0;
        for (String line : source().split("\n")) {
            length = line.matches("    (    )?\\S.*[{]") ? 0 : length + 1;
            Checks.is("a method of at most 60 lines", length <= 60 || !line.matches("    (    )?[}]"));
        }
    }

    /** Makes every call that goes through rows or sets, on a ring with much in it. */
    private static void makeDearCalls(SettlementRing ring) {
        ring.keep();
        ring.best();
        ring.bestByAll();
        ring.cycle();
        ring.endDay();
        ring.goBack();
    }

    static void rule12_callsMakeNoObjects() {
        com.sun.management.ThreadMXBean threads =
                (com.sun.management.ThreadMXBean) java.lang.management.ManagementFactory.getThreadMXBean();
        SettlementRing ring = new SettlementRing();
        for (int i = 0; i < 10; i++) {
            ring.open(i % 3 == 0 ? -1 : 0, i % 2 == 0, i % 3, 100, 100);
            ring.lend(i);
        }
        ring.issue(0, 0, 1000, 10, 100);
        for (int i = 1; i < 21; i++) {
            ring.instruct(i % 9, 9, true, 0, i, i, 0, 0, 1);
            ring.instruct(9, i % 9, false, 0, i, i, 0, 0, 1);
        }
        for (int i = 0; i < 9; i++) {
            ring.announce(i % 3, 0, 2, 1, 5, 0, 0);
        }
        makeDearCalls(ring);
        long before = threads.getCurrentThreadAllocatedBytes();
        for (int i = 0; i < 100; i++) {
            makeDearCalls(ring);
        }
        long made = threads.getCurrentThreadAllocatedBytes() - before;
        Checks.is("some bytes in 600 calls, not " + made, made < 2000);
    }

    static void rule6_callsThrowWithAStatementOfTheClassAlone() {
        SettlementRing ring = new SettlementRing();
        int[] odd = {Integer.MIN_VALUE, -2, -1, 0, 1, 2, 10, 40, Integer.MAX_VALUE};
        ring.open(-1, false, 0, 5, 5);
        ring.open(0, true, 0, 5, 5);
        ring.issue(0, 0, 5, 5, 5);
        ring.instruct(0, 1, true, 0, 2, 2, 0, 0, 0);
        ring.instruct(1, 0, false, 0, 2, 2, 0, 0, 0);
        ring.announce(SettlementRing.OPTION, 0, 1, 1, 1, 0, 1);
        for (Method method : SettlementRing.class.getDeclaredMethods()) {
            if (Modifier.isPublic(method.getModifiers())) {
                for (int round = 0; round < 400; round++) {
                    callWith(ring, method, odd, round);
                }
            }
        }
    }

    private static void callWith(SettlementRing ring, Method method, int[] odd, int round) {
        Class<?>[] types = method.getParameterTypes();
        Object[] args = new Object[types.length];
        int mix = round * 7919 + 13;
        for (int i = 0; i < args.length; i++) {
            mix = mix * 1103515245 + 12345;
            int chosen = odd[Math.floorMod(mix >> 8, odd.length)];
            if (types[i] == boolean.class) {
                args[i] = chosen > 0;
            } else {
                args[i] = chosen;
            }
        }
        try {
            method.invoke(ring, args);
        } catch (java.lang.reflect.InvocationTargetException e) {
            boolean isDeclared = Arrays.asList(method.getExceptionTypes()).contains(e.getCause().getClass());
            String top = e.getCause().getStackTrace()[0].getMethodName();
            if (!isDeclared || !top.startsWith("need")) {
                throw new AssertionError(method.getName() + Arrays.toString(args) + " throws " + e.getCause());
            }
        } catch (IllegalAccessException e) {
            throw new AssertionError(e);
        }
    }
}
