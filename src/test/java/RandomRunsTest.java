import java.lang.reflect.InvocationTargetException;
import java.lang.reflect.Method;
import java.util.Random;

/** Long runs of calls, the same ones each time, on EastNearly and on SlowEast: each answer must be the same. */
public final class RandomRunsTest {
    private static final int RUNS = 400, CALLS = 512;

    private static final String[] FACE = {
        "off degree degree", "sun day", "edge land ten height", "rise land day", "switched switch", "day date year",
        "feast date", "fault", "book", "needle year", "tell church told v", "about church about",
        "line rule church year", "hits rule church", "hit rule church i", "explain church",
        "chance rule church upper", "weight rule weight", "odds rule church upper", "best church", "fewest", "look",
        "days church", "on church day", "own", "deals k", "dealt upper", "goes", "luck upper", "dated church four",
        "master x y", "bends church", "why church", "when church date year", "since church date", "keep slot",
        "again slot", "count count",
    };

    private final Due due;
    private final Random random;
    private final EastNearly quick = new EastNearly();
    private final SlowEast slow = new SlowEast();
    private final int most;

    private RandomRunsTest(Due due, long seed) {
        this.due = due;
        this.random = new Random(seed);
        // the slow one deals ten saints in all 3628800 ways: only few runs have so many
        this.most = seed % 20 == 0 ? 10 : 1 + (int) (seed % 6);
    }

    private int under(int n) {
        return random.nextInt(n);
    }

    /** Mostly 0 .. n - 1, now and then what lies beside it or far off. */
    private int about(int n) {
        int kind = under(40);
        if (kind == 0) return -1;
        if (kind == 1) return n;
        if (kind == 2) return random.nextBoolean() ? Integer.MIN_VALUE : Integer.MAX_VALUE;
        if (kind == 3) return n - 1;
        return under(n);
    }

    /** A degree that a rule may well tell. */
    private int degree() {
        return under(5) == 0 ? about(360) : 48 + under(90);
    }

    private int church() {
        return about(Math.max(1, quick.count(0)));
    }

    private Object argument(String kind) {
        switch (kind) {
            case "degree": return degree();
            case "day": case "date": return about(364);
            case "land": return about(4);
            case "ten": return under(4) == 0 ? about(36) : 4 + under(10);
            case "height": case "weight": return about(10);
            case "switch": return about(601);
            case "year": case "y": return about(600);
            case "church": return church();
            case "told": return about(3);
            case "v": return under(5) == 0 ? -9 : under(2) == 0 ? about(364) : degree();
            case "about": case "k": return about(11);
            case "rule": case "count": return about(6);
            case "i": return about(12);
            case "four": return about(4);
            case "x": return under(2) == 0 ? under(20) : about(181);
            case "slot": return about(2);
            case "upper": return random.nextBoolean();
            default: throw new IllegalArgumentException(kind);
        }
    }

    /** A piece of a text that is a book, or nearly. */
    private String book() {
        StringBuilder book = new StringBuilder();
        int year = under(200);
        for (int entry = 0; entry < 1 + under(8) && year < 600; entry++) {
            if (entry > 0) book.append(';');
            book.append(String.format("%03d%c%02d", year, random.nextBoolean() ? '+' : '-', under(41)));
            year += 1 + under(250);
        }
        if (under(3) == 0) book.setCharAt(under(book.length()), "0123456789;+-x ".charAt(under(15)));
        if (under(6) == 0) book.append(';');
        if (under(6) == 0) book.setLength(under(book.length()) + 1);
        return book.toString();
    }

    private void writeBook() {
        ask("wipe");
        String book = book();
        for (int place = 0; place < book.length();) {
            int n = Math.min(1 + under(8), book.length() - place);
            long v = random.nextLong();
            for (int i = 0; i < n; i++) v = v << 8 | book.charAt(place + i);
            ask("write", n, v);
            place += n;
        }
        ask("fault");
        ask("book");
    }

    private void addChurch() {
        if (quick.count(0) >= most && under(10) != 0) return;
        if (quick.count(0) >= most && most < 10) return;
        int from = about(600);
        int to = under(30) == 0 ? about(600) : Math.min(from, 599) + under(under(10) == 0 ? 70 : 61);
        ask("church", about(4), degree(), under(3) == 0 ? about(10) : under(4), from, to);
        int church = quick.count(0) - 1;
        if (under(3) != 0) ask("tell", church, 0, about(364));
    }

    private void addChoir() {
        int church = church();
        int after = Math.max(0, quick.about(church, 4));
        int from = under(4) == 0 ? about(600) : after + under(40);
        int to = under(10) == 0 ? about(600) : Math.min(from, 599) + under(40);
        ask("choir", church, degree(), from, to);
    }

    private void any() {
        int kind = under(60);
        if (kind == 0) writeBook();
        else if (kind == 1) ask("write", about(9), random.nextLong());
        else if (kind < 8) addChurch();
        else if (kind < 12) addChoir();
        else {
            String[] words = FACE[under(FACE.length)].split(" ");
            Object[] arguments = new Object[words.length - 1];
            for (int i = 1; i < words.length; i++) arguments[i - 1] = argument(words[i]);
            ask(words[0], arguments);
        }
    }

    private void ask(String name, Object... arguments) {
        StringBuilder call = new StringBuilder(name);
        for (Object argument : arguments) call.append(' ').append(argument);
        due.is(call.toString(), answer(quick, name, arguments), answer(slow, name, arguments));
    }

    private static long answer(Object object, String name, Object[] arguments) {
        for (Method method : object.getClass().getDeclaredMethods()) {
            if (!method.getName().equals(name) || method.getParameterCount() != arguments.length) continue;
            try {
                return ((Number) method.invoke(object, arguments)).longValue();
            } catch (IllegalAccessException | InvocationTargetException e) {
                throw new IllegalStateException(name, e);
            }
        }
        throw new IllegalArgumentException(name);
    }

    public static void main(String[] args) {
        Due due = new Due();
        for (int seed = 0; seed < RUNS; seed++) {
            RandomRunsTest run = new RandomRunsTest(due, seed);
            for (int call = 0; call < CALLS; call++) run.any();
        }
        due.end("RandomRunsTest");
    }
}
