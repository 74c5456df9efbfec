import java.io.IOException;
import java.lang.reflect.InvocationTargetException;
import java.lang.reflect.Method;
import java.lang.reflect.Modifier;
import java.nio.file.Files;
import java.nio.file.Path;
import java.util.HashMap;
import java.util.LinkedHashMap;
import java.util.Map;
import java.util.regex.Matcher;
import java.util.regex.Pattern;

/**
 * Tests that bear the document's own words: each has the words of one sentence as its name, and runs of calls.
 *
 * The words must stand in ../shared/DOC.md, in the section that is told; and what no test has quoted of such a section
 * may not name a boundary any more (a number, a refusal, a word like "least"), so that no such sentence goes untested.
 *
 * A run is a text of calls on a new object, with ", " between them, each with the answer that is due: "sun 0 = 90,
 * sun 364 = UNKNOWN". An answer of ? may be any; a call without an answer may only not be refused. Besides the calls of
 * the face there are "text T" (T is written byte by byte) and "read T" (wipe, T is written, and made the book).
 */
abstract class Sentences {
    static final long[] NO_DEGREE = {Integer.MIN_VALUE, -9, -1, 360, Integer.MAX_VALUE};
    static final long[] NO_YEAR = {Integer.MIN_VALUE, -9, -1, 600, Integer.MAX_VALUE};
    static final long[] NO_DAY = {Integer.MIN_VALUE, -9, -1, 364, Integer.MAX_VALUE};
    static final long[] NO_LAND = {Integer.MIN_VALUE, -9, -1, 4, Integer.MAX_VALUE};
    static final long[] NO_RULE = {Integer.MIN_VALUE, -9, -1, 6, Integer.MAX_VALUE};
    static final long[] NO_SLOT = {Integer.MIN_VALUE, -9, -1, 2, Integer.MAX_VALUE};
    static final long[] NOT_OF_TEN = {Integer.MIN_VALUE, -9, -1, 10, Integer.MAX_VALUE};
    static final long[] NO_CHURCH_OF_ONE = {Integer.MIN_VALUE, -9, -1, 1, 9, 10, Integer.MAX_VALUE};

    /** The longest book: seven entries. */
    static final String LONGEST = "000+00;001+01;002-02;003+03;004-04;005+05;599-40";

    /** A needle that is 10 in the year 101, and 0 in all years but that. */
    static final String ONE_YEAR = "read 100+00;101+10;102+00 = 3, ";

    private static final Path DOCUMENT = Path.of("../shared/DOC.md");
    private static final Pattern BOUNDARY = Pattern.compile("\\d|\\b(UNKNOWN|BAD|LATE|FULL|NONE|[Nn]one|least|greatest|"
            + "first|last|most|nearest|shorter|ahead|behind|cut|round|without|nothing|neither|only|more|empty|any)\\b");
    private static final Map<String, Long> NAMES = Map.of("UNKNOWN", -1L, "BAD", -2L, "LATE", -3L, "FULL", -4L,
            "NONE", -9L, "MIN", (long) Integer.MIN_VALUE, "MAX", (long) Integer.MAX_VALUE);

    private final String name;
    private final Due due = new Due();
    private final Map<String, Method> face = new HashMap<>();
    private final Map<String, String> document = readDocument();
    private final Map<String, String> unquoted = new LinkedHashMap<>();
    private String section = "";
    private String words = "";
    private EastNearly east = new EastNearly();
    private int tests = 0;
    private int answers = 1;

    Sentences(String name) {
        this.name = name;
        for (Method method : EastNearly.class.getDeclaredMethods()) {
            if (Modifier.isPublic(method.getModifiers())) face.put(method.getName(), method);
        }
    }

    /** The document's sections by their headings (of a promise: its number alone), each in one line, without code. */
    private static Map<String, String> readDocument() {
        Map<String, String> sections = new HashMap<>();
        try {
            for (String part : Files.readString(DOCUMENT).split("(?m)^## ")) {
                int end = part.indexOf('\n');
                if (end < 0) continue;
                String heading = part.substring(0, end).replaceFirst(":.*", "");
                // what stands ahead of the first part only sums up what the parts say
                String text = part.substring(end).replaceAll("(?m)^```.*$", " ").replaceFirst("(?s)^.*={8} 1", " ")
                        .replaceAll("={8} \\d", " ").replaceAll("`[^`]*`", " ").replaceAll("\\s+", " ");
                sections.put(heading, text);
            }
        } catch (IOException unreadable) {
            System.out.println("no words are held against the document: " + unreadable);
        }
        return sections;
    }

    /** The tests from here on are of this section of the document. */
    void in(String heading) {
        section = heading;
        if (document.isEmpty()) return;
        due.holds("the document has no section " + heading, document.containsKey(heading));
        unquoted.putIfAbsent(heading, document.getOrDefault(heading, ""));
    }

    /** A test: the words of a sentence, and runs of calls, each on a new object. */
    void says(String words, String... runs) {
        due.holds(section + " \"" + this.words + "\" was not tested", answers > 0);
        this.words = words;
        tests++;
        answers = 0;
        if (!document.isEmpty()) {
            String text = document.getOrDefault(section, "");
            due.holds(section + " does not say \"" + words + "\"", text.contains(words));
            String rest = unquoted.getOrDefault(section, "");
            unquoted.put(section, rest.replaceFirst(Pattern.quote(words), "~"));
        }
        for (String run : runs) run(run);
    }

    void run(String calls) {
        east = new EastNearly();
        for (String call : calls.split(", ")) check(call);
    }

    void is(String what, long got, long want) {
        answers++;
        due.is(section + " \"" + words + "\": " + what, got, want);
    }

    private void check(String call) {
        String[] sides = call.split(" = ", 2);
        long got = answer(sides[0].split(" "), call);
        if (sides.length == 1) {
            due.holds(section + " \"" + words + "\": " + call + " answered " + got, got >= 0 || got == -9);
        } else if (sides[1].equals("?")) {
            answers++;
        } else {
            is(sides[0], got, number(sides[1]));
        }
    }

    private static long number(String word) {
        Long named = NAMES.get(word);
        return named != null ? named : Long.decode(word);
    }

    private long answer(String[] call, String whole) {
        if (call[0].equals("text")) return write(call[1]);
        if (call[0].equals("read")) {
            east.wipe();
            write(call[1]);
            return east.book();
        }
        Method method = face.get(call[0]);
        if (method == null || method.getParameterCount() != call.length - 1) throw new IllegalArgumentException(whole);
        Object[] arguments = new Object[call.length - 1];
        for (int i = 0; i < arguments.length; i++) arguments[i] = argument(method.getParameterTypes()[i], call[i + 1]);
        try {
            return ((Number) method.invoke(east, arguments)).longValue();
        } catch (InvocationTargetException | IllegalAccessException thrown) {
            due.holds(whole + " threw " + thrown.getCause(), false);
            return 0;
        }
    }

    private static Object argument(Class<?> type, String word) {
        if (type == boolean.class) return Boolean.valueOf(word);
        if (type == long.class) return number(word);
        return Math.toIntExact(number(word));
    }

    private int write(String text) {
        int length = 0;
        for (int i = 0; i < text.length(); i++) length = east.write(1, text.charAt(i));
        return length;
    }

    /** The call once for each of the numbers, which stands where the # is. */
    static String each(String call, long... numbers) {
        StringBuilder calls = new StringBuilder();
        for (long number : numbers) {
            if (calls.length() > 0) calls.append(", ");
            calls.append(call.replace("#", String.valueOf(number)));
        }
        return calls.toString();
    }

    /** The call for each number 0, 1, .. of this many. */
    static String count(int many, String call) {
        long[] numbers = new long[many];
        for (int i = 0; i < many; i++) numbers[i] = i;
        return each(call, numbers);
    }

    /** Ends the test: all words of the sections that were told must be quoted, as far as they name a boundary. */
    void end() {
        due.holds(section + " \"" + words + "\" was not tested", answers > 0);
        for (Map.Entry<String, String> rest : unquoted.entrySet()) {
            Matcher boundary = BOUNDARY.matcher(rest.getValue());
            boolean found = boundary.find();
            due.holds(rest.getKey() + ": no test quotes \"" + (found ? boundary.group() : "") + "\" of what is left: "
                    + rest.getValue(), !found);
        }
        System.out.println(name + ": " + tests + " sentences");
        due.end(name);
    }
}
