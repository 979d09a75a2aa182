import java.io.IOException;
import java.lang.reflect.Constructor;
import java.lang.reflect.Field;
import java.lang.reflect.Member;
import java.lang.reflect.Method;
import java.lang.reflect.Modifier;
import java.nio.file.Files;
import java.nio.file.Path;
import java.util.ArrayDeque;
import java.util.ArrayList;
import java.util.Arrays;
import java.util.Deque;
import java.util.List;
import java.util.Map;
import java.util.Set;
import java.util.TreeMap;
import java.util.TreeSet;
import java.util.regex.Matcher;
import java.util.regex.Pattern;

/** The rules of LANGUAGE.md that can be seen in the file's text or in the class itself. */
public final class LanguageTest {
    private static final String[] FACE = {
        "hole 3", "turn 2", "bucket 2", "of 2", "wanted 2", "flow 1", "terms 2", "feed 5", "end 1", "row 0", "peas 0",
        "law 0", "orders 0", "fault 0", "stopped 0", "force 1", "block 2", "ream 2", "set 2", "pass 0", "undo 0", "when 2",
        "placed 2", "seen 2", "forget 0", "settings 1", "look 1", "turned 1", "cleared 3", "drought 1", "luck 1",
        "together 2", "settled 1", "few 2", "worth 1", "years 2", "drawn 2", "image 1", "back 1", "count 1", "status 0"};
    private static final String[] FORBIDDEN = {
        "throw", "throws", "try", "catch", "finally", "synchronized", "assert", "package", "protected", "volatile", "native",
        "transient", "var", "yield", "instanceof", "System\\.(?!arraycopy)\\w+", "Math\\.\\w+Exact", "->", "::", "\\+ \"", "\" \\+",
        "hashCode", "toString", "Random", "Thread", "Object", "String\\[\\]", "@\\w+"};
    private static final Set<String> LIBRARY = Set.of("Arrays.fill", "Arrays.copyOf", "Math.min", "Math.max", "Math.floorMod", "Integer.bitCount", "Integer.MIN_VALUE", "System.arraycopy");
    private static final Set<String> RECURSIVE = Set.of("readTest", "readBoth", "readPlain", "readTestInBrackets", "readSum", "readTerm", "readPart", "readSumInBrackets");
    private static final Trial t = new Trial("LanguageTest");

    public static void main(String[] args) throws IOException {
        face();
        classes();
        text(Files.readString(Path.of("src/main/java/NightColander.java")));
        t.end();
    }

    private static void face() {
        Class<?> c = NightColander.class;
        t.due("rule 1: public and final", c.getModifiers(), Modifier.PUBLIC | Modifier.FINAL);
        Set<String> open = new TreeSet<>();
        Set<String> names = new TreeSet<>();
        for (Method m : c.getDeclaredMethods()) {
            if (!Modifier.isPrivate(m.getModifiers())) {
                open.add(m.getName() + " " + m.getParameterCount());
                names.add(m.getName());
                t.due("rule 1: public " + m, m.getModifiers(), Modifier.PUBLIC);
                boolean isLong = m.getName().equals("few");
                t.due("the answer of " + m, m.getReturnType() == (isLong ? long.class : int.class) ? 1 : 0, 1);
            }
        }
        t.due("rule 1: the face is " + open, open.equals(new TreeSet<>(Arrays.asList(FACE))) ? 1 : 0, 1);
        for (Class<?> one : all()) {
            for (Method m : one.getDeclaredMethods()) {
                boolean namesake = one != NightColander.class || Modifier.isPrivate(m.getModifiers());
                t.due("rule 1: name of " + m, namesake && names.contains(m.getName()) ? 1 : 0, 0);
                t.due("rule 11: parameters of " + m, Math.max(7, m.getParameterCount()), 7);
            }
        }
        for (Field f : c.getDeclaredFields()) {
            t.due("rule 1: " + f, !Modifier.isPrivate(f.getModifiers()) && !f.getName().equals("NONE") ? 1 : 0, 0);
        }
        Constructor<?>[] made = c.getDeclaredConstructors();
        t.due("rule 1: constructors", made.length, 1);
        t.due("rule 1: constructor", made[0].getModifiers() == Modifier.PUBLIC && made[0].getParameterCount() == 0 ? 1 : 0, 1);
    }

    private static List<Class<?>> all() {
        List<Class<?>> all = new ArrayList<>(Arrays.asList(NightColander.class.getDeclaredClasses()));
        all.add(NightColander.class);
        return all;
    }

    private static void classes() {
        t.due("rule 11: classes", Math.max(12, all().size()), 12);
        for (Class<?> c : all()) {
            t.due("rule 2: static " + c, c == NightColander.class || Modifier.isStatic(c.getModifiers()) ? 1 : 0, 1);
            int fields = 0;
            for (Field f : c.getDeclaredFields()) {
                if (Modifier.isStatic(f.getModifiers())) {
                    t.due("rule 5: final " + f, Modifier.isFinal(f.getModifiers()) ? 1 : 0, 1);
                    t.due("rule 5: kind of " + f, Set.of("int", "long", "int[]", "String").contains(f.getType().getSimpleName()) ? 1 : 0, 1);
                } else {
                    fields++;
                }
            }
            t.due("rule 11: fields of " + c, Math.max(20, fields), 20);
            for (Member m : c.getDeclaredMethods()) {
                t.due("rule 1: made by the compiler " + m, m.isSynthetic() ? 1 : 0, 0);
            }
        }
    }

    private static void text(String whole) {
        String code = whole.replaceAll("(?s)/\\*.*?\\*/", "").replaceAll("//[^\n]*", "");
        String bare = code.replaceAll("\"[^\"\n]*\"", "\"\"");
        for (String word : FORBIDDEN) {
            boolean isWord = Character.isLetter(word.charAt(0));
            String from = isWord ? bare.replace("import java.util.Arrays;", "") : code;
            Matcher m = Pattern.compile(isWord ? "\\b" + word + "\\b" : word).matcher(from);
            t.due("rules 2, 4, 6: " + word, m.find() ? 1 : 0, 0);
        }
        Matcher imports = Pattern.compile("import ([^;]*);").matcher(code);
        while (imports.find()) {
            t.due("rule 4: import " + imports.group(1), imports.group(1).equals("java.util.Arrays") ? 1 : 0, 1);
        }
        Matcher calls = Pattern.compile("\\b(?:Arrays|Math|Integer|Long|System)\\.\\w+").matcher(bare.replace("import java.util.Arrays;", ""));
        while (calls.find()) {
            t.due("rule 4: " + calls.group(), LIBRARY.contains(calls.group()) ? 1 : 0, 1);
        }
        for (int i = 0; i < whole.length(); i++) {
            char one = whole.charAt(i);
            t.due("rule 4: sign at " + i, one == '\n' || (one >= 32 && one < 127) ? 1 : 0, 1);
        }
        lengths(whole.split("\n"));
        chains(bare.split("\n"));
    }

    private static void lengths(String[] lines) {
        int start = -1;
        for (int i = 0; i < lines.length; i++) {
            if (lines[i].matches(" {4}( {4})?[A-Za-z].*\\) \\{")) {
                start = i;
            } else if (lines[i].matches(" {4}( {4})?\\}") && start >= 0) {
                t.due("rule 11: length of " + lines[start].trim(), Math.max(60, i - start), 60);
                start = -1;
            }
        }
    }

    // Methods by their names alone: those of one name count as one, so chains come out too long rather than too short.
    private static void chains(String[] lines) {
        Map<String, Set<String>> calls = callsByName(lines);
        Set<String> recursive = new TreeSet<>();
        for (String name : calls.keySet()) {
            if (reach(calls, name).contains(name)) {
                recursive.add(name);
            }
        }
        t.due("rule 8: recursion by " + recursive, recursive.equals(RECURSIVE) ? 1 : 0, 1);
        for (String one : FACE) {
            String name = one.substring(0, one.indexOf(' '));
            t.due("the text of " + name + " was found", calls.containsKey(name) ? 1 : 0, 1);
        }
        for (String name : calls.keySet()) {
            List<String> chain = longest(calls, name, recursive, new TreeMap<>());
            t.due("rule 11: chain " + chain, Math.max(8, chain.size()), 8);
        }
    }

    private static Map<String, Set<String>> callsByName(String[] lines) {
        Map<String, Set<String>> calls = new TreeMap<>();
        Pattern head = Pattern.compile(" {4}(?: {4})?(?:[a-zA-Z\\[\\]]+ )*([a-zA-Z]+)\\([^()]*\\) \\{");
        for (String line : lines) {
            Matcher m = head.matcher(line);
            if (m.matches()) {
                calls.putIfAbsent(m.group(1), new TreeSet<>());
            }
        }
        String within = "";
        for (String line : lines) {
            Matcher m = head.matcher(line);
            if (m.matches()) {
                within = m.group(1);
            } else if (line.matches(" {4}(?: {4})?\\}")) {
                within = "";
            } else if (!within.isEmpty()) {
                Matcher call = Pattern.compile("(?<!Math\\.|Arrays\\.|System\\.|Integer\\.)\\b([a-zA-Z]+)\\(").matcher(line);
                while (call.find()) {
                    calls.get(within).add(call.group(1));
                }
                calls.get(within).retainAll(calls.keySet());
            }
        }
        return calls;
    }

    private static Set<String> reach(Map<String, Set<String>> calls, String from) {
        Set<String> met = new TreeSet<>();
        Deque<String> open = new ArrayDeque<>(calls.get(from));
        while (!open.isEmpty()) {
            String one = open.pop();
            if (met.add(one)) {
                open.addAll(calls.get(one));
            }
        }
        return met;
    }

    private static List<String> longest(Map<String, Set<String>> calls, String from, Set<String> recursive, Map<String, List<String>> known) {
        if (known.containsKey(from)) {
            return known.get(from);
        }
        // Within a recursion the way goes on by the calls that leave it.
        Set<String> next = new TreeSet<>(calls.get(from));
        if (recursive.contains(from)) {
            for (String one : reach(calls, from)) {
                next.addAll(recursive.contains(one) ? calls.get(one) : Set.of());
            }
            next.removeAll(recursive);
        }
        List<String> best = List.of();
        for (String one : next) {
            List<String> chain = longest(calls, one, recursive, known);
            best = chain.size() > best.size() ? chain : best;
        }
        List<String> whole = new ArrayList<>(best);
        if (!recursive.contains(from)) {
            whole.add(0, from);
        }
        known.put(from, whole);
        return whole;
    }
}
