import java.lang.reflect.Method;
import java.lang.reflect.Modifier;
import java.util.ArrayList;
import java.util.HashMap;
import java.util.List;
import java.util.Map;

/**
 * A run of calls on a new meter, told as the issues tell one: "set(1, 7) 1; again(900) 0; bill()".
 * The number behind a call is the answer that is due (a boolean counts 1 or 0); without one any will do.
 * Numbers may be names, with something added: NONE, NO (NONE - 9999999999), LAST (the last TIME), DAY, MAX, MIN.
 * Three calls are the tests' own: samples(u, i, u, i ..) one SAMPLE behind the other; power(u, p, q) four
 * SAMPLES of one PHASE with ACTIVE u * p and REACTIVE u * q; tape(text), whose text ends at the call's end.
 */
final class Run {
    private static final int MOST_CALLS = 512;
    private static final Map<String, Method> FACE = face();
    private static final Map<String, List<Call>> READ = new HashMap<>();
    private static final Map<String, Long> NAMES = Map.of("NONE", -1L, "NO", -10000000000L, "LAST", 2000000000L,
        "DAY", 86400L, "MAX", (long) Integer.MAX_VALUE, "MIN", (long) Integer.MIN_VALUE);

    private record Call(String told, Method method, Object[] args, Long due) {
    }

    private final String sentence;
    private final WorkMeter x = new WorkMeter();
    private int calls;

    private Run(String sentence) {
        this.sentence = sentence;
    }

    /** The sentence is the document's; it is printed with each answer that is not the due one. */
    static Run of(String sentence, String... scripts) {
        return new Run(sentence).go(scripts);
    }

    Run go(String... scripts) {
        for (String script : scripts) {
            for (Call call : READ.computeIfAbsent(script, Run::read)) {
                long got = answer(call);
                if (call.due != null) {
                    Check.due(sentence + ": " + call.told, got, call.due);
                }
            }
        }
        return this;
    }

    /** The answer of one call alone. */
    long ask(String told) {
        return answer(READ.computeIfAbsent(told, Run::read).get(0));
    }

    /** Puts a text on THE TAPE; it may hold any sign 0 to 255. */
    Run tape(String text) {
        for (int k = 0; k < text.length(); k += 20) {
            int[] v = new int[5];
            for (int b = 0; b < 20; b++) {
                v[b / 4] = v[b / 4] << 8 | (k + b < text.length() ? text.charAt(k + b) : 0);
            }
            count();
            x.feed(v[0], v[1], v[2], v[3], v[4]);
        }
        count();
        int fed = (int) x.look(57);
        count();
        x.end(fed - (text.length() + 19) / 20 * 20 + text.length());
        return this;
    }

    // What an object answers beyond its 512th call is free, so no test may look at it.
    private void count() {
        calls++;
        if (calls > MOST_CALLS) {
            Check.due(sentence + ": call " + calls + " is one of the first 512", false, true);
        }
    }

    private long answer(Call call) {
        if (call.method == null) {
            return ownCall(call);
        }
        count();
        try {
            Object got = call.method.invoke(x, call.args);
            return got instanceof Boolean b ? (b ? 1 : 0) : ((Number) got).longValue();
        } catch (ReflectiveOperationException e) {
            throw new IllegalStateException(sentence + ": " + call.told, e);
        }
    }

    private long ownCall(Call call) {
        if (call.told.startsWith("tape(")) {
            tape(call.told.substring(5, call.told.length() - 1));
            return 0;
        }
        int[] v = new int[call.args.length];
        for (int k = 0; k < v.length; k++) {
            v[k] = (int) call.args[k];
        }
        if (call.told.startsWith("power(")) {
            v = new int[] {v[0], v[1], 0, v[2], 0, 0, 0, 0};
        }
        long last = 0;
        for (int k = 0; k < v.length; k += 2) {
            count();
            last = x.sample(v[k], v[k + 1]);
        }
        return last;
    }

    private static Map<String, Method> face() {
        Map<String, Method> face = new HashMap<>();
        for (Method m : WorkMeter.class.getDeclaredMethods()) {
            if (Modifier.isPublic(m.getModifiers())) {
                face.put(m.getName(), m);
            }
        }
        return face;
    }

    private static List<Call> read(String script) {
        List<Call> calls = new ArrayList<>();
        if (script.startsWith("tape(")) {
            calls.add(new Call(script, null, new Object[0], null));
            return calls;
        }
        for (String part : script.split(";")) {
            if (!part.isBlank()) {
                calls.add(readCall(part.strip()));
            }
        }
        return calls;
    }

    private static Call readCall(String told) {
        int opens = told.indexOf('(');
        int closes = told.indexOf(')');
        String name = told.substring(0, opens);
        String inside = told.substring(opens + 1, closes).strip();
        String behind = told.substring(closes + 1).strip();
        String[] words = inside.isEmpty() ? new String[0] : inside.split(",");
        Object[] args = new Object[words.length];
        for (int k = 0; k < words.length; k++) {
            String word = words[k].strip();
            args[k] = word.equals("true") || word.equals("false") ? (Object) word.equals("true") : (Object) (int) number(word);
        }
        Method method = FACE.get(name);
        if (method == null && !name.equals("samples") && !name.equals("power")) {
            throw new IllegalArgumentException("no such call: " + told);
        }
        return new Call(told.substring(0, closes + 1), method, args, behind.isEmpty() ? null : number(behind));
    }

    private static long number(String word) {
        int letters = 0;
        while (letters < word.length() && Character.isUpperCase(word.charAt(letters))) {
            letters++;
        }
        String rest = word.substring(letters);
        long sum = letters == 0 ? 0 : NAMES.get(word.substring(0, letters));
        return rest.isEmpty() ? sum : sum + Long.parseLong(rest);
    }
}
