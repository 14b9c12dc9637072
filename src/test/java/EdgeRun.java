import java.lang.reflect.InvocationTargetException;
import java.lang.reflect.Method;
import java.util.Arrays;
import java.util.List;
import java.util.regex.Matcher;
import java.util.regex.Pattern;

/** One run of calls on a new object, told by lines as src/test/edges/README.md says. */
final class EdgeRun {
    private static final List<String> FINDINGS = List.of("", "NOTHING", "BEYOND", "UNLIKE", "NOUGHT", "SIZE");
    private static final List<String> REFUSALS = List.of("BAD", "FULL", "STATE", "SPENT");
    private static final int MOST_CALLS = 512;
    private static final Pattern CALL =
        Pattern.compile("(\\w+)\\(([^)]*)\\)(?:\\s*=\\s*(\\S+))?(?:\\s*->\\s*(\\S+))?");
    private static final Pattern WRITE = Pattern.compile("(land|text (\\d)) \"([^\"]*)\"(?:\\s*=\\s*(\\S+))?");
    private static final Pattern FILL = Pattern.compile("fill (\\d):(.*)");
    private static final Pattern IS = Pattern.compile("row (\\d) is(.*)");
    private static final Pattern DAYS = Pattern.compile("days (\\d+): (\\d) (\\d)");
    private static final Pattern TIMES = Pattern.compile("(\\d+) times (\\w+)\\(([^)]*)\\)");
    private static final Pattern DIGEST = Pattern.compile("digest of (.*)");
    private static final Pattern CONSTANT = Pattern.compile("constant (\\w+) is (-?\\d+)");

    private final Check check;
    private PaceBorder x = new PaceBorder();
    private int calls;
    private String place;
    private long[] noted = new long[0];

    EdgeRun(Check check) {
        this.check = check;
    }

    /** How many answers the line tells. */
    int step(String at, String line) {
        place = at;
        Matcher m = CALL.matcher(line);
        if (m.matches()) return call(m);
        m = WRITE.matcher(line);
        if (m.matches()) return write(m);
        m = FILL.matcher(line);
        if (m.matches()) return fill(Integer.parseInt(m.group(1)), numbers(m.group(2)));
        m = IS.matcher(line);
        if (m.matches()) return isRow(Integer.parseInt(m.group(1)), numbers(m.group(2)));
        m = DAYS.matcher(line);
        if (m.matches()) return repeat(Integer.parseInt(m.group(1)), "day", m.group(2) + " " + m.group(3));
        m = TIMES.matcher(line);
        if (m.matches()) return repeat(Integer.parseInt(m.group(1)), m.group(2), m.group(3));
        m = DIGEST.matcher(line);
        if (m.matches()) return isDigest(numbers(m.group(1)));
        m = CONSTANT.matcher(line);
        if (m.matches()) return isConstant(m.group(1), Integer.parseInt(m.group(2)));
        return command(line);
    }

    private int command(String line) {
        switch (line) {
            case "new":
                x = new PaceBorder();
                calls = 0;
                return 0;
            case "note":
                noted = state();
                return 0;
            case "as noted":
                check.due(place + line, Arrays.equals(state(), noted) ? 1 : 0, 1);
                return 1;
            default:
                check.due(place + "a line that tells nothing: " + line, 0, 1);
                return 0;
        }
    }

    private int call(Matcher m) {
        String call = place + m.group().strip();
        int[] with = numbers(m.group(2));
        if (m.group(3) == null && m.group(4) == null) {
            long got = answer(m.group(1), with);
            check.due(call + ", which prepares, was refused", got < 0 ? 1 : 0, 0);
            return 0;
        }
        answerIsDue(call, m.group(1), m.group(3) == null ? "1" : m.group(3), with);
        if (m.group(4) != null) isTold(call, m.group(4));
        return 1;
    }

    private void answerIsDue(String call, String name, String due, int... with) {
        int finding = FINDINGS.indexOf(due);
        if (finding < 1 && !REFUSALS.contains(due)) {
            check.due(call, answer(name, with), number(due));
            return;
        }
        long[] before = state();
        int[] findings = findings();
        long got = answer(name, with);
        if (finding > 0) {
            findings[0] = finding;
            findings[finding]++;
        }
        check.due(call, got, finding > 0 ? PaceBorder.FINDING : number(due));
        check.due(call + ": finding(), findings()", Arrays.equals(findings(), findings) ? 1 : 0, 1);
        check.due(call + ": all else is as it was", Arrays.equals(state(), before) ? 1 : 0, 1);
    }

    private void isTold(String call, String told) {
        int by = told.indexOf('/');
        if (by < 0) {
            check.due(call + " by asked()", x.asked(), number(told));
            return;
        }
        check.due(call + " by upper()", x.upper(), number(told.substring(0, by)));
        check.due(call + " by lower()", x.lower(), number(told.substring(by + 1)));
    }

    private int write(Matcher m) {
        int t = m.group(2) == null ? 0 : Integer.parseInt(m.group(2));
        String text = m.group(3);
        answer("text", t, text.length());
        for (int i = 0; i < text.length(); i++) {
            if (text.charAt(i) != ' ') answer("put", t, i, text.charAt(i));
        }
        if (m.group(4) != null) {
            answerIsDue(place + m.group(), m.group(2) == null ? "land" : "fault", m.group(4), t);
            return 1;
        }
        if (m.group(2) == null) {
            check.due(place + "a LAND is taken", answer("land", 0) > 0 ? 1 : 0, 1);
        }
        return 0;
    }

    private int fill(int r, int[] places) {
        answer("row", r, places.length);
        for (int i = 0; i < places.length; i++) answer("lay", r, i, places[i]);
        return 0;
    }

    private int isRow(int r, int[] places) {
        for (int i = 0; i < places.length; i++) {
            answerIsDue(place + "at(" + r + ", " + i + ")", "at", "1", r, i);
            check.due(place + "place " + i + " of ROW " + r, x.asked(), places[i]);
        }
        answerIsDue(place + "the size of ROW " + r, "at", "BEYOND", r, places.length);
        return 1;
    }

    private int repeat(int times, String name, String with) {
        for (int k = 0; k < times; k++) {
            check.due(place + name + "(), which prepares, was refused", answer(name, numbers(with)) < 0 ? 1 : 0, 0);
        }
        return 0;
    }

    private int isDigest(int[] values) {
        long h = 17;
        for (int v : values) h = 31 * h + v;
        answerIsDue(place + "digest()", "digest", String.valueOf(h));
        return 1;
    }

    private int isConstant(String name, int due) {
        check.due(place + name, number(name), due);
        return 1;
    }

    /** Looked at from outside; these calls are not counted among the run's own. */
    private long[] state() {
        int days = x.count(1);
        long[] state = new long[6 + days + 1];
        state[0] = x.digest();
        state[1] = x.asked();
        state[2] = x.upper();
        state[3] = x.lower();
        state[4] = x.got(0);
        state[5] = x.got(1);
        for (int day = 0; day <= days; day++) state[6 + day] = x.lain(day);
        return state;
    }

    private int[] findings() {
        int[] all = new int[FINDINGS.size()];
        all[0] = x.finding();
        for (int f = 1; f < all.length; f++) all[f] = x.findings(f);
        return all;
    }

    private static int[] numbers(String list) {
        String all = list.replace(',', ' ').strip();
        if (all.isEmpty()) return new int[0];
        return Arrays.stream(all.split("\\s+")).mapToInt(word -> (int) number(word)).toArray();
    }

    private static long number(String word) {
        switch (word) {
            case "BAD": return PaceBorder.BAD;
            case "FULL": return PaceBorder.FULL;
            case "STATE": return PaceBorder.STATE;
            case "SPENT": return PaceBorder.SPENT;
            case "FINDING": return PaceBorder.FINDING;
            case "NONE": return PaceBorder.NONE;
            case "MAX": return Integer.MAX_VALUE;
            case "MIN": return Integer.MIN_VALUE;
            default: return word.length() == 3 && word.startsWith("'") ? word.charAt(1) : Long.parseLong(word);
        }
    }

    private long answer(String name, int... with) {
        calls++;
        check.due(place + "calls of a run beyond " + MOST_CALLS, Math.max(calls, MOST_CALLS), MOST_CALLS);
        Class<?>[] types = new Class<?>[with.length];
        Arrays.fill(types, int.class);
        try {
            Method method = PaceBorder.class.getMethod(name, types);
            return ((Number) method.invoke(x, Arrays.stream(with).boxed().toArray())).longValue();
        } catch (NoSuchMethodException | IllegalAccessException | InvocationTargetException e) {
            check.due(place + name + ": " + e + " " + e.getCause(), 0, 1);
            return 0;
        }
    }
}
