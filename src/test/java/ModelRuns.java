import java.lang.reflect.InvocationTargetException;
import java.lang.reflect.Method;
import java.util.ArrayDeque;
import java.util.ArrayList;
import java.util.Arrays;
import java.util.BitSet;
import java.util.Comparator;
import java.util.HashMap;
import java.util.List;
import java.util.Map;
import java.util.NoSuchElementException;
import java.util.TreeSet;
import java.util.regex.Matcher;
import java.util.regex.Pattern;

/**
 * Runs of calls by a fixed sequence of numbers, each answer compared with that of a plain model that follows the
 * document's words: bounds by Bellman and Ford, times unit by unit, texts by a regular expression.
 */
public final class ModelRuns {
    private static final int RUNS = 2500;
    /** As many as an object is used for. */
    private static final int CALLS = 512;

    /** Every method with the kinds of its arguments, see argument(); a number tells how often it is called. */
    private static final String[] TABLE = {
        "30 add tiuvbe", "6 remove s", "12 setParent su", "8 setTimes sbe", "8 mark sy", "1 clear",
        "2 spanCount", "6 span sw", "8 offset v", "6 freedom v", "3 pairs y", "6 isAccepted s", "6 isInside s",
        "6 corrected sy", "6 explain s", "6 root s", "6 depth s", "6 below tn", "6 childCount tn", "8 child tnk",
        "4 roots ty", "8 rootAt tk", "5 missing tpy", "3 cutCount", "6 segments tn", "14 segment tnkw",
        "8 criticalTime s", "8 criticalAt tnm", "8 selfTime s", "6 parallel sm", "6 isCause s", "6 cause tk",
        "3 errorShare t", "12 service vw", "6 quantile vq", "4 extent t", "5 activity tv", "4 busiest t",
        "12 link ss", "3 unlink l", "2 linkCount", "6 linkDelay l", "6 linkedTraces t", "5 bookmark hatn",
        "6 bookmarked ha", "2 append c", "2 read", "2 errorPosition", "10 describe sk", "10 undo", "2 save",
        "2 restore",
    };

    private static long state = 1;
    private static int range = 10;
    private static int times = 50;
    private static int services = 3;
    private static int traces = 2;
    private static int wrong = 0;

    private static int random(int limit) {
        state = state * 6364136223846793005L + 1442695040888963407L;
        return (int) ((state >>> 33) % limit);
    }

    public static void main(String[] args) throws Exception {
        List<String> urn = new ArrayList<>();
        Map<String, Method[]> methods = new HashMap<>();
        for (String row : TABLE) {
            String[] parts = row.split(" ");
            for (int k = 0; k < Integer.parseInt(parts[0]); k++) {
                urn.add(row);
            }
            for (Method method : TraceAssembler.class.getDeclaredMethods()) {
                if (method.getName().equals(parts[1])) {
                    Method same = Model.class.getDeclaredMethod(parts[1], method.getParameterTypes());
                    methods.put(parts[1], new Method[] {method, same});
                }
            }
        }
        if (methods.size() != 52) {
            throw new IllegalStateException("methods: " + methods.size());
        }
        Map<String, Integer> answers = new HashMap<>();
        for (int run = 0; run < RUNS && wrong < 10; run++) {
            oneRun(run, urn, methods, answers);
        }
        lookForGaps(answers);
        System.out.println("ModelRuns: " + RUNS + " runs of " + CALLS + " calls, " + wrong + " wrong answers");
        if (wrong != 0) {
            System.exit(1);
        }
    }

    /** Every method must have answered, and every exception that a method names must have come up. */
    private static void lookForGaps(Map<String, Integer> answers) {
        for (Method method : TraceAssembler.class.getDeclaredMethods()) {
            if (!java.lang.reflect.Modifier.isPublic(method.getModifiers())) {
                continue;
            }
            if (!answers.containsKey(method.getName() + " ok")) {
                System.out.println("never answered: " + method.getName());
                wrong++;
            }
            for (Class<?> thrown : method.getExceptionTypes()) {
                if (!answers.containsKey(method.getName() + " " + thrown)) {
                    System.out.println("never came up: " + method.getName() + " " + thrown);
                    wrong++;
                }
            }
        }
    }

    private static void oneRun(int run, List<String> urn, Map<String, Method[]> methods,
            Map<String, Integer> answers) throws Exception {
        state = run * 7919L + 17;
        random(2);
        range = new int[] {6, 12, 45, 100}[random(4)];
        times = new int[] {8, 60, 60, 60, 700, 9999}[random(6)];
        services = 1 + random(8);
        traces = 1 + random(4);
        TraceAssembler x = new TraceAssembler();
        Model model = new Model();
        StringBuilder log = new StringBuilder();
        int fill = random(3) == 0 ? 38 : 8;
        String queue = "";
        for (int call = 0; call < CALLS; call++) {
            String row = urn.get(random(urn.size()));
            if (call < fill) {
                row = "30 add tiuvbe";
            }
            if (queue.isEmpty() && random(60) == 0) {
                queue = text();
            }
            Object[] values;
            String name;
            if (!queue.isEmpty()) {
                name = queue.charAt(0) == '~' ? "read" : "append";
                values = name.equals("read") ? new Object[0] : new Object[] {queue.charAt(0)};
                queue = queue.substring(1);
            } else {
                String[] parts = row.split(" ");
                name = parts[1];
                values = arguments(parts.length > 2 ? parts[2] : "", model);
            }
            Method[] both = methods.get(name);
            Object got = answer(both[0], x, values);
            Object want = answer(both[1], model, values);
            answers.merge(name + (want instanceof Class ? " " + want : " ok"), 1, Integer::sum);
            log.append(name).append(Arrays.toString(values)).append(" = ").append(got).append('\n');
            if (!got.equals(want)) {
                wrong++;
                System.out.println("run " + run + ", call " + call + ": due is " + want + "\n" + log);
                return;
            }
        }
    }

    private static Object answer(Method method, Object target, Object[] values) throws Exception {
        try {
            return method.invoke(target, values);
        } catch (InvocationTargetException e) {
            Throwable cause = e.getCause();
            if ("/ by zero".equals(cause.getMessage())) {
                return "a division by zero";
            }
            return cause.getClass();
        }
    }

    private static Object[] arguments(String kinds, Model model) {
        Object[] values = new Object[kinds.length()];
        int begin = 0;
        for (int k = 0; k < values.length; k++) {
            values[k] = argument(kinds.charAt(k), model);
            if (kinds.charAt(k) == 'b') {
                begin = (Integer) values[k];
            }
            if (kinds.charAt(k) == 'e' && random(12) != 0) {
                values[k] = Math.min(9999, begin + random(times));
            }
        }
        return values;
    }

    private static Object argument(char kind, Model model) {
        if (kind == 'y') {
            return random(2) == 0;
        }
        if (kind == 'c') {
            return (char) random(140);
        }
        if (random(60) == 0) {
            int[] odd = {-1, -2, 4, 8, 40, 100, 999, 1000, 1100, 9999, 10000, Integer.MIN_VALUE, Integer.MAX_VALUE};
            return odd[random(odd.length)];
        }
        boolean hasSpans = !model.now.spans.isEmpty();
        switch (kind) {
            case 't':
                return random(traces);
            case 'i':
                return random(range);
            case 'u':
                return random(6) == 0 ? -1 : random(range);
            case 'v':
                return random(services);
            case 's':
                return hasSpans && random(20) != 0 ? model.now.spans.get(random(model.now.spans.size())).id
                        : random(range);
            case 'n':
                return random(5) == 0 ? 1000 + random(range) : argument('s', model);
            case 'p':
                return 1000 + random(range);
            case 'b':
            case 'e':
                return random(times);
            case 'm':
                return random(2 * times) - times / 2;
            case 'k':
                return random(3) == 0 ? random(30) : random(4) - (random(9) == 0 ? 2 : 0);
            case 'w':
                return random(7) - (random(9) == 0 ? 1 : 0);
            case 'q':
                return random(101);
            case 'l':
                return random(random(2) == 0 ? 4 : 31);
            case 'h':
                return random(2);
            case 'a':
                return random(4);
            default:
                throw new IllegalStateException("kind " + kind);
        }
    }

    /** A text, often a correct one; the tilde stands for the call of read. */
    private static String text() {
        StringBuilder text = new StringBuilder();
        int entries = 1 + random(4);
        for (int k = 0; k < entries; k++) {
            int begin = random(times);
            int end = random(15) == 0 ? random(times) : begin + random(times);
            text.append(random(traces)).append('/').append(zeros(random(range), 2)).append('<');
            text.append(random(3) == 0 ? "-" : zeros(random(range), 2)).append('@').append(random(services));
            text.append(':').append(zeros(begin, 4)).append('-').append(zeros(end, 4));
            text.append(random(3) == 0 ? "!" : "").append(';');
        }
        if (random(3) == 0) {
            int at = random(text.length());
            char sign = "0123456789/<@:-!; x".charAt(random(19));
            switch (random(4)) {
                case 0:
                    text.setCharAt(at, sign);
                    break;
                case 1:
                    text.deleteCharAt(at);
                    break;
                case 2:
                    text.insert(at, sign);
                    break;
                default:
                    text.setLength(at);
            }
        }
        if (random(8) == 0) {
            text.append("0/1<2@3:4-5;0/1<2@3:4-5;0/1<2@3:4-5;0/1<2@3:4-5;0/1<2@3:4-5;0/1<2@3:4-5;0/1<2@3:4-5;");
        }
        return text.append('~').toString();
    }

    private static String zeros(int number, int most) {
        String text = Integer.toString(number);
        while (text.length() < most && random(4) == 0) {
            text = "0" + text;
        }
        return text;
    }

    private static final class Span {
        int trace;
        int id;
        int parent;
        int service;
        int begin;
        int end;
        boolean isError;

        Span copy() {
            Span other = new Span();
            other.trace = trace;
            other.id = id;
            other.parent = parent;
            other.service = service;
            other.begin = begin;
            other.end = end;
            other.isError = isError;
            return other;
        }
    }

    private static final class State {
        final List<Span> spans = new ArrayList<>();
        final List<int[]> links = new ArrayList<>();

        State copy() {
            State other = new State();
            for (Span span : spans) {
                other.spans.add(span.copy());
            }
            for (int[] link : links) {
                other.links.add(link.clone());
            }
            return other;
        }
    }

    /** The public face again, in the plainest words. */
    static final class Model {
        private static final Pattern TEXT =
                Pattern.compile("([0-3]/[0-9]{1,2}<([0-9]{1,2}|-)@[0-7]:[0-9]{1,4}-[0-9]{1,4}!?;)+");
        private static final Pattern ENTRY =
                Pattern.compile("([0-3])/([0-9]+)<([0-9]+|-)@([0-7]):([0-9]+)-([0-9]+)(!?);");
        /** The bit of the time 0, above all negative corrected times. */
        private static final int ZERO = 100000;
        State now = new State();
        State kept = null;
        final ArrayDeque<State> past = new ArrayDeque<>();
        final int[][] bookmarks = new int[8][];
        String input = "";
        int position = -1;
        /** What follows from the state, forgotten at each change. */
        int[] offsets = null;
        int[] choices = null;
        Map<Integer, Boolean> verdicts = null;

        private void forget() {
            offsets = null;
        }

        private void change() {
            past.addLast(now.copy());
            if (past.size() > 8) {
                past.removeFirst();
            }
            forget();
        }

        private static void in(int number, int limit) {
            if (number < 0 || number >= limit) {
                throw new IndexOutOfBoundsException();
            }
        }

        private static void argumentIn(int number, int least, int greatest) {
            if (number < least || number > greatest) {
                throw new IllegalArgumentException();
            }
        }

        private Span get(int id) {
            for (Span span : now.spans) {
                if (span.id == id) {
                    return span;
                }
            }
            return null;
        }

        private Span need(int id) {
            Span span = get(id);
            if (span == null) {
                throw new IndexOutOfBoundsException();
            }
            return span;
        }

        private Span present(Span span) {
            Span parent = get(span.parent);
            return parent == null || parent == span || parent.trace != span.trace ? null : parent;
        }

        int clear() {
            int count = now.spans.size();
            now = new State();
            past.clear();
            forget();
            return count;
        }

        int add(int trace, int id, int parent, int service, int begin, int end) {
            argumentIn(trace, 0, 3);
            argumentIn(id, 0, 99);
            argumentIn(parent, -1, 99);
            argumentIn(service, 0, 7);
            argumentIn(begin, 0, 9999);
            argumentIn(end, begin, 9999);
            if (now.spans.size() == 40 || get(id) != null) {
                throw new IllegalStateException();
            }
            change();
            put(trace, id, parent, service, begin, end, false);
            return now.spans.size();
        }

        private void put(int trace, int id, int parent, int service, int begin, int end, boolean isError) {
            Span span = new Span();
            span.trace = trace;
            span.id = id;
            span.parent = parent;
            span.service = service;
            span.begin = begin;
            span.end = end;
            span.isError = isError;
            now.spans.add(span);
        }

        int remove(int id) {
            need(id);
            change();
            now.spans.removeIf(span -> span.id == id);
            now.links.removeIf(link -> link[0] == id || link[1] == id);
            return now.spans.size();
        }

        int setParent(int id, int parent) {
            Span span = need(id);
            argumentIn(parent, -1, 99);
            change();
            int before = span.parent;
            span.parent = parent;
            return before;
        }

        int setTimes(int id, int begin, int end) {
            Span span = need(id);
            argumentIn(begin, 0, 9999);
            argumentIn(end, begin, 9999);
            change();
            int before = span.end - span.begin;
            span.begin = begin;
            span.end = end;
            return before;
        }

        boolean mark(int id, boolean isError) {
            Span span = need(id);
            change();
            boolean before = span.isError;
            span.isError = isError;
            return before;
        }

        int spanCount() {
            return now.spans.size();
        }

        int span(int id, int what) {
            Span span = need(id);
            argumentIn(what, 0, 5);
            return new int[] {span.trace, span.parent, span.service, span.begin, span.end,
                now.spans.indexOf(span)}[what];
        }

        /** Each demand {a, b, w}: the offset of a minus that of b is at most w; number 8 is a fixed 0. */
        private static long[] farthest(List<int[]> demands, int from) {
            long[] most = new long[9];
            Arrays.fill(most, Long.MAX_VALUE);
            most[from] = 0;
            for (int round = 0; round < 9; round++) {
                for (int[] demand : demands) {
                    if (most[demand[1]] != Long.MAX_VALUE) {
                        most[demand[0]] = Math.min(most[demand[0]], most[demand[1]] + demand[2]);
                    }
                }
            }
            return most;
        }

        private static boolean canHold(List<int[]> demands) {
            long[] offsets = new long[9];
            for (int round = 0; round < 9; round++) {
                for (int[] demand : demands) {
                    offsets[demand[0]] = Math.min(offsets[demand[0]], offsets[demand[1]] + demand[2]);
                }
            }
            for (int[] demand : demands) {
                if (offsets[demand[0]] - offsets[demand[1]] > demand[2]) {
                    return false;
                }
            }
            return true;
        }

        private void solve() {
            if (offsets != null) {
                return;
            }
            offsets = new int[8];
            choices = new int[8];
            verdicts = new HashMap<>();
            List<int[]> demands = new ArrayList<>();
            for (Span span : now.spans) {
                Span parent = present(span);
                if (parent != null && parent.service != span.service) {
                    List<int[]> more = new ArrayList<>(demands);
                    more.add(new int[] {span.service, parent.service, parent.end - span.end});
                    more.add(new int[] {parent.service, span.service, span.begin - parent.begin});
                    boolean fits = canHold(more);
                    verdicts.put(span.id, fits);
                    demands = fits ? more : demands;
                }
            }
            for (int service = 0; service < 8; service++) {
                long greatest = farthest(demands, 8)[service];
                List<int[]> back = new ArrayList<>();
                for (int[] demand : demands) {
                    back.add(new int[] {demand[1], demand[0], demand[2]});
                }
                long least = farthest(back, 8)[service];
                if (least != Long.MAX_VALUE && greatest != Long.MAX_VALUE) {
                    offsets[service] = (int) Math.floor((greatest - least) / 2.0);
                    choices[service] = (int) (greatest + least + 1);
                }
                demands.add(new int[] {service, 8, offsets[service]});
                demands.add(new int[] {8, service, -offsets[service]});
            }
        }

        int offset(int service) {
            in(service, 8);
            solve();
            return offsets[service];
        }

        int freedom(int service) {
            in(service, 8);
            solve();
            if (choices[service] == 0) {
                throw new NoSuchElementException();
            }
            return choices[service];
        }

        int pairs(boolean isAccepted) {
            solve();
            int count = 0;
            for (boolean verdict : verdicts.values()) {
                count += verdict == isAccepted ? 1 : 0;
            }
            return count;
        }

        boolean isAccepted(int id) {
            need(id);
            solve();
            if (!verdicts.containsKey(id)) {
                throw new NoSuchElementException();
            }
            return verdicts.get(id);
        }

        boolean isInside(int id) {
            Span span = need(id);
            Span parent = present(span);
            if (parent == null) {
                throw new NoSuchElementException();
            }
            return begin(span) >= begin(parent) && end(span) <= end(parent);
        }

        private int begin(Span span) {
            solve();
            return span.begin + offsets[span.service];
        }

        private int end(Span span) {
            solve();
            return span.end + offsets[span.service];
        }

        int corrected(int id, boolean isEnd) {
            Span span = need(id);
            return isEnd ? end(span) : begin(span);
        }

        int explain(int id) {
            Span span = need(id);
            if (span.parent == -1) {
                return 0;
            }
            if (present(span) == null) {
                return 2;
            }
            // on a cycle: the ids that are met until the span comes again
            TreeSet<Integer> met = new TreeSet<>();
            Span at = span;
            while (at != null && met.add(at.id)) {
                at = present(at);
            }
            return at == span && met.first() == id ? 3 : 1;
        }

        /** The number of the node above a span, -1 for a root. */
        private int over(Span span) {
            int kind = explain(span.id);
            return kind == 1 ? span.parent : kind == 2 ? 1000 + span.parent : -1;
        }

        int root(int id) {
            Span span = need(id);
            int over = over(span);
            return over == -1 ? id : over >= 1000 ? over : root(over);
        }

        int depth(int id) {
            int over = over(need(id));
            return over == -1 ? 0 : over >= 1000 ? 1 : 1 + depth(over);
        }

        private List<Span> childrenOf(int trace, int node) {
            List<Span> children = new ArrayList<>();
            for (Span span : now.spans) {
                if (span.trace == trace && over(span) == node) {
                    children.add(span);
                }
            }
            children.sort(Comparator.comparingInt((Span span) -> begin(span)).thenComparingInt(span -> span.id));
            return children;
        }

        private void needNode(int trace, int node) {
            in(trace, 4);
            if (node < 0) {
                throw new NoSuchElementException();
            }
            Span span = get(node);
            if (node >= 1000 ? childrenOf(trace, node).isEmpty() : span == null || span.trace != trace) {
                throw new NoSuchElementException();
            }
        }

        int below(int trace, int node) {
            needNode(trace, node);
            int count = 0;
            for (Span child : childrenOf(trace, node)) {
                count += 1 + below(trace, child.id);
            }
            return count;
        }

        int childCount(int trace, int node) {
            needNode(trace, node);
            return childrenOf(trace, node).size();
        }

        int child(int trace, int node, int index) {
            needNode(trace, node);
            return at(childrenOf(trace, node), index).id;
        }

        private static <T> T at(List<T> list, int index) {
            if (index < 0 || index >= list.size()) {
                throw new NoSuchElementException();
            }
            return list.get(index);
        }

        private List<Integer> rootsOf(int trace) {
            in(trace, 4);
            TreeSet<Integer> roots = new TreeSet<>();
            for (Span span : now.spans) {
                if (span.trace == trace) {
                    roots.add(root(span.id));
                }
            }
            return new ArrayList<>(roots);
        }

        int roots(int trace, boolean isPlaceholder) {
            int count = 0;
            for (int root : rootsOf(trace)) {
                count += root >= 1000 == isPlaceholder ? 1 : 0;
            }
            return count;
        }

        int rootAt(int trace, int index) {
            return at(rootsOf(trace), index);
        }

        private int nodeTime(int trace, int node, boolean isEnd) {
            if (node < 1000) {
                return corrected(node, isEnd);
            }
            TreeSet<Integer> all = new TreeSet<>();
            for (Span child : childrenOf(trace, node)) {
                all.add(corrected(child.id, isEnd));
            }
            return isEnd ? all.last() : all.first();
        }

        int missing(int trace, int placeholder, boolean isEnd) {
            in(trace, 4);
            if (placeholder < 1000) {
                throw new NoSuchElementException();
            }
            needNode(trace, placeholder);
            return nodeTime(trace, placeholder, isEnd);
        }

        int cutCount() {
            int count = 0;
            for (Span span : now.spans) {
                count += explain(span.id) == 3 ? 1 : 0;
            }
            return count;
        }

        private List<int[]> pathOf(int trace, int node, int from, int to) {
            List<int[]> segments = new ArrayList<>();
            List<Span> children = childrenOf(trace, node);
            int t = to;
            while (t > from) {
                int top = t;
                List<Span> found = new ArrayList<>();
                for (Span child : children) {
                    if (Math.min(end(child), top) > Math.max(begin(child), from)) {
                        found.add(child);
                    }
                }
                if (found.isEmpty()) {
                    segments.add(0, new int[] {node, from, t});
                    break;
                }
                found.sort(Comparator.comparingInt((Span child) -> -Math.min(end(child), top))
                        .thenComparingInt(child -> Math.max(begin(child), from))
                        .thenComparingInt(child -> child.id));
                Span child = found.get(0);
                int cutBegin = Math.max(begin(child), from);
                int cutEnd = Math.min(end(child), t);
                if (cutEnd < t) {
                    segments.add(0, new int[] {node, cutEnd, t});
                }
                segments.addAll(0, pathOf(trace, child.id, cutBegin, cutEnd));
                t = cutBegin;
            }
            return segments;
        }

        private List<int[]> pathOf(int trace, int node) {
            needNode(trace, node);
            return pathOf(trace, node, nodeTime(trace, node, false), nodeTime(trace, node, true));
        }

        int segments(int trace, int node) {
            return pathOf(trace, node).size();
        }

        int segment(int trace, int node, int index, int what) {
            in(trace, 4);
            argumentIn(what, 0, 2);
            return at(pathOf(trace, node), index)[what];
        }

        int criticalTime(int id) {
            Span span = need(id);
            int sum = 0;
            for (int[] segment : pathOf(span.trace, root(id))) {
                sum += segment[0] == id ? segment[2] - segment[1] : 0;
            }
            return sum;
        }

        int criticalAt(int trace, int node, int time) {
            for (int[] segment : pathOf(trace, node)) {
                if (segment[1] <= time && segment[2] > time) {
                    return segment[0];
                }
            }
            throw new NoSuchElementException();
        }

        int selfTime(int id) {
            Span span = need(id);
            BitSet units = new BitSet();
            units.set(ZERO + begin(span), ZERO + end(span));
            for (Span child : childrenOf(span.trace, id)) {
                units.clear(ZERO + begin(child), ZERO + end(child));
            }
            return units.cardinality();
        }

        int parallel(int id, int time) {
            Span span = need(id);
            int count = 0;
            for (Span child : childrenOf(span.trace, id)) {
                count += begin(child) <= time && time < end(child) ? 1 : 0;
            }
            return count;
        }

        private boolean hasErrorBelow(Span span) {
            for (Span child : childrenOf(span.trace, span.id)) {
                if (child.isError || hasErrorBelow(child)) {
                    return true;
                }
            }
            return false;
        }

        boolean isCause(int id) {
            Span span = need(id);
            return span.isError && !hasErrorBelow(span);
        }

        int cause(int trace, int index) {
            in(trace, 4);
            List<Span> causes = new ArrayList<>();
            for (Span span : now.spans) {
                if (span.trace == trace && isCause(span.id)) {
                    causes.add(span);
                }
            }
            causes.sort(Comparator.comparingInt((Span span) -> begin(span)).thenComparingInt(span -> span.id));
            return at(causes, index).id;
        }

        double errorShare(int trace) {
            in(trace, 4);
            int all = 0;
            int errors = 0;
            for (Span span : now.spans) {
                all += span.trace == trace ? 1 : 0;
                errors += span.trace == trace && span.isError ? 1 : 0;
            }
            if (all == 0) {
                throw new ArithmeticException();
            }
            return (double) errors / (double) all;
        }

        int service(int service, int what) {
            in(service, 8);
            argumentIn(what, 0, 5);
            int result = 0;
            for (Span span : now.spans) {
                if (span.service == service) {
                    int duration = span.end - span.begin;
                    switch (what) {
                        case 0:
                            result++;
                            break;
                        case 1:
                            result += span.isError ? 1 : 0;
                            break;
                        case 2:
                            result += duration;
                            break;
                        case 3:
                            result += selfTime(span.id);
                            break;
                        case 4:
                            result += criticalTime(span.id);
                            break;
                        default:
                            result = Math.max(result, duration);
                    }
                }
            }
            return result;
        }

        int quantile(int service, int percentage) {
            in(service, 8);
            argumentIn(percentage, 0, 100);
            List<Integer> durations = new ArrayList<>();
            for (Span span : now.spans) {
                if (span.service == service) {
                    durations.add(span.end - span.begin);
                }
            }
            if (durations.isEmpty()) {
                throw new NoSuchElementException();
            }
            durations.sort(null);
            int place = 1;
            while (100 * place < percentage * durations.size()) {
                place++;
            }
            return durations.get(place - 1);
        }

        int extent(int trace) {
            in(trace, 4);
            TreeSet<Integer> all = new TreeSet<>();
            for (Span span : now.spans) {
                if (span.trace == trace) {
                    all.add(begin(span));
                    all.add(end(span));
                }
            }
            if (all.isEmpty()) {
                throw new NoSuchElementException();
            }
            return all.last() - all.first();
        }

        float activity(int trace, int service) {
            in(trace, 4);
            in(service, 8);
            int extent = extent(trace);
            if (extent == 0) {
                throw new ArithmeticException();
            }
            BitSet units = new BitSet();
            for (Span span : now.spans) {
                if (span.trace == trace && span.service == service) {
                    units.set(ZERO + begin(span), ZERO + end(span));
                }
            }
            return (float) units.cardinality() / (float) extent;
        }

        int busiest(int trace) {
            int best = 0;
            for (int service = 1; service < 8; service++) {
                best = activity(trace, service) > activity(trace, best) ? service : best;
            }
            return best;
        }

        int link(int from, int to) {
            need(from);
            need(to);
            if (from == to) {
                throw new IllegalArgumentException();
            }
            for (int[] link : now.links) {
                if (link[0] == from && link[1] == to) {
                    throw new IllegalStateException();
                }
            }
            if (now.links.size() == 30) {
                throw new IllegalStateException();
            }
            change();
            now.links.add(new int[] {from, to});
            return now.links.size() - 1;
        }

        int unlink(int link) {
            in(link, now.links.size());
            change();
            now.links.remove(link);
            return now.links.size();
        }

        int linkCount() {
            return now.links.size();
        }

        int linkDelay(int link) {
            in(link, now.links.size());
            return begin(get(now.links.get(link)[1])) - end(get(now.links.get(link)[0]));
        }

        int linkedTraces(int trace) {
            in(trace, 4);
            int reached = 0;
            List<Integer> waiting = new ArrayList<>(List.of(trace));
            while (!waiting.isEmpty()) {
                int from = waiting.remove(0);
                for (int[] link : now.links) {
                    int to = get(link[1]).trace;
                    if (get(link[0]).trace == from && (reached & 1 << to) == 0) {
                        reached |= 1 << to;
                        waiting.add(to);
                    }
                }
            }
            return reached;
        }

        int bookmark(int shelf, int place, int trace, int node) {
            in(shelf, 2);
            in(place, 4);
            needNode(trace, node);
            if (shelf == 0 && node >= 1000) {
                throw new UnsupportedOperationException();
            }
            bookmarks[4 * shelf + place] = new int[] {trace, node};
            int count = 0;
            for (int k = 0; k < 4; k++) {
                count += bookmarks[4 * shelf + k] != null ? 1 : 0;
            }
            return count;
        }

        int bookmarked(int shelf, int place) {
            in(shelf, 2);
            in(place, 4);
            int[] held = bookmarks[4 * shelf + place];
            if (held == null) {
                throw new NoSuchElementException();
            }
            needNode(held[0], held[1]);
            return 10000 * held[0] + held[1];
        }

        int append(char character) {
            if (character < 32 || character > 126) {
                throw new IllegalArgumentException();
            }
            if (input.length() == 80) {
                throw new IllegalStateException();
            }
            input += character;
            return input.length();
        }

        private static boolean canStart(String start) {
            Matcher matcher = TEXT.matcher(start);
            return matcher.matches() || matcher.hitEnd();
        }

        int read() {
            String text = input;
            input = "";
            if (!TEXT.matcher(text).matches()) {
                position = 0;
                while (position < text.length() && canStart(text.substring(0, position + 1))) {
                    position++;
                }
                throw new IllegalArgumentException();
            }
            State before = now.copy();
            Matcher entry = ENTRY.matcher(text);
            int count = 0;
            while (entry.find()) {
                int id = Integer.parseInt(entry.group(2));
                int parent = entry.group(3).equals("-") ? -1 : Integer.parseInt(entry.group(3));
                int begin = Integer.parseInt(entry.group(5));
                int end = Integer.parseInt(entry.group(6));
                if (begin > end || now.spans.size() == 40 || get(id) != null) {
                    now = before;
                    throw new IllegalStateException();
                }
                put(Integer.parseInt(entry.group(1)), id, parent, Integer.parseInt(entry.group(4)), begin, end,
                        !entry.group(7).isEmpty());
                count++;
            }
            State after = now;
            now = before;
            change();
            now = after;
            return count;
        }

        int errorPosition() {
            if (position < 0) {
                throw new NoSuchElementException();
            }
            return position;
        }

        int describe(int id, int index) {
            Span span = need(id);
            String text = span.trace + "/" + id + "<" + (span.parent == -1 ? "-" : "" + span.parent) + "@"
                    + span.service + ":" + span.begin + "-" + span.end + (span.isError ? "!;" : ";");
            if (index == -1) {
                return text.length();
            }
            if (index < 0 || index >= text.length()) {
                throw new NoSuchElementException();
            }
            return text.charAt(index);
        }

        int undo() {
            if (past.isEmpty()) {
                throw new NoSuchElementException();
            }
            now = past.removeLast();
            forget();
            return past.size();
        }

        int save() {
            kept = now.copy();
            return now.spans.size();
        }

        int restore() {
            if (kept == null) {
                throw new IllegalStateException();
            }
            now = kept.copy();
            past.clear();
            forget();
            return now.spans.size();
        }
    }
}
