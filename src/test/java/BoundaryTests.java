import java.io.IOException;

/**
 * The sentences of the promises that name a limit or an exception: for each of them what lies just inside, what lies
 * just outside, and that a call that is refused changes nothing.
 */
public final class BoundaryTests extends Rows {
    private static final int LOW = Integer.MIN_VALUE;
    private static final int HIGH = Integer.MAX_VALUE;
    /** What the sentences about traces, services, nodes and spans start with. */
    private static final String TRACE = "- `trace`: the number of the trace, 0 to 3";
    private static final String SERVICE = "- `service`: the number of the service, 0 to 7";
    private static final String NO_TRACE = "Throws `IndexOutOfBoundsException` if there is no such trace";
    private static final String NO_SERVICE = "Throws `IndexOutOfBoundsException` if there is no such service";
    private static final String NO_SPAN = "Throws `IndexOutOfBoundsException` if there is no span with this id";
    private static final String NO_NODE = "Throws `NoSuchElementException` if the trace has no such node";
    private static final String NO_SPANS = "Throws `NoSuchElementException` if the trace has no spans";

    private interface ByNumber {
        Object on(TraceAssembler x, int number);
    }

    private interface ByNode {
        Object on(TraceAssembler x, int trace, int node);
    }

    public static void main(String[] args) throws IOException {
        changes();
        toldNumbers();
        offsets();
        places();
        nodes();
        children();
        roots();
        paths();
        times();
        causes();
        services();
        traces();
        links();
        bookmarks();
        texts();
        history();
        runAll("BoundaryTests", 1, 53);
    }

    /** The answers for the numbers from 0 on. */
    private static void inside(ByNumber call, Object... want) {
        for (int number = 0; number < want.length; number++) {
            int each = number;
            due(outcome(Scripts.some(), x -> call.on(x, each)), want[number]);
        }
    }

    private static void outside(Class<?> thrown, ByNumber call, int... numbers) {
        Call[] calls = new Call[numbers.length];
        for (int k = 0; k < numbers.length; k++) {
            int number = numbers[k];
            calls[k] = x -> call.on(x, number);
        }
        refused(thrown, Scripts::some, calls);
    }

    private static void noTrace(int promise, ByNumber call) {
        row(promise, NO_TRACE, () -> outside(INDEX, call, -1, 4, 5, 8, LOW, HIGH));
    }

    private static void noService(int promise, ByNumber call) {
        row(promise, NO_SERVICE, () -> outside(INDEX, call, -1, 8, 9, 16, LOW, HIGH));
    }

    /** The ids 0, 11 and 99 are there; others, and numbers of placeholders, are not. */
    private static void noSpan(int promise, ByNumber call) {
        row(promise, NO_SPAN, () -> {
            outside(INDEX, call, -1, 4, 12, 77, 98, 100, 1000, 1099, LOW, HIGH);
            due(outcome(new TraceAssembler(), x -> call.on(x, 0)), INDEX);
            for (int id : new int[] {0, 11, 99}) {
                Object got = outcome(Scripts.some(), x -> call.on(x, id));
                due(INDEX.equals(got), false);
                due(outcome(Scripts.some(), x -> {
                    x.remove(id);
                    return call.on(x, id);
                }), INDEX);
            }
        });
    }

    private static void noNode(ByNode call) {
        int[][] absent = {{0, 4}, {0, 10}, {0, -1}, {0, 100}, {0, 999}, {0, 1000}, {0, 1099}, {1, 0}, {2, 0}, {2, 1001},
            {2, 1098}, {2, 99}, {3, 1000}, {3, 1100}, {3, 0}, {0, LOW}, {0, HIGH}, {0, -1000}};
        Call[] calls = new Call[absent.length];
        for (int k = 0; k < absent.length; k++) {
            int[] node = absent[k];
            calls[k] = x -> call.on(x, node[0], node[1]);
        }
        refused(MISSING, Scripts::some, calls);
        int[][] present = {{0, 0}, {0, 3}, {1, 11}, {2, 1000}, {2, 1099}, {3, 99}, {3, 1099}};
        for (int[] node : present) {
            due(outcome(Scripts.some(), x -> call.on(x, node[0], node[1])) instanceof Class, false);
        }
    }

    private static void changes() {
        row(2, "The input, the error position and what was saved stay", () -> {
            TraceAssembler x = Scripts.some();
            due(x.clear(), 10);
            due(x.append('7'), 12);
            due(x.errorPosition(), 2);
            due(x.restore(), 10);
            due(x.linkCount(), 0);
        });
        row(2, "Returns the number of spans that there were", () -> {
            due(new TraceAssembler().clear(), 0);
            due(Scripts.full().clear(), 40);
        });
        row(2, "Removes all spans and links", () -> {
            TraceAssembler x = Scripts.full();
            ReadOut.now(x);
            x.clear();
            due(ReadOut.now(x).equals(ReadOut.now(new TraceAssembler())), true);
            due(x.add(0, 60, -1, 0, 0, 0), 1);
            due(outcome(x, y -> y.linkDelay(0)), INDEX);
            TraceAssembler y = Scripts.two();
            y.clear();
            y.add(0, 0, -1, 0, 0, 100);
            y.add(0, 1, 0, 0, 0, 50);
            alike(y, Scripts.two());
        });
        row(3, "Adds a span that is not marked as an error", () -> {
            TraceAssembler x = Scripts.two();
            x.mark(1, true);
            x.remove(1);
            x.add(0, 1, 0, 0, 0, 50);
            due(ReadOut.text(x, 1), "0/1<0@0:0-50;");
        });
        row(3, "- `parent`: the id of the parent, or -1 if it has none", () -> {
            TraceAssembler x = new TraceAssembler();
            x.add(0, 5, -1, 0, 0, 0);
            x.add(0, 6, 0, 0, 0, 0);
            x.add(0, 7, 99, 0, 0, 0);
            due(x.span(5, 1), -1);
            due(x.span(6, 1), 0);
            due(x.span(7, 1), 99);
            refused(ARGUMENT, Scripts::some, y -> y.add(0, 5, -2, 0, 0, 0), y -> y.add(0, 5, 100, 0, 0, 0),
                    y -> y.add(0, 5, 1000, 0, 0, 0), y -> y.add(0, 5, LOW, 0, 0, 0), y -> y.add(0, 5, HIGH, 0, 0, 0));
        });
        row(3, "Throws `IllegalArgumentException`", () -> {
            due(new TraceAssembler().add(3, 99, 99, 7, 9999, 9999), 1);
            due(new TraceAssembler().add(0, 0, -1, 0, 0, 0), 1);
            refused(ARGUMENT, Scripts::some, x -> x.add(-1, 5, -1, 0, 0, 0), x -> x.add(4, 5, -1, 0, 0, 0),
                    x -> x.add(LOW, 5, -1, 0, 0, 0), x -> x.add(0, -1, -1, 0, 0, 0), x -> x.add(0, 100, -1, 0, 0, 0),
                    x -> x.add(0, HIGH, -1, 0, 0, 0), x -> x.add(0, 5, -1, -1, 0, 0), x -> x.add(0, 5, -1, 8, 0, 0),
                    x -> x.add(0, 5, -1, LOW, 0, 0), x -> x.add(0, 5, -1, 0, -1, 0), x -> x.add(0, 5, -1, 0, -1, -1),
                    x -> x.add(0, 5, -1, 0, 0, 10000), x -> x.add(0, 5, -1, 0, 10000, 10000),
                    x -> x.add(0, 5, -1, 0, LOW, HIGH), x -> x.add(0, 5, -1, 0, 1, 0),
                    x -> x.add(0, 5, -1, 0, 9999, 0), x -> x.add(0, 0, -1, 0, 1, 0));
        });
        row(3, "Throws `IllegalStateException`", () -> {
            refused(STATE, Scripts::full, x -> x.add(0, 0, -1, 0, 0, 0), x -> x.add(0, 60, -1, 0, 0, 0));
            refused(STATE, Scripts::some, x -> x.add(0, 0, -1, 0, 0, 0), x -> x.add(3, 0, -1, 0, 0, 0),
                    x -> x.add(3, 99, -1, 0, 0, 0));
            TraceAssembler y = Scripts.full();
            y.remove(99);
            due(y.add(0, 99, -1, 0, 0, 0), 40);
        });
        noSpan(4, (x, span) -> x.remove(span));
        row(4, "Removes a span", () -> {
            // nothing is left of a span that is gone, whatever was asked before: as if it had never been there
            int[][] gone = {{0, 0, 0, 100, 160}, {0, 3, 5, 135, 160}, {1, 10, 2, 0, 60}, {2, 0, 4, 0, 99},
                {2, 99, 1, 0, 300}, {2, 50, 0, 0, 9999}, {3, 99, 6, 9100, 9200}, {3, -1, 6, 9999, 9999}};
            for (int[] each : gone) {
                TraceAssembler x = Scripts.some();
                x.add(each[0], 40, each[1], each[2], each[3], each[4]);
                x.mark(40, true);
                x.link(40, 0);
                x.link(20, 40);
                ReadOut.now(x);
                due(x.remove(40), 10);
                TraceAssembler y = Scripts.some();
                due(ReadOut.now(x).equals(ReadOut.now(y)), true);
                y.save();
                y.restore();
                x.save();
                x.restore();
                alike(x, y);
            }
        });
        row(4, "Returns the number of spans that remain", () -> {
            due(Scripts.full().remove(60), 39);
            TraceAssembler x = Scripts.two();
            due(x.remove(0), 1);
            due(x.remove(1), 0);
        });
        row(5, "- `parent`: the id of the parent, or -1 for none", () -> {
            TraceAssembler x = Scripts.two();
            x.setParent(1, 99);
            due(x.span(1, 1), 99);
            x.setParent(1, 0);
            due(x.span(1, 1), 0);
            x.setParent(1, -1);
            due(x.span(1, 1), -1);
            due(x.explain(1), 0);
        });
        row(5, "Returns the previous id, -1 if it had none", () -> {
            TraceAssembler x = Scripts.two();
            due(x.setParent(1, -1), 0);
            due(x.setParent(1, 99), -1);
            due(x.setParent(1, 99), 99);
        });
        noSpan(5, (x, span) -> x.setParent(span, 0));
        row(5, "Throws `IllegalArgumentException`", () ->
            outside(ARGUMENT, (x, parent) -> x.setParent(99, parent), -2, 100, 1000, 1099, LOW, HIGH));
        noSpan(6, (x, span) -> x.setTimes(span, 0, 0));
        row(6, "Throws `IllegalArgumentException`", () -> {
            TraceAssembler x = Scripts.two();
            due(x.setTimes(0, 0, 0), 100);
            due(x.setTimes(0, 9999, 9999), 0);
            due(x.setTimes(0, 0, 9999), 0);
            due(x.span(0, 4), 9999);
            refused(ARGUMENT, Scripts::some, y -> y.setTimes(0, -1, 0), y -> y.setTimes(0, 0, 10000),
                    y -> y.setTimes(0, 1, 0), y -> y.setTimes(0, 10000, 10000), y -> y.setTimes(0, -1, -1),
                    y -> y.setTimes(0, LOW, HIGH), y -> y.setTimes(0, HIGH, LOW), y -> y.setTimes(0, 9999, 9998));
        });
        row(6, "Returns its previous duration", () -> {
            TraceAssembler x = Scripts.two();
            due(x.setTimes(1, 7, 7), 50);
            due(x.setTimes(1, 0, 9999), 0);
            due(x.setTimes(1, 0, 1), 9999);
        });
        noSpan(7, (x, span) -> x.mark(span, true));
    }

    private static void toldNumbers() {
        row(8, "Returns 0 to 40", () -> {
            TraceAssembler x = new TraceAssembler();
            due(x.spanCount(), 0);
            for (int id = 0; id < 40; id++) {
                x.add(0, id, -1, 0, 0, 0);
                due(x.spanCount(), id + 1);
            }
            outcome(x, y -> y.add(0, 40, -1, 0, 0, 0));
            due(x.spanCount(), 40);
            for (int id = 39; id >= 0; id--) {
                x.remove(id);
                due(x.spanCount(), id);
            }
        });
        row(9, "- `what`: 0 for its trace", () -> {
            inside((x, what) -> x.span(99, what), 3, 99, 7, 9000, 9999, 9);
            inside((x, what) -> x.span(0, what), 0, -1, 0, 100, 200, 3);
            TraceAssembler x = Scripts.some();
            due(x.span(3, 5), 0);
            x.remove(0);
            due(x.span(1, 5), 1);
            due(x.span(10, 5), 3);
            due(x.span(99, 5), 8);
            x.add(0, 0, -1, 0, 0, 0);
            due(x.span(0, 5), 9);
        });
        noSpan(9, (x, span) -> x.span(span, 0));
        row(9, "Throws `IllegalArgumentException`", () ->
            outside(ARGUMENT, (x, what) -> x.span(0, what), -1, 6, 7, LOW, HIGH));
    }

    private static void offsets() {
        row(10, SERVICE, () -> {
            inside((x, service) -> x.offset(service), 0, 10, 0, 0, 0, 0, 0, 0);
            for (int service = 0; service < 8; service++) {
                due(Scripts.late().offset(service), 9999 * service);
            }
        });
        noService(10, (x, service) -> x.offset(service));
        row(11, SERVICE, () -> {
            inside((x, service) -> x.freedom(service), MISSING, 81, MISSING, MISSING, MISSING, MISSING, MISSING,
                    MISSING);
            for (int service = 1; service < 8; service++) {
                due(Scripts.late().freedom(service), 1);
            }
        });
        noService(11, (x, service) -> x.freedom(service));
        row(11, "Throws `NoSuchElementException`", () -> {
            outside(MISSING, (x, service) -> x.freedom(service), 0, 2, 7);
            TraceAssembler x = Scripts.late();
            due(outcome(x, y -> y.freedom(0)), MISSING);
            x.setParent(13, -1);
            due(outcome(x, y -> y.freedom(7)), MISSING);
            due(x.freedom(6), 1);
        });
        row(12, "Returns the number of accepted, or of rejected pairs", () -> {
            due(new TraceAssembler().pairs(true), 0);
            due(new TraceAssembler().pairs(false), 0);
            due(Scripts.some().pairs(true), 1);
            due(Scripts.some().pairs(false), 1);
            due(Scripts.late().pairs(true), 7);
            TraceAssembler x = new TraceAssembler();
            for (int id = 1; id < 40; id++) {
                x.add(0, id, 0, 1, 0, 1);
            }
            due(x.pairs(true) + x.pairs(false), 0);
            x.add(0, 0, -1, 0, 0, 0);
            due(x.pairs(true), 0);
            due(x.pairs(false), 39);
            x.setTimes(0, 0, 1);
            due(x.pairs(true), 39);
            x.remove(0);
            due(x.pairs(true) + x.pairs(false), 0);
        });
        noSpan(13, (x, span) -> x.isAccepted(span));
        row(13, "Throws `NoSuchElementException`", () -> {
            outside(MISSING, (x, span) -> x.isAccepted(span), 0, 3, 10, 20, 22, 99);
            due(Scripts.some().isAccepted(1), true);
            due(Scripts.some().isAccepted(2), false);
        });
        noSpan(14, (x, span) -> x.isInside(span));
        row(14, "Returns true if its begin is not less, and its end is not greater", () -> {
            int[][] times = {{0, 100}, {1, 99}, {0, 0}, {100, 100}};
            TraceAssembler x = Scripts.two();
            for (int[] each : times) {
                x.setTimes(1, each[0], each[1]);
                due(x.isInside(1), true);
            }
            x.setTimes(0, 1, 100);
            x.setTimes(1, 0, 100);
            due(x.isInside(1), false);
            x.setTimes(1, 1, 101);
            due(x.isInside(1), false);
            x.setTimes(1, 1, 100);
            due(x.isInside(1), true);
        });
        row(14, "Throws `NoSuchElementException`", () -> {
            outside(MISSING, (x, span) -> x.isInside(span), 0, 20, 22, 99);
            boolean[] want = {true, false, true};
            for (int span = 1; span <= 3; span++) {
                due(Scripts.some().isInside(span), want[span - 1]);
            }
            due(Scripts.some().isInside(10), false);
            due(Scripts.some().isInside(11), true);
        });
        noSpan(15, (x, span) -> x.corrected(span, true));
    }

    private static void places() {
        row(16, "Returns 0 if it is a root without a parent", () -> {
            int[] spans = {0, 1, 10, 11, 20, 99};
            int[] want = {0, 1, 3, 1, 2, 2};
            for (int k = 0; k < spans.length; k++) {
                due(Scripts.some().explain(spans[k]), want[k]);
            }
        });
        noSpan(16, (x, span) -> x.explain(span));
        noSpan(17, (x, span) -> x.root(span));
        noSpan(18, (x, span) -> x.depth(span));
        row(18, "Returns the number of nodes above it", () -> {
            due(Scripts.some().depth(0), 0);
            due(Scripts.some().depth(20), 1);
            due(Scripts.some().depth(10), 0);
            TraceAssembler x = new TraceAssembler();
            for (int id = 0; id < 40; id++) {
                x.add(0, id, id + 1, 0, 0, 0);
            }
            for (int id = 0; id < 40; id++) {
                due(x.depth(id), 40 - id);
            }
        });
    }

    private static void nodes() {
        row(19, TRACE, () -> inside((x, trace) -> x.below(trace, Scripts.NODES[trace & 3]), 3, 1, 2, 1));
        noTrace(19, (x, trace) -> x.below(trace, Scripts.NODES[trace & 3]));
        row(19, NO_NODE, () -> noNode((x, trace, node) -> x.below(trace, node)));
        row(19, "Returns the number of spans, itself not included", () -> {
            due(Scripts.some().below(0, 1), 1);
            due(Scripts.some().below(0, 2), 0);
            due(Scripts.some().below(1, 11), 0);
            TraceAssembler x = new TraceAssembler();
            for (int id = 0; id < 40; id++) {
                x.add(3, id, id + 1, 0, 0, 0);
            }
            due(x.below(3, 1040), 40);
            due(x.below(3, 39), 39);
            due(x.below(3, 0), 0);
        });
        row(20, TRACE, () -> inside((x, trace) -> x.childCount(trace, Scripts.NODES[trace & 3]), 2, 1, 2, 1));
        noTrace(20, (x, trace) -> x.childCount(trace, Scripts.NODES[trace & 3]));
        row(20, NO_NODE, () -> noNode((x, trace, node) -> x.childCount(trace, node)));
    }

    private static void children() {
        row(21, TRACE, () -> inside((x, trace) -> x.child(trace, Scripts.NODES[trace & 3], 0), 1, 11, 20, 99));
        row(21, "- `index`: the index of the child, from 0", () -> {
            inside((x, index) -> x.child(0, 0, index), 1, 2, MISSING);
            inside((x, index) -> x.child(2, 1000, index), 20, 21, MISSING);
            TraceAssembler x = new TraceAssembler();
            for (int id = 0; id < 40; id++) {
                x.add(0, id, 99, 0, id % 20, 50);
            }
            due(x.child(0, 1099, 0), 0);
            due(x.child(0, 1099, 1), 20);
            due(x.child(0, 1099, 39), 39);
            due(outcome(x, y -> y.child(0, 1099, 40)), MISSING);
        });
        noTrace(21, (x, trace) -> x.child(trace, Scripts.NODES[trace & 3], 0));
        row(21, NO_NODE, () -> {
            outside(MISSING, (x, index) -> x.child(0, 0, index), -1, 2, 3, 40, LOW, HIGH);
            outside(MISSING, (x, node) -> x.child(0, node, 0), -1, 4, 10, 999, 1000, LOW, HIGH);
            refused(MISSING, Scripts::some, x -> x.child(0, 2, 0), x -> x.child(1, 11, 0), x -> x.child(2, 0, 0),
                    x -> x.child(3, 1000, 0));
        });
    }

    private static void roots() {
        row(22, TRACE, () -> {
            inside((x, trace) -> x.roots(trace, false), 1, 1, 0, 0);
            inside((x, trace) -> x.roots(trace, true), 0, 0, 2, 1);
            TraceAssembler x = new TraceAssembler();
            for (int id = 0; id < 40; id++) {
                x.add(3, id, -1, 0, 0, 0);
            }
            due(x.roots(3, false), 40);
            for (int id = 0; id < 40; id++) {
                x.setParent(id, 40 + id);
            }
            due(x.roots(3, false), 0);
            due(x.roots(3, true), 40);
        });
        noTrace(22, (x, trace) -> x.roots(trace, true));
        row(23, TRACE, () -> inside((x, trace) -> x.rootAt(trace, 0), 0, 10, 1000, 1099));
        row(23, "- `index`: the index among all roots in ascending order", () -> {
            inside((x, index) -> x.rootAt(2, index), 1000, 1099, MISSING);
            TraceAssembler x = new TraceAssembler();
            for (int id = 39; id >= 0; id--) {
                x.add(0, id, id % 2 == 0 ? -1 : 99 - id, 0, 0, 0);
            }
            for (int k = 0; k < 20; k++) {
                due(x.rootAt(0, k), 2 * k);
                due(x.rootAt(0, 20 + k), 1060 + 2 * k);
            }
            due(outcome(x, y -> y.rootAt(0, 40)), MISSING);
        });
        noTrace(23, (x, trace) -> x.rootAt(trace, 0));
        row(23, "Throws `NoSuchElementException`", () -> {
            outside(MISSING, (x, index) -> x.rootAt(2, index), -1, 2, 40, 41, LOW, HIGH);
            outside(MISSING, (x, index) -> x.rootAt(0, index), -1, 1, 10, 1000);
            due(outcome(new TraceAssembler(), x -> x.rootAt(0, 0)), MISSING);
        });
        row(24, TRACE, () -> {
            TraceAssembler x = new TraceAssembler();
            for (int trace = 0; trace < 4; trace++) {
                x.add(trace, trace, 50, 0, trace, 10 * trace);
                due(x.missing(trace, 1050, false), trace);
                due(x.missing(trace, 1050, true), 10 * trace);
            }
        });
        noTrace(24, (x, trace) -> x.missing(trace, 1099, true));
        row(24, "Throws `NoSuchElementException`", () -> {
            outside(MISSING, (x, number) -> x.missing(2, number, true), -1, 0, 20, 99, 999, 1001, 1098, 1100, LOW,
                    HIGH);
            outside(MISSING, (x, number) -> x.missing(3, number, false), 99, 1000);
            due(Scripts.some().missing(2, 1000, false), 10);
            due(Scripts.some().missing(2, 1099, true), 9);
        });
        row(25, "Returns the number of spans that are cut from cycles, in all traces", () -> {
            due(new TraceAssembler().cutCount(), 0);
            due(Scripts.some().cutCount(), 1);
            TraceAssembler x = new TraceAssembler();
            for (int id = 0; id < 40; id++) {
                x.add(id / 2 % 4, id, id ^ 1, 0, 0, 0);
                due(x.cutCount(), (id + 1) / 2);
            }
            x.remove(38);
            due(x.cutCount(), 19);
            x.add(3, 38, 39, 0, 0, 0);
            due(x.cutCount(), 20);
            x.remove(38);
            due(x.cutCount(), 19);
        });
    }

    private static void paths() {
        row(26, TRACE, () -> inside((x, trace) -> x.segments(trace, Scripts.NODES[trace & 3]), 5, 3, 3, 1));
        noTrace(26, (x, trace) -> x.segments(trace, Scripts.NODES[trace & 3]));
        row(26, NO_NODE, () -> noNode((x, trace, node) -> x.segments(trace, node)));
        row(27, TRACE, () -> inside((x, trace) -> x.segment(trace, Scripts.NODES[trace & 3], 0, 2), 140, 5, 20, 9999));
        row(27, "- `index`: the index of the segment, from 0", () -> {
            inside((x, index) -> x.segment(0, 0, index, 0), 0, 1, 3, 1, 0, MISSING);
            inside((x, index) -> x.segment(0, 0, index, 1), 100, 140, 145, 155, 160, MISSING);
        });
        row(27, "- `what`: 0 for the node", () -> inside((x, what) -> x.segment(2, 1000, 1, what), 1000, 20, 30));
        noTrace(27, (x, trace) -> x.segment(trace, Scripts.NODES[trace & 3], 0, 0));
        row(27, "Throws `IllegalArgumentException`", () ->
            outside(ARGUMENT, (x, what) -> x.segment(0, 0, 0, what), -1, 3, 4, LOW, HIGH));
        row(27, NO_NODE, () -> {
            noNode((x, trace, node) -> x.segment(trace, node, 0, 0));
            outside(MISSING, (x, index) -> x.segment(0, 0, index, 2), -1, 5, 6, 82, LOW, HIGH);
            outside(MISSING, (x, index) -> x.segment(3, 99, index, 0), -1, 1);
        });
        noSpan(28, (x, span) -> x.criticalTime(span));
        row(28, "Returns how long a span is on the critical path of the root of its tree", () -> {
            int[] spans = {0, 1, 2, 3, 10, 11, 20, 21, 22, 99};
            int[] want = {80, 10, 0, 10, 10, 40, 10, 10, 9, 999};
            for (int k = 0; k < spans.length; k++) {
                due(Scripts.some().criticalTime(spans[k]), want[k]);
            }
            // nothing is left of a longer path that was asked for before
            TraceAssembler x = Scripts.some();
            due(x.segments(0, 0), 5);
            x.setTimes(3, 130, 140);
            due(x.criticalTime(0), 80);
            due(x.segments(0, 0), 4);
        });
        row(29, TRACE, () -> inside((x, trace) ->
            x.criticalAt(trace, Scripts.NODES[trace & 3], new int[] {144, 5, 25, 9998}[trace & 3]), 1, 11, 1000, 99));
        noTrace(29, (x, trace) -> x.criticalAt(trace, Scripts.NODES[trace & 3], 9000));
        row(29, "Returns the node to which the segment belongs that contains a time", () -> {
            int[] times = {100, 139, 140, 144, 145, 154, 155, 159, 160, 199};
            int[] want = {0, 0, 1, 1, 3, 3, 1, 1, 0, 0};
            for (int k = 0; k < times.length; k++) {
                due(Scripts.some().criticalAt(0, 0, times[k]), want[k]);
            }
        });
        row(29, NO_NODE, () -> {
            refused(MISSING, Scripts::some, x -> x.criticalAt(0, 10, 10), x -> x.criticalAt(0, 4, 110),
                    x -> x.criticalAt(2, 1001, 25), x -> x.criticalAt(0, -1, 110), x -> x.criticalAt(0, 1000, 10));
            outside(MISSING, (x, time) -> x.criticalAt(0, 0, time), 99, 200, 201, -1, LOW, HIGH);
            outside(MISSING, (x, time) -> x.criticalAt(3, 99, time), 8999, 9999);
            TraceAssembler z = Scripts.some();
            due(z.criticalAt(0, 0, 156), 1);
            due(outcome(z, x -> x.criticalAt(3, 99, 156)), MISSING);
            TraceAssembler y = Scripts.two();
            y.setTimes(0, 7, 7);
            due(outcome(y, x -> x.criticalAt(0, 0, 7)), MISSING);
        });
    }

    private static void times() {
        noSpan(30, (x, span) -> x.selfTime(span));
        noSpan(31, (x, span) -> x.parallel(span, 150));
        row(31, "Returns the number of children of a span that are at a corrected time", () -> {
            TraceAssembler x = Scripts.two();
            x.add(0, 2, 0, 0, 10, 10);
            x.add(0, 3, 0, 0, 49, 300);
            int[] times = {-1, 0, 10, 48, 49, 50, 100, 299, 300};
            int[] want = {0, 1, 1, 1, 2, 1, 1, 1, 0};
            for (int k = 0; k < times.length; k++) {
                due(x.parallel(0, times[k]), want[k]);
            }
            due(x.parallel(1, 10), 0);
            due(Scripts.some().parallel(1, 145), 1);
            due(Scripts.some().parallel(1, 155), 0);
            due(x.parallel(0, LOW), 0);
            due(x.parallel(0, HIGH), 0);
            TraceAssembler y = new TraceAssembler();
            for (int id = 0; id < 40; id++) {
                y.add(0, id, id == 0 ? -1 : 0, 0, 5, 6);
            }
            due(y.parallel(0, 5), 39);
            due(y.parallel(0, 6), 0);
            due(y.parallel(0, 4), 0);
        });
    }

    private static void causes() {
        noSpan(32, (x, span) -> x.isCause(span));
        row(33, TRACE, () -> inside((x, trace) -> x.cause(trace, 0), 3, 11, 21, 99));
        row(33, "- `index`: the index among its causes in ascending order", () -> {
            TraceAssembler x = new TraceAssembler();
            for (int id = 0; id < 40; id++) {
                x.add(0, id, -1, 0, 30 - id / 2, 50);
                x.mark(id, true);
            }
            due(x.cause(0, 0), 38);
            due(x.cause(0, 1), 39);
            due(x.cause(0, 2), 36);
            due(x.cause(0, 39), 1);
            due(outcome(x, y -> y.cause(0, 40)), MISSING);
            // by corrected begins: service 1 is put 10 later
            TraceAssembler z = Scripts.some();
            z.add(0, 50, -1, 0, 144, 145);
            z.mark(50, true);
            z.add(0, 51, -1, 0, 146, 146);
            z.mark(51, true);
            due(z.cause(0, 0), 50);
            due(z.cause(0, 1), 3);
            due(z.cause(0, 2), 51);
        });
        noTrace(33, (x, trace) -> x.cause(trace, 0));
        row(33, "Throws `NoSuchElementException`", () -> {
            outside(MISSING, (x, index) -> x.cause(0, index), -1, 1, 40, LOW, HIGH);
            due(outcome(new TraceAssembler(), x -> x.cause(0, 0)), MISSING);
            due(outcome(Scripts.two(), x -> x.cause(0, 0)), MISSING);
        });
        row(34, TRACE, () -> inside((x, trace) -> x.errorShare(trace), 0.25, 0.5, 1.0 / 3.0, 1.0));
        noTrace(34, (x, trace) -> x.errorShare(trace));
        row(34, "Throws `ArithmeticException`", () -> {
            refused(ARITHMETIC, Scripts::two, x -> x.errorShare(1), x -> x.errorShare(3));
            due(outcome(new TraceAssembler(), x -> x.errorShare(0)), ARITHMETIC);
            due(outcome(Scripts.two(), x -> x.errorShare(0)), 0.0);
        });
    }

    private static void services() {
        row(35, SERVICE, () -> {
            inside((x, service) -> x.service(service, 0), 1, 3, 2, 1, 1, 1, 0, 1);
            inside((x, service) -> x.service(service, 5), 100, 20, 50, 10, 10, 9, 0, 999);
        });
        row(35, "- `what`: 0 for their number", () -> {
            inside((x, what) -> x.service(1, what), 3, 1, 50, 40, 20, 20);
            inside((x, what) -> x.service(6, what), 0, 0, 0, 0, 0, 0);
            inside((x, what) -> x.service(7, what), 1, 1, 999, 999, 999, 999);
            TraceAssembler x = new TraceAssembler();
            for (int id = 0; id < 40; id++) {
                x.add(0, id, -1, 7, 0, 9999);
                x.mark(id, true);
            }
            int[] want = {40, 40, 399960, 399960, 399960, 9999};
            for (int what = 0; what < 6; what++) {
                due(x.service(7, what), want[what]);
            }
        });
        noService(35, (x, service) -> x.service(service, 0));
        row(35, "Throws `IllegalArgumentException`", () ->
            outside(ARGUMENT, (x, what) -> x.service(0, what), -1, 6, 7, LOW, HIGH));
        row(36, "Returns a quantile of the durations of the spans of a service", () -> {
            for (int count = 1; count <= 40; count++) {
                TraceAssembler x = new TraceAssembler();
                for (int k = count; k > 0; k--) {
                    x.add(0, k, -1, 5, 0, k);
                }
                for (int percentage = 0; percentage <= 100; percentage++) {
                    due(x.quantile(5, percentage), Math.max(1, (int) Math.ceil(percentage * count / 100.0)));
                }
            }
        });
        row(36, SERVICE, () -> inside((x, service) -> x.quantile(service, 100), 100, 20, 50, 10, 10, 9, MISSING, 999));
        row(36, "- `percentage`: the percentage, 0 to 100", () -> {
            due(Scripts.some().quantile(1, 0), 10);
            due(Scripts.some().quantile(1, 33), 10);
            due(Scripts.some().quantile(1, 34), 20);
            due(Scripts.some().quantile(1, 100), 20);
        });
        noService(36, (x, service) -> x.quantile(service, 50));
        row(36, "Throws `IllegalArgumentException`", () ->
            outside(ARGUMENT, (x, percentage) -> x.quantile(0, percentage), -1, 101, 102, LOW, HIGH));
        row(36, "Throws `NoSuchElementException`", () -> {
            outside(MISSING, (x, percentage) -> x.quantile(6, percentage), 0, 1, 50, 100);
            due(outcome(new TraceAssembler(), x -> x.quantile(0, 0)), MISSING);
        });
    }

    /** A trace 1 with a span of no length, and a trace 2 without spans. */
    private static TraceAssembler short1() {
        TraceAssembler x = Scripts.two();
        x.add(1, 5, -1, 3, 7, 7);
        return x;
    }

    private static void traces() {
        row(37, TRACE, () -> inside((x, trace) -> x.extent(trace), 230, 50, 40, 999));
        noTrace(37, (x, trace) -> x.extent(trace));
        row(37, NO_SPANS, () -> {
            refused(MISSING, BoundaryTests::short1, x -> x.extent(2), x -> x.extent(3));
            due(short1().extent(0), 100);
            due(short1().extent(1), 0);
        });
        row(38, TRACE, () -> inside((x, trace) -> x.activity(trace, new int[] {0, 2, 3, 7}[trace & 3]),
                100.0f / 230.0f, 1.0f, 0.25f, 1.0f));
        row(38, SERVICE, () -> {
            inside((x, service) -> x.activity(0, service), 100.0f / 230.0f, 40.0f / 230.0f, 0.0f, 0.0f, 0.0f, 0.0f,
                    0.0f, 0.0f);
            inside((x, service) -> x.activity(3, service), 0.0f, 0.0f, 0.0f, 0.0f, 0.0f, 0.0f, 0.0f, 1.0f);
        });
        row(38, "Returns the activity of a service in a trace", () -> {
            TraceAssembler x = new TraceAssembler();
            x.add(0, 0, -1, 1, 0, 100);
            x.add(0, 1, -1, 0, 10, 20);
            int[][] times = {{20, 30}, {19, 30}, {21, 30}, {10, 20}, {0, 10}, {15, 15}, {50, 50}, {5, 25}};
            int[] want = {20, 20, 19, 10, 20, 10, 10, 20};
            for (int k = 0; k < times.length; k++) {
                x.add(0, 2, -1, 0, times[k][0], times[k][1]);
                due(x.activity(0, 0), want[k] / 100.0f);
                x.remove(2);
            }
        });
        row(38, "Throws `IndexOutOfBoundsException` if there is no such trace or service", () -> {
            outside(INDEX, (x, trace) -> x.activity(trace, 0), -1, 4, 5, LOW, HIGH);
            outside(INDEX, (x, service) -> x.activity(0, service), -1, 8, 9, LOW, HIGH);
            refused(INDEX, BoundaryTests::short1, x -> x.activity(1, 8), x -> x.activity(2, 8), x -> x.activity(4, 8));
        });
        row(38, NO_SPANS, () -> {
            refused(MISSING, BoundaryTests::short1, x -> x.activity(2, 0), x -> x.activity(3, 7));
            due(outcome(new TraceAssembler(), x -> x.activity(0, 0)), MISSING);
        });
        row(38, "Throws `ArithmeticException`", () -> {
            refused(ARITHMETIC, BoundaryTests::short1, x -> x.activity(1, 3), x -> x.activity(1, 0));
            TraceAssembler y = short1();
            y.setTimes(5, 7, 8);
            due(outcome(y, x -> x.activity(1, 3)), 1.0f);
            due(outcome(y, x -> x.activity(1, 0)), 0.0f);
            y.setTimes(5, 7, 7);
            y.add(1, 6, -1, 0, 8, 8);
            due(outcome(y, x -> x.activity(1, 3)), 0.0f);
        });
        row(39, TRACE, () -> inside((x, trace) -> x.busiest(trace), 0, 2, 3, 7));
        row(39, "Returns the service with the greatest activity in a trace, the lowest one of several", () -> {
            TraceAssembler x = new TraceAssembler();
            x.add(0, 0, -1, 7, 0, 0);
            x.add(0, 1, -1, 7, 9, 9);
            due(x.busiest(0), 0);
            x.add(0, 2, -1, 6, 0, 1);
            due(x.busiest(0), 6);
            x.add(0, 3, -1, 5, 5, 6);
            due(x.busiest(0), 5);
            x.setTimes(0, 3, 4);
            due(x.busiest(0), 5);
            x.setTimes(0, 3, 5);
            due(x.busiest(0), 7);
            for (int service = 0; service < 8; service++) {
                TraceAssembler y = new TraceAssembler();
                for (int k = 0; k < 8; k++) {
                    y.add(0, k, -1, k, 0, k == service ? 6 : 5);
                }
                due(y.busiest(0), service);
                y.setTimes(service, 0, 5);
                due(y.busiest(0), 0);
            }
        });
        noTrace(39, (x, trace) -> x.busiest(trace));
        row(39, NO_SPANS, () -> refused(MISSING, BoundaryTests::short1, x -> x.busiest(2), x -> x.busiest(3)));
        row(39, "Throws `ArithmeticException`", () -> {
            refused(ARITHMETIC, BoundaryTests::short1, x -> x.busiest(1));
            TraceAssembler y = short1();
            y.setTimes(5, 7, 8);
            due(outcome(y, x -> x.busiest(1)), 3);
        });
    }

    private static void links() {
        row(40, "Throws `IndexOutOfBoundsException`", () -> {
            outside(INDEX, (x, from) -> x.link(from, 0), -1, 4, 100, 1000, LOW, HIGH);
            outside(INDEX, (x, to) -> x.link(0, to), -1, 4, 100, 1000, LOW, HIGH);
            outside(INDEX, (x, both) -> x.link(both, both), -1, 4, 100);
            refused(INDEX, Scripts::full, x -> x.link(60, 59));
            due(Scripts.some().link(99, 0), 3);
        });
        row(40, "Throws `IllegalArgumentException`", () -> {
            outside(ARGUMENT, (x, both) -> x.link(both, both), 0, 10, 99);
            refused(ARGUMENT, Scripts::full, x -> x.link(60, 60));
        });
        row(40, "Throws `IllegalStateException`", () -> {
            refused(STATE, Scripts::some, x -> x.link(0, 10), x -> x.link(20, 99));
            refused(STATE, Scripts::full, x -> x.link(99, 60), x -> x.link(60, 62));
            due(Scripts.some().link(10, 0), 3);
            TraceAssembler y = Scripts.full();
            y.unlink(0);
            due(y.link(60, 62), 29);
            y.unlink(29);
            due(y.link(60, 62), 29);
            due(outcome(y, x -> x.link(62, 60)), STATE);
        });
        row(41, "The numbers of the later ones decrease by 1", () -> {
            TraceAssembler x = Scripts.some();
            due(x.unlink(1), 2);
            due(x.linkDelay(0), 0 - 200);
            due(x.linkDelay(1), 9000 - 20);
            due(x.unlink(0), 1);
            due(x.linkDelay(0), 9000 - 20);
            due(x.unlink(0), 0);
            TraceAssembler y = Scripts.full();
            due(y.unlink(29), 29);
            due(y.linkDelay(0), -10);
            due(y.link(99, 98), 29);
        });
        row(41, "Throws `IndexOutOfBoundsException`", () -> {
            outside(INDEX, (x, link) -> x.unlink(link), -1, 3, 4, 29, 30, LOW, HIGH);
            refused(INDEX, Scripts::full, x -> x.unlink(30), x -> x.unlink(31));
            due(outcome(new TraceAssembler(), x -> x.unlink(0)), INDEX);
            due(Scripts.some().unlink(2), 2);
        });
        row(42, "Returns 0 to 30", () -> {
            due(new TraceAssembler().linkCount(), 0);
            due(Scripts.some().linkCount(), 3);
            TraceAssembler x = Scripts.full();
            outcome(x, y -> y.link(99, 60));
            due(x.linkCount(), 30);
        });
        row(43, "Returns the begin minus the end, possibly negative", () -> {
            TraceAssembler x = new TraceAssembler();
            x.add(0, 0, -1, 0, 0, 9999);
            x.add(1, 1, -1, 0, 0, 0);
            x.add(2, 2, -1, 0, 9999, 9999);
            x.link(0, 1);
            x.link(1, 2);
            x.link(0, 2);
            due(x.linkDelay(0), -9999);
            due(x.linkDelay(1), 9999);
            due(x.linkDelay(2), 0);
            TraceAssembler y = Scripts.late();
            y.link(0, 13);
            y.link(13, 0);
            due(y.linkDelay(0), 69993 - 9999);
            due(y.linkDelay(1), 9999 - 69993);
        });
        row(43, "Throws `IndexOutOfBoundsException`", () -> {
            outside(INDEX, (x, link) -> x.linkDelay(link), -1, 3, 4, 29, 30, LOW, HIGH);
            refused(INDEX, Scripts::full, x -> x.linkDelay(30), x -> x.linkDelay(31));
            due(Scripts.some().linkDelay(2), 9000 - 20);
        });
        row(44, TRACE, () -> inside((x, trace) -> x.linkedTraces(trace), 14, 12, 8, 0));
        noTrace(44, (x, trace) -> x.linkedTraces(trace));
        row(44, "Returns the set of traces; the trace itself is in it only if links lead to it", () -> {
            TraceAssembler x = Scripts.some();
            due(x.linkedTraces(0) & 1, 0);
            x.link(0, 1);
            due(x.linkedTraces(0), 15);
            due(x.linkedTraces(1), 12);
            x.unlink(3);
            x.link(99, 0);
            for (int trace = 0; trace < 4; trace++) {
                due(x.linkedTraces(trace), 15);
            }
            due(new TraceAssembler().linkedTraces(3), 0);
        });
    }

    private static void bookmarks() {
        row(45, "There are 2 shelves with 4 places each", () -> {
            TraceAssembler x = Scripts.two();
            for (int k = 0; k < 8; k++) {
                int place = k;
                due(outcome(x, y -> y.bookmarked(place / 4, place % 4)), MISSING);
                due(x.bookmark(k / 4, k % 4, 0, k % 2), k % 4 + 1);
                due(x.bookmarked(k / 4, k % 4), k % 2);
            }
            due(x.bookmark(0, 3, 0, 0), 4);
            due(x.bookmarked(0, 3), 0);
            due(x.bookmarked(1, 3), 1);
            x.setParent(1, 99);
            due(x.bookmark(1, 0, 0, 1099), 4);
            due(x.bookmarked(1, 0), 1099);
            due(outcome(x, y -> y.bookmark(0, 0, 0, 1099)), UNSUPPORTED);
            due(x.bookmarked(0, 0), 0);
        });
        row(45, "Bookmarks stay, whatever happens to the nodes", () -> {
            TraceAssembler x = Scripts.some();
            x.clear();
            due(outcome(x, y -> y.bookmarked(0, 0)), MISSING);
            x.add(0, 0, -1, 0, 0, 0);
            due(x.bookmarked(0, 0), 0);
            due(x.bookmark(0, 1, 0, 0), 2);
            x.add(2, 5, 99, 0, 0, 0);
            due(x.bookmarked(1, 3), 21099);
            x.remove(0);
            x.add(0, 1, -1, 0, 0, 0);
            due(x.bookmark(0, 2, 0, 1), 3);
        });
        row(45, TRACE, () ->
            inside((x, trace) -> x.bookmark(1, 0, trace, Scripts.NODES[trace & 3]), 2, 2, 2, 2));
        row(45, "Returns the number of places of the shelf that are not empty then", () -> {
            due(Scripts.some().bookmark(0, 0, 0, 1), 1);
            due(Scripts.some().bookmark(0, 3, 0, 1), 2);
            due(Scripts.some().bookmark(1, 3, 0, 1), 1);
        });
        row(45, "Throws `IndexOutOfBoundsException`", () -> {
            outside(INDEX, (x, shelf) -> x.bookmark(shelf, 0, 0, 0), -1, 2, 3, LOW, HIGH);
            outside(INDEX, (x, place) -> x.bookmark(0, place, 0, 0), -1, 4, 5, LOW, HIGH);
            outside(INDEX, (x, place) -> x.bookmark(1, place, 2, 1000), -1, 4, 8);
            outside(INDEX, (x, trace) -> x.bookmark(0, 0, trace, 0), -1, 4, LOW, HIGH);
        });
        row(45, NO_NODE, () -> {
            noNode((x, trace, node) -> x.bookmark(1, 0, trace, node));
            refused(MISSING, Scripts::some, x -> x.bookmark(0, 0, 0, 1000), x -> x.bookmark(0, 0, 2, 0));
        });
        row(45, "Throws `UnsupportedOperationException`", () -> {
            refused(UNSUPPORTED, Scripts::some, x -> x.bookmark(0, 0, 2, 1000), x -> x.bookmark(0, 3, 2, 1099),
                    x -> x.bookmark(0, 1, 3, 1099));
            due(Scripts.some().bookmark(1, 0, 2, 1000), 2);
            due(Scripts.some().bookmark(0, 3, 3, 99), 2);
        });
        row(46, "Returns 10000 times the trace plus the id of the span or the number of the placeholder", () -> {
            int[][] nodes = {{0, 0, 0}, {1, 10, 10010}, {2, 1000, 21000}, {3, 99, 30099}, {3, 1099, 31099}};
            for (int[] node : nodes) {
                TraceAssembler x = Scripts.some();
                x.bookmark(1, 0, node[0], node[1]);
                due(x.bookmarked(1, 0), node[2]);
            }
        });
        row(46, "Throws `IndexOutOfBoundsException`", () -> {
            outside(INDEX, (x, shelf) -> x.bookmarked(shelf, 0), -1, 2, 3, LOW, HIGH);
            outside(INDEX, (x, place) -> x.bookmarked(0, place), -1, 4, 5, 8, LOW, HIGH);
            outside(INDEX, (x, place) -> x.bookmarked(1, place), -1, 4);
        });
        row(46, "Throws `NoSuchElementException`", () -> {
            outside(MISSING, (x, place) -> x.bookmarked(0, place), 1, 2, 3);
            outside(MISSING, (x, place) -> x.bookmarked(1, place), 0, 1, 2);
            TraceAssembler x = Scripts.some();
            due(x.bookmarked(0, 0), 0);
            x.remove(0);
            due(outcome(x, y -> y.bookmarked(0, 0)), MISSING);
            x.remove(22);
            due(outcome(x, y -> y.bookmarked(1, 3)), MISSING);
            x.undo();
            due(x.bookmarked(1, 3), 21099);
        });
    }

    private static void texts() {
        row(47, "- `character`: the character, with a code from 32 to 126", () -> {
            for (int code = 32; code <= 126; code++) {
                due(new TraceAssembler().append((char) code), 1);
            }
        });
        row(47, "Throws `IllegalArgumentException`", () -> {
            outside(ARGUMENT, (x, code) -> x.append((char) code), 0, 9, 10, 31, 127, 128, 255, 256, 288, 65535);
            due(outcome(Scripts.full(), x -> x.append((char) 127)), ARGUMENT);
        });
        row(47, "Throws `IllegalStateException`", () -> {
            refused(STATE, Scripts::full, x -> x.append((char) 32), x -> x.append((char) 126));
            TraceAssembler x = new TraceAssembler();
            Scripts.write(x, "0".repeat(79));
            due(x.append('0'), 80);
            due(outcome(x, y -> y.append('0')), STATE);
            outcome(x, TraceAssembler::read);
            due(x.append('0'), 1);
        });
        row(48, "Adds the spans of the text in the input, in their order", () -> {
            TraceAssembler x = Scripts.two();
            due(Scripts.read(x, "3/9<-@7:0-9999!;1/5<9@0:5-5;"), 2);
            due(x.span(9, 5), 2);
            due(x.span(5, 5), 3);
            due(ReadOut.text(x, 9) + ReadOut.text(x, 5), "3/9<-@7:0-9999!;1/5<9@0:5-5;");
            due(x.isCause(9), true);
            due(x.isCause(5), false);
        });
        row(48, "If one of them cannot be added, nothing changes", () -> {
            String[] wrong = {"0/5<-@0:0-0;0/1<-@0:0-0;", "0/5<-@0:0-0;0/6<-@0:1-0;", "0/5<-@0:0-0;0/5<-@0:0-0;"};
            for (String text : wrong) {
                TraceAssembler x = Scripts.two();
                due(outcome(x, y -> Scripts.read(y, text)), STATE);
                alike(x, Scripts.two());
            }
        });
        row(48, "The input is empty afterwards, whatever happens", () -> {
            String[] all = {"", "0", "x", "0/5<-@0:0-0;", "0/1<-@0:0-0;", "0/5<-@0:1-0;"};
            for (String text : all) {
                TraceAssembler x = Scripts.two();
                outcome(x, y -> Scripts.read(y, text));
                due(x.append('0'), 1);
                due(outcome(x, TraceAssembler::read), ARGUMENT);
                due(x.errorPosition(), 1);
            }
        });
        row(48, "Throws `IllegalArgumentException`", () -> {
            String[] wrong = {"", "0", "0/5<-@0:0-0", "0/5<-@0:0-0;0", "0/5<-@0:9-1;x", "0/1<-@0:0-0;x"};
            int[] want = {0, 1, 11, 13, 12, 12};
            for (int k = 0; k < wrong.length; k++) {
                String text = wrong[k];
                TraceAssembler x = Scripts.two();
                due(outcome(x, y -> Scripts.read(y, text)), ARGUMENT);
                due(x.errorPosition(), want[k]);
                due(x.spanCount(), 2);
                due(x.undo(), 1);
                due(x.spanCount(), 1);
            }
        });
        row(48, "Throws `IllegalStateException`", BoundaryTests::readsTooMuch);
        row(49, "Throws `NoSuchElementException`", () -> {
            due(outcome(new TraceAssembler(), TraceAssembler::errorPosition), MISSING);
            TraceAssembler x = Scripts.two();
            Scripts.read(x, "0/5<-@0:0-0;");
            outcome(x, y -> Scripts.read(y, "0/5<-@0:0-0;"));
            due(outcome(x, TraceAssembler::errorPosition), MISSING);
            outcome(x, TraceAssembler::read);
            due(x.errorPosition(), 0);
        });
        row(49, "Returns the error position that was kept last", () -> {
            TraceAssembler x = Scripts.two();
            outcome(x, y -> Scripts.read(y, "0/x"));
            outcome(x, y -> Scripts.read(y, "0/5x"));
            due(x.errorPosition(), 3);
            outcome(x, y -> Scripts.read(y, "0/1<-@0:0-0;"));
            due(x.errorPosition(), 3);
            Scripts.read(x, "0/5<-@0:0-0;");
            x.clear();
            due(x.errorPosition(), 3);
        });
        row(50, "- `index`: the index of the character, from 0, or -1 for the length", () -> {
            String text = "0/0<-@0:100-200;";
            due(Scripts.some().describe(0, -1), 16);
            for (int k = 0; k < text.length(); k++) {
                due(Scripts.some().describe(0, k), (int) text.charAt(k));
            }
            due(Scripts.some().describe(99, -1), 21);
            due(Scripts.some().describe(99, 20), (int) ';');
        });
        noSpan(50, (x, span) -> x.describe(span, 0));
        row(50, "Throws `NoSuchElementException`", () -> {
            outside(MISSING, (x, index) -> x.describe(0, index), -2, 16, 17, LOW, HIGH);
            outside(MISSING, (x, index) -> x.describe(99, index), -2, 21, 22);
        });
    }

    private static void readsTooMuch() {
        String[] wrong = {"0/5<-@0:1-0;", "0/5<-@0:9999-9998;", "0/1<-@0:0-0;", "3/1<-@0:0-0;",
            "0/5<-@0:0-0;1/05<-@0:0-0;", "0/5<-@0:0-0;0/1<-@0:0-0;"};
        for (String text : wrong) {
            TraceAssembler x = Scripts.two();
            due(outcome(x, y -> Scripts.read(y, text)), STATE);
            alike(x, Scripts.two());
        }
        due(outcome(Scripts.two(), x -> Scripts.read(x, "0/5<-@0:1-1;")), 1);
        // from 37 spans on the third of three entries finds no room
        for (int count = 36; count <= 40; count++) {
            TraceAssembler x = new TraceAssembler();
            for (int id = 0; id < count; id++) {
                x.add(0, id, -1, 0, 0, 0);
            }
            boolean fits = count <= 37;
            due(outcome(x, y -> Scripts.read(y, "0/50<-@0:0-0;0/51<-@0:0-0;0/52<-@0:0-0;")), fits ? (Object) 3 : STATE);
            due(x.spanCount(), fits ? count + 3 : count);
        }
    }

    private static void history() {
        row(51, "Undoes the latest change that is remembered", () -> {
            Call[] changes = {x -> x.add(0, 5, 1, 3, 0, 900), x -> x.remove(1), x -> x.setParent(1, 1),
                x -> x.setTimes(1, 0, 700), x -> x.mark(1, true), x -> x.link(99, 0), x -> x.unlink(1),
                x -> Scripts.read(x, "7;"), x -> x.remove(0)};
            TraceAssembler x = Scripts.some();
            String before = ReadOut.now(x);
            for (Call change : changes) {
                change.on(x);
                due(ReadOut.now(x).equals(before), false);
                x.undo();
                due(ReadOut.now(x), before);
            }
        });
        row(51, "Throws `NoSuchElementException`", () -> {
            refused(MISSING, Scripts::still, TraceAssembler::undo);
            due(outcome(new TraceAssembler(), TraceAssembler::undo), MISSING);
            TraceAssembler x = Scripts.some();
            for (int left = 7; left >= 0; left--) {
                due(x.undo(), left);
            }
            due(outcome(x, TraceAssembler::undo), MISSING);
            // undone are 5 marks and 3 links
            due(x.spanCount(), 10);
            due(x.linkCount(), 0);
            due(outcome(x, y -> y.cause(0, 0)), MISSING);
        });
        row(52, "What was saved before is replaced", () -> {
            TraceAssembler x = Scripts.full();
            due(x.save(), 40);
            x.clear();
            due(x.save(), 0);
            due(x.restore(), 0);
            due(x.linkCount(), 0);
        });
        row(52, "Returns the number of spans", () -> {
            due(new TraceAssembler().save(), 0);
            due(Scripts.full().save(), 40);
        });
        row(53, "Restores what was saved", () -> {
            TraceAssembler x = Scripts.some();
            x.save();
            String saved = ReadOut.now(x);
            x.setTimes(1, 0, 20);
            x.remove(0);
            x.unlink(0);
            x.add(2, 0, 99, 6, 1, 2);
            due(ReadOut.now(x).equals(saved), false);
            due(x.restore(), 10);
            due(ReadOut.now(x), saved);
            x.clear();
            ReadOut.now(x);
            x.restore();
            due(ReadOut.now(x), saved);
        });
        row(53, "It stays saved", () -> {
            TraceAssembler x = Scripts.some();
            due(x.restore(), 10);
            x.remove(0);
            due(x.restore(), 10);
            x.clear();
            due(x.restore(), 10);
            due(x.linkCount(), 0);
            due(x.isCause(3), true);
            due(x.isCause(99), false);
        });
        row(53, "Throws `IllegalStateException`", () -> {
            refused(STATE, Scripts::full, TraceAssembler::restore);
            refused(STATE, Scripts::two, TraceAssembler::restore);
            TraceAssembler x = new TraceAssembler();
            due(outcome(x, TraceAssembler::restore), STATE);
            x.save();
            due(x.restore(), 0);
        });
    }
}
