import java.io.IOException;
import java.lang.reflect.Method;
import java.lang.reflect.Modifier;

/** The sentences of the document's description: for each of them what lies just inside of it, and just outside. */
public final class DescriptionTests extends Rows {
    public static void main(String[] args) throws IOException {
        spans();
        pairs();
        offsets();
        trees();
        criticalPaths();
        timesAndCauses();
        links();
        texts();
        history();
        exceptions();
        morePrecisely();
        runAll("DescriptionTests", 0, 0);
    }

    private static void spans() {
        row(0, "There are 4 traces and 8 services, both numbered from 0", () -> {
            TraceAssembler x = new TraceAssembler();
            for (int k = 0; k < 4; k++) {
                due(x.add(k, k, -1, 0, 0, 0), k + 1);
                due(x.span(k, 0), k);
            }
            for (int k = 0; k < 8; k++) {
                x.add(0, 10 + k, -1, k, 0, 0);
                due(x.span(10 + k, 2), k);
            }
            refused(ARGUMENT, Scripts::some, y -> y.add(-1, 5, -1, 0, 0, 0), y -> y.add(4, 5, -1, 0, 0, 0),
                    y -> y.add(0, 5, -1, -1, 0, 0), y -> y.add(0, 5, -1, 8, 0, 0));
        });
        row(0, "At most 40 spans are kept", () -> {
            TraceAssembler x = new TraceAssembler();
            for (int id = 0; id < 40; id++) {
                due(x.add(id % 4, id, -1, 0, 0, 0), id + 1);
            }
            due(outcome(x, y -> y.add(0, 40, -1, 0, 0, 0)), STATE);
            due(x.spanCount(), 40);
            due(x.span(39, 5), 39);
            refused(STATE, Scripts::full, y -> y.add(0, 0, -1, 0, 0, 0), y -> y.add(3, 59, 60, 7, 9999, 9999));
        });
        row(0, "A span has an id from 0 to 99, which no other kept span has", () -> {
            TraceAssembler x = new TraceAssembler();
            due(x.add(0, 0, 0, 0, 0, 0), 1);
            due(x.add(0, 99, 99, 0, 9999, 9999), 2);
            due(x.add(0, 1, -1, 0, 0, 9999), 3);
            due(ReadOut.text(x, 0) + ReadOut.text(x, 99) + ReadOut.text(x, 1),
                    "0/0<0@0:0-0;0/99<99@0:9999-9999;0/1<-@0:0-9999;");
            refused(ARGUMENT, Scripts::some, y -> y.add(0, -1, -1, 0, 0, 0), y -> y.add(0, 100, -1, 0, 0, 0),
                    y -> y.add(0, 5, -2, 0, 0, 0), y -> y.add(0, 5, 100, 0, 0, 0), y -> y.add(0, 5, -1, 0, -1, 0),
                    y -> y.add(0, 5, -1, 0, 9999, 10000), y -> y.add(0, 5, -1, 0, 1, 0),
                    y -> y.add(0, 5, -1, 0, 9999, 9998));
            refused(STATE, Scripts::some, y -> y.add(0, 0, -1, 0, 0, 0), y -> y.add(1, 99, 11, 0, 0, 0));
        });
        row(0, "It is marked as an error or not, and has a place in the order", () -> {
            TraceAssembler x = Scripts.two();
            due(x.isCause(0), false);
            x.mark(0, true);
            due(x.isCause(0), true);
            due(x.span(0, 5), 0);
            due(x.span(1, 5), 1);
            x.remove(0);
            due(x.span(1, 5), 0);
            x.add(0, 0, -1, 0, 0, 0);
            due(x.span(0, 5), 1);
            due(x.isCause(0), false);
        });
        row(0, "The parent of a span is present if there is a span with this id in the same trace", () -> {
            TraceAssembler x = Scripts.two();
            due(x.explain(1), 1);
            due(x.isInside(1), true);
            x.setParent(1, 2);
            due(x.explain(1), 2);
            due(outcome(x, y -> y.isInside(1)), MISSING);
            x.add(1, 2, -1, 0, 0, 100);
            due(x.explain(1), 2);
            due(outcome(x, y -> y.isInside(1)), MISSING);
            x.setParent(1, 1);
            due(x.explain(1), 2);
            due(outcome(x, y -> y.isInside(1)), MISSING);
        });
    }

    /** A parent from 100 to 200 of service 0 and a child of service 1. */
    private static TraceAssembler pair(int begin, int end) {
        TraceAssembler x = new TraceAssembler();
        x.add(0, 1, -1, 0, 100, 200);
        x.add(0, 2, 1, 1, begin, end);
        return x;
    }

    private static void pairs() {
        row(0, "A pair consists of a span and its present parent, if they belong to different services", () -> {
            TraceAssembler x = pair(130, 150);
            due(x.pairs(true), 1);
            x.add(0, 3, 1, 0, 130, 150);
            due(outcome(x, y -> y.isAccepted(3)), MISSING);
            x.add(1, 4, 1, 1, 130, 150);
            due(outcome(x, y -> y.isAccepted(4)), MISSING);
            x.add(0, 5, 5, 1, 130, 150);
            due(outcome(x, y -> y.isAccepted(5)), MISSING);
            due(x.pairs(true), 1);
            due(x.pairs(false), 0);
        });
        row(0, "It demands that the offset of the service of the span, minus", () -> {
            due(pair(130, 150).freedom(1), 81);
            due(pair(129, 150).freedom(1), 80);
            due(pair(130, 151).freedom(1), 80);
            due(pair(0, 100).freedom(1), 1);
            due(pair(0, 100).offset(1), 100);
            due(outcome(pair(0, 101), x -> x.isAccepted(2)), false);
            due(outcome(pair(0, 101), x -> x.freedom(1)), MISSING);
            // the first pair leaves only 0; a second one may touch it from below and from above
            int[][] times = {{100, 200}, {100, 150}, {150, 200}, {99, 150}, {150, 201}};
            for (int k = 0; k < 5; k++) {
                TraceAssembler x = pair(100, 200);
                x.add(0, 3, 1, 1, times[k][0], times[k][1]);
                due(x.isAccepted(3), k < 3);
                due(x.offset(1), 0);
            }
        });
        row(0, "Pairs are looked at in the order in which their spans came", () -> {
            TraceAssembler x = new TraceAssembler();
            x.add(0, 9, 5, 1, 0, 100);
            x.add(0, 1, 5, 1, 1, 101);
            x.add(0, 5, -1, 0, 0, 100);
            due(x.isAccepted(9), true);
            due(x.isAccepted(1), false);
            x.remove(9);
            x.add(0, 9, 5, 1, 0, 100);
            due(x.isAccepted(9), false);
            due(x.isAccepted(1), true);
            due(x.offset(1), -1);
        });
        row(0, "A pair is accepted if there are integers as offsets of all services", () -> {
            // 1 is put at 0, 2 from 0 to 10 after it; then 2 against 0 by the fourth span
            for (int late = -2; late <= 12; late++) {
                TraceAssembler x = new TraceAssembler();
                x.add(0, 0, -1, 0, 100, 200);
                x.add(0, 1, 0, 1, 100, 200);
                x.add(0, 2, 1, 2, 100, 190);
                x.add(0, 3, 0, 2, 100 - late, 200 - late);
                due(x.isAccepted(3), late >= 0 && late <= 10);
                // a rejected pair binds nobody
                x.add(0, 4, 1, 2, 100, 190);
                due(x.isAccepted(4), true);
                due(x.pairs(false), late >= 0 && late <= 10 ? 0 : 1);
            }
        });
    }

    private static void offsets() {
        row(0, "The offsets of the services are chosen in ascending order", () -> {
            TraceAssembler x = new TraceAssembler();
            x.add(0, 0, -1, 2, 0, 100);
            x.add(0, 1, 0, 1, 10, 31);
            due(x.offset(1), 0);
            // from -69 to 10
            due(x.offset(2), -30);
            due(x.freedom(2), 80);
            due(outcome(x, y -> y.freedom(1)), MISSING);
        });
        row(0, "For each service, the integers are considered that are possible as its offset", () -> {
            TraceAssembler x = new TraceAssembler();
            // 7 is from 0 to 10 after 0, and 3 from 0 to 5 after 7: nothing but 7 stands between 0 and 3
            x.add(0, 0, -1, 0, 100, 120);
            x.add(0, 1, 0, 7, 100, 110);
            x.add(0, 2, 1, 3, 100, 105);
            due(x.freedom(3), 16);
            due(x.offset(3), 7);
            // 7 is from 0 to 10, and with 3 at 7 from 2 to 7
            due(x.freedom(7), 6);
            due(x.offset(7), 4);
            // as far as offsets can be from one another
            TraceAssembler y = Scripts.late();
            due(y.offset(7), 69993);
            due(y.freedom(7), 1);
            due(y.corrected(13, true), 69993);
            due(y.extent(0), 69993 - 9999);
        });
        row(0, "If there is a least and a greatest one of them, the offset is half of their sum", () -> {
            due(pair(0, 100).offset(1), 100);
            due(pair(0, 99).offset(1), 100);
            due(pair(0, 98).offset(1), 101);
            due(pair(200, 300).offset(1), -100);
            due(pair(201, 300).offset(1), -101);
        });
        row(0, "Otherwise every integer is possible, and the offset is 0", () -> {
            TraceAssembler x = pair(0, 100);
            due(x.offset(0), 0);
            due(outcome(x, y -> y.freedom(0)), MISSING);
            due(x.offset(7), 0);
            due(outcome(x, y -> y.freedom(7)), MISSING);
            x.setTimes(2, 0, 101);
            due(x.offset(1), 0);
            due(outcome(x, y -> y.freedom(1)), MISSING);
        });
        row(0, "The corrected times of a span are its times plus the offset of its service", () -> {
            TraceAssembler x = pair(9899, 9999);
            x.add(3, 3, -1, 1, 0, 9999);
            due(x.corrected(2, false), 100);
            due(x.corrected(2, true), 200);
            due(x.corrected(3, false), -9799);
            due(x.corrected(3, true), 200);
            due(x.corrected(1, false), 100);
        });
        row(0, "Its duration is its end minus its begin", () -> {
            TraceAssembler x = new TraceAssembler();
            x.add(0, 1, -1, 0, 7, 7);
            due(x.service(0, 5), 0);
            due(x.setTimes(1, 0, 9999), 0);
            due(x.service(0, 5), 9999);
            due(x.service(0, 2), 9999);
            due(x.setTimes(1, 5, 6), 9999);
            due(x.quantile(0, 100), 1);
        });
    }

    /** A chain in trace 0: each of the ids has the next one as its parent, the last one has the given parent. */
    private static TraceAssembler chain(int last, int... ids) {
        TraceAssembler x = new TraceAssembler();
        for (int k = 0; k < ids.length; k++) {
            x.add(0, ids[k], k + 1 < ids.length ? ids[k + 1] : last, 0, 0, 10);
        }
        return x;
    }

    private static int[] upTo(int count) {
        int[] ids = new int[count];
        for (int k = 0; k < count; k++) {
            ids[k] = k;
        }
        return ids;
    }

    private static void trees() {
        row(0, "Each span has a place in a tree", () -> {
            TraceAssembler x = Scripts.some();
            int[] ids = {0, 1, 2, 3, 10, 11, 20, 21, 22, 99};
            int[] kinds = {0, 1, 1, 1, 3, 1, 2, 2, 2, 2};
            int[] roots = {0, 0, 0, 0, 10, 10, 1000, 1000, 1099, 1099};
            int[] depths = {0, 1, 1, 2, 0, 1, 1, 1, 1, 1};
            for (int k = 0; k < ids.length; k++) {
                due(x.explain(ids[k]), kinds[k]);
                due(x.root(ids[k]), roots[k]);
                due(x.depth(ids[k]), depths[k]);
            }
        });
        row(0, "A span without the id of a parent is a root", () -> {
            TraceAssembler x = Scripts.two();
            due(x.explain(0), 0);
            due(x.rootAt(0, 0), 0);
            x.setParent(0, 0);
            due(x.explain(0), 2);
            due(x.roots(0, false), 0);
            x.setParent(0, -1);
            due(x.roots(0, false), 1);
        });
        row(0, "A span whose parent is not present is a child of a placeholder", () -> {
            TraceAssembler x = new TraceAssembler();
            x.add(0, 1, 50, 0, 0, 0);
            x.add(0, 2, 50, 0, 0, 0);
            due(x.roots(0, true), 1);
            due(x.childCount(0, 1050), 2);
            x.add(0, 3, 51, 0, 0, 0);
            x.add(1, 4, 50, 0, 0, 0);
            due(x.roots(0, true), 2);
            due(x.roots(1, true), 1);
            due(x.childCount(1, 1050), 1);
            due(x.rootAt(0, 1), 1051);
            // the last child that leaves takes its placeholder with it
            x.setParent(3, 2);
            due(x.roots(0, true), 1);
            due(outcome(x, y -> y.childCount(0, 1051)), MISSING);
            // the span comes that was missing, but only in trace 0
            x.add(0, 50, -1, 0, 0, 0);
            due(x.roots(0, true), 0);
            due(x.roots(1, true), 1);
            due(x.childCount(0, 50), 2);
        });
        row(0, "A cycle is a sequence of spans, in which each one has the next one as its present parent", () -> {
            due(chain(5, 5).cutCount(), 0);
            due(chain(7, 7, 5).cutCount(), 1);
            due(chain(7, 7, 5).explain(5), 3);
            due(chain(7, 7, 5).explain(7), 1);
            due(chain(7, 7, 5).root(7), 5);
            due(chain(8, 8, 9, 2, 5).explain(2), 3);
            due(chain(8, 8, 9, 2, 5).depth(5), 3);
            // 2 leads to the cycle and is lower, but not in it
            due(chain(8, 2, 8, 9, 5).explain(2), 1);
            due(chain(8, 2, 8, 9, 5).explain(5), 3);
            TraceAssembler x = chain(0, upTo(40));
            due(x.cutCount(), 1);
            due(x.explain(0), 3);
            due(x.depth(1), 39);
            due(x.below(0, 0), 39);
            x.setParent(39, -1);
            due(x.cutCount(), 0);
            // two cycles, each with its own cut, and the same ids in a chain over two traces, which is no cycle
            x.setParent(39, 20);
            x.setParent(19, 0);
            due(x.cutCount(), 2);
            due(x.roots(0, false), 2);
            TraceAssembler y = new TraceAssembler();
            y.add(0, 1, 2, 0, 0, 0);
            y.add(1, 2, 1, 0, 0, 0);
            due(y.cutCount(), 0);
            due(y.roots(0, true), 1);
        });
        row(0, "All other spans are children of their parents", () -> {
            TraceAssembler x = chain(8, 2, 8, 9, 5);
            int[] kinds = {1, 1, 1, 3};
            int[] ids = {2, 8, 9, 5};
            for (int k = 0; k < 4; k++) {
                due(x.explain(ids[k]), kinds[k]);
            }
            due(x.child(0, 8, 0), 2);
            // 5 is cut, so it is not a child of its parent 8
            due(x.childCount(0, 8), 1);
            due(x.child(0, 9, 0), 8);
            due(x.child(0, 5, 0), 9);
        });
        row(0, "The corrected times of a placeholder are the least begin and the greatest end", () -> {
            TraceAssembler x = new TraceAssembler();
            x.add(0, 1, 50, 0, 20, 20);
            due(x.missing(0, 1050, false), 20);
            due(x.missing(0, 1050, true), 20);
            x.add(0, 2, 50, 0, 19, 19);
            x.add(0, 3, 50, 0, 20, 21);
            x.add(0, 4, 51, 0, 0, 99);
            x.add(1, 5, 50, 0, 0, 99);
            x.add(0, 6, 1, 0, 0, 99);
            due(x.missing(0, 1050, false), 19);
            due(x.missing(0, 1050, true), 21);
        });
        row(0, "The number of a placeholder is 1000 plus the id that is missing", () -> {
            TraceAssembler x = new TraceAssembler();
            x.add(0, 1, 0, 0, 0, 0);
            x.add(0, 2, 99, 0, 0, 0);
            due(x.rootAt(0, 0), 1000);
            due(x.rootAt(0, 1), 1099);
            due(x.root(1), 1000);
            due(x.root(2), 1099);
            due(outcome(x, y -> y.childCount(0, 1001)), MISSING);
            due(outcome(x, y -> y.childCount(0, 1098)), MISSING);
        });
        row(0, "The nodes of a trace are its spans and its placeholders; the children of a node are ordered", () -> {
            TraceAssembler x = new TraceAssembler();
            x.add(0, 9, 50, 0, 5, 5);
            x.add(0, 7, 50, 0, 5, 6);
            x.add(0, 8, 50, 0, 4, 9);
            x.add(0, 6, 50, 0, 6, 6);
            int[] want = {8, 7, 9, 6};
            for (int k = 0; k < 4; k++) {
                due(x.child(0, 1050, k), want[k]);
            }
            // by corrected begins: 5 is put from 5 to 9, so it goes before 7
            x.add(0, 50, -1, 0, 5, 9);
            x.add(0, 5, 50, 1, 100, 104);
            due(x.child(0, 50, 1), 5);
            due(x.child(0, 50, 2), 7);
        });
    }

    /** The segments of a node as text: node, begin and end of each. */
    private static String path(TraceAssembler x, int trace, int node) {
        StringBuilder text = new StringBuilder();
        for (int k = 0; k < x.segments(trace, node); k++) {
            text.append(x.segment(trace, node, k, 0)).append(':').append(x.segment(trace, node, k, 1)).append('-');
            text.append(x.segment(trace, node, k, 2)).append(' ');
        }
        return text.toString().trim();
    }

    /** Span 1 from 100 to 200, with children 2, 3 and so on of the given begins and ends. */
    private static TraceAssembler parent(int... times) {
        TraceAssembler x = new TraceAssembler();
        for (int k = 0; k + 1 < times.length; k += 2) {
            x.add(0, 2 + k / 2, 1, 0, times[k], times[k + 1]);
        }
        x.add(0, 1, -1, 0, 100, 200);
        return x;
    }

    private static void criticalPaths() {
        row(0, "The critical path of a node in a window", () -> {
            // the window of 2 is not that of 1: 2 by itself has a path of its own length
            TraceAssembler x = parent(50, 150);
            due(path(x, 0, 1), "2:100-150 1:150-200");
            due(path(x, 0, 2), "2:50-150");
            x.add(0, 3, 2, 0, 50, 101);
            due(path(x, 0, 1), "3:100-101 2:101-150 1:150-200");
            x.setTimes(3, 50, 100);
            due(path(x, 0, 1), "2:100-150 1:150-200");
            due(path(x, 0, 2), "3:50-100 2:100-150");
        });
        row(0, "As long as t is greater than the begin of the window, consider the children", () -> {
            due(path(parent(50, 100), 0, 1), "1:100-200");
            due(path(parent(50, 101), 0, 1), "2:100-101 1:101-200");
            due(path(parent(200, 250), 0, 1), "1:100-200");
            due(path(parent(199, 250), 0, 1), "1:100-199 2:199-200");
            due(path(parent(150, 150), 0, 1), "1:100-200");
            due(path(parent(150, 151), 0, 1), "1:100-150 2:150-151 1:151-200");
            // a second child that ends where the first one begins, and one that begins there
            due(path(parent(150, 200, 120, 150), 0, 1), "1:100-120 3:120-150 2:150-200");
            due(path(parent(150, 200, 150, 180), 0, 1), "1:100-150 2:150-200");
            due(path(parent(150, 200, 149, 180), 0, 1), "1:100-149 3:149-150 2:150-200");
        });
        row(0, "If there is none, the range from the begin of the window to t is a segment", () -> {
            due(path(parent(), 0, 1), "1:100-200");
            due(path(parent(100, 200), 0, 1), "2:100-200");
            due(path(parent(101, 200), 0, 1), "1:100-101 2:101-200");
        });
        row(0, "Otherwise, the child is taken whose cut range ends latest", () -> {
            due(path(parent(100, 199, 120, 200), 0, 1), "2:100-120 3:120-200");
            // all end at 200 when they are cut
            due(path(parent(120, 200, 119, 999), 0, 1), "1:100-119 3:119-200");
            due(path(parent(119, 200, 120, 999), 0, 1), "1:100-119 2:119-200");
            // and begin at 100: the lowest id, whatever came first or is longer
            due(path(parent(100, 200, 0, 999), 0, 1), "2:100-200");
            due(path(parent(0, 999, 100, 200), 0, 1), "2:100-200");
            TraceAssembler x = new TraceAssembler();
            x.add(0, 9, -1, 0, 100, 200);
            x.add(0, 8, 9, 0, 100, 200);
            x.add(0, 7, 9, 0, 100, 200);
            due(path(x, 0, 9), "7:100-200");
            // the cut at t counts, too: both are cut at 150
            due(path(parent(150, 200, 110, 180, 109, 150), 0, 1), "1:100-109 4:109-150 2:150-200");
        });
        row(0, "If its cut range ends before t, the range from there to t is a segment", () -> {
            due(path(parent(100, 199), 0, 1), "2:100-199 1:199-200");
            due(path(parent(100, 201), 0, 1), "2:100-200");
            due(path(parent(150, 200, 100, 149), 0, 1), "3:100-149 1:149-150 2:150-200");
        });
        row(0, "Then the critical path of the child in its cut range follows, and t becomes the begin", () -> {
            TraceAssembler x = parent(150, 250, 90, 160);
            x.add(0, 4, 2, 0, 199, 230);
            x.add(0, 5, 3, 0, 95, 101);
            x.add(0, 6, 3, 0, 149, 155);
            due(path(x, 0, 1), "5:100-101 3:101-149 6:149-150 2:150-199 4:199-200");
            TraceAssembler y = new TraceAssembler();
            for (int k = 0; k < 40; k++) {
                y.add(0, k, k - 1, 0, k, 100 - k);
            }
            due(y.segments(0, 0), 79);
            due(y.segment(0, 0, 39, 0), 39);
            due(y.segment(0, 0, 39, 1), 39);
            due(y.segment(0, 0, 39, 2), 61);
            due(y.criticalTime(39), 22);
            // as deep as a path can go: under a placeholder, too
            y.setParent(0, 99);
            due(y.segments(0, 1099), 79);
            due(y.segment(0, 1099, 39, 0), 39);
            due(y.criticalTime(39), 22);
        });
        row(0, "The critical path of a node is that in the window of its whole corrected times", () -> {
            TraceAssembler x = Scripts.some();
            due(path(x, 0, 0), "0:100-140 1:140-145 3:145-155 1:155-160 0:160-200");
            due(path(x, 1, 10), "10:0-5 11:5-45 10:45-50");
            due(path(x, 2, 1000), "20:10-20 1000:20-30 21:30-40");
            due(path(x, 3, 1099), "99:9000-9999");
            x.setTimes(20, 20, 20);
            due(x.segments(2, 20), 0);
            due(outcome(x, y -> y.segment(2, 20, 0, 0)), MISSING);
            x.setTimes(20, 20, 21);
            due(path(x, 2, 20), "20:20-21");
            // below 0: service 1 is put 9999 earlier
            TraceAssembler z = new TraceAssembler();
            z.add(0, 2, 3, 1, 20, 30);
            z.add(0, 4, 3, 1, 10, 25);
            z.add(0, 3, -1, 1, 0, 40);
            z.add(0, 0, 1, 1, 9999, 9999);
            z.add(0, 1, -1, 0, 0, 0);
            due(path(z, 0, 3), "3:-9999--9989 4:-9989--9979 2:-9979--9969 3:-9969--9959");
            due(z.criticalAt(0, 3, -9980), 4);
            due(outcome(z, y -> y.criticalAt(0, 3, -9959)), MISSING);
        });
    }

    private static void timesAndCauses() {
        row(0, "The self time of a span is the number of time units in its corrected times", () -> {
            due(parent().selfTime(1), 100);
            due(parent(0, 100).selfTime(1), 100);
            due(parent(0, 101).selfTime(1), 99);
            due(parent(200, 300).selfTime(1), 100);
            due(parent(199, 300).selfTime(1), 99);
            due(parent(150, 150).selfTime(1), 100);
            due(parent(101, 199).selfTime(1), 2);
            due(parent(100, 200).selfTime(1), 0);
            due(parent(110, 120, 120, 130).selfTime(1), 80);
            due(parent(110, 120, 119, 130).selfTime(1), 80);
            due(parent(110, 120, 121, 130).selfTime(1), 81);
            due(parent(110, 150, 120, 130, 140, 160).selfTime(1), 50);
        });
        row(0, "A span that is marked as an error is a cause if no other span below it", () -> {
            TraceAssembler x = chain(-1, upTo(40));
            x.mark(39, true);
            due(x.isCause(39), true);
            x.mark(0, true);
            due(x.isCause(39), false);
            due(x.isCause(0), true);
            due(x.isCause(20), false);
            x.mark(0, false);
            due(x.isCause(39), true);
            // cut from the cycle, 0 is above all others and not below them
            x.setParent(39, 0);
            x.mark(0, true);
            due(x.isCause(39), true);
            due(x.isCause(0), false);
        });
    }

    private static void links() {
        row(0, "There are at most 30 links, numbered from 0 in the order in which they were made", () -> {
            TraceAssembler x = Scripts.full();
            x.unlink(29);
            due(x.link(99, 60), 29);
            due(outcome(x, y -> y.link(99, 61)), STATE);
            due(x.linkCount(), 30);
            due(x.linkDelay(0), 20 - 30);
            // the end of 99 is put from 420 to 380
            due(x.linkDelay(29), 0 - 380);
            refused(STATE, Scripts::full, y -> y.link(99, 60), y -> y.link(60, 62));
        });
        row(0, "A link leads from a span to another one, possibly of another trace", () -> {
            TraceAssembler x = Scripts.some();
            due(x.link(0, 1), 3);
            due(x.link(1, 0), 4);
            due(x.link(99, 0), 5);
            refused(ARGUMENT, Scripts::some, y -> y.link(0, 0), y -> y.link(99, 99));
        });
        row(0, "If a span is removed, all links from it and to it are removed", () -> {
            TraceAssembler x = Scripts.some();
            x.link(99, 10);
            x.link(0, 20);
            due(x.remove(10), 9);
            due(x.linkCount(), 2);
            // from 20 to 99, then from 0 to 20
            due(x.linkDelay(0), 9000 - 20);
            due(x.linkDelay(1), 10 - 200);
            due(outcome(x, y -> y.linkDelay(2)), INDEX);
            due(x.remove(11), 8);
            due(x.linkCount(), 2);
        });
    }

    private static void texts() {
        row(0, "The input is a buffer of at most 80 characters", () -> {
            TraceAssembler x = new TraceAssembler();
            for (int k = 1; k <= 80; k++) {
                due(x.append(' '), k);
            }
            due(outcome(x, y -> y.append(' ')), STATE);
            refused(STATE, Scripts::full, y -> y.append(' '), y -> y.append(';'));
        });
        row(0, "A text consists of one or several entries, each of which describes a span", () -> {
            String[] texts = {"0/0<0@0:0-0;", "3/99<99@7:9999-9999!;", "0/1<-@0:0-0;0/2<-@0:0-0!;", "1/5<6@7:8-9;",
                "0/05<06@0:0008-0009;", "0/5<6@0:10-200;", "0/5<6@0:100-2000;"};
            String[] wrong = {"", ";", "4/0<0@0:0-0;", "-/0<0@0:0-0;", "0/<0@0:0-0;", "0/100<0@0:0-0;", "0/0<@0:0-0;",
                "0/0<100@0:0-0;", "0/0<-1@0:0-0;", "0/0<0@8:0-0;", "0/0<0@:0-0;", "0/0<0@0:-0;", "0/0<0@0:0-;",
                "0/0<0@0:00000-0;", "0/0<0@0:0-00000;", "0/0<0@0:0-0!!;", "0/0<0@0:0-0", "0/0<0@0:0-0!",
                "00/0<0@0:0-0;",
                "0/0<0@0:0!-0;", "0/0<0@0:0-0;0/1<-@0:0-0", "0/0<0@0:0-0;;", "0/0<0@00:0-0;", " 0/0<0@0:0-0;",
                "0/0<0@0:0-0; ", "0/0<--@0:0-0;", "0:0<0@0:0-0;", "0/0>0@0:0-0;", "0/0<0:0:0-0;", "0/0<0@0@0-0;",
                "0/0<0@0:0:0;", "0/0<0@0:0-0:", "0/:<0@0:0-0;", "0/0:<0@0:0-0;", "0/0<:@0:0-0;", "0/0<0:@0:0-0;",
                "0/0<0@0::-0;", "0/0<0@0:0:-0;", "0/0<0@0:0-:;", "0/0<0@0:0-0:;", "0//<0@0:0-0;", "0/0/<0@0:0-0;",
                "0/0</@0:0-0;", "0/0<0@0:/-0;", "0/0<0@0:0-/;", "//0<0@0:0-0;", "0/0<0@/:0-0;"};
            for (String text : texts) {
                due(outcome(new TraceAssembler(), x -> Scripts.read(x, text)), text.indexOf(";0") > 0 ? 2 : 1);
            }
            for (String text : wrong) {
                due(outcome(new TraceAssembler(), x -> Scripts.read(x, text)) + " " + text, ARGUMENT + " " + text);
            }
        });
        row(0, "The error position of a text that is not like this is the smallest index k", () -> {
            // each start of a text has its length, each start with a wrong sign behind it the place of the sign
            String text = "3/99<98@7:9998-9999!;0/1<-@0:0-0;";
            TraceAssembler x = new TraceAssembler();
            for (int length = 0; length < text.length(); length++) {
                String start = text.substring(0, length);
                if (length != 21) {
                    due(outcome(x, y -> Scripts.read(y, start)), ARGUMENT);
                    due(x.errorPosition(), length);
                }
                due(outcome(x, y -> Scripts.read(y, start + "x")), ARGUMENT);
                due(x.errorPosition(), length);
                due(outcome(x, y -> Scripts.read(y, start + "x;0")), ARGUMENT);
                due(x.errorPosition(), length);
            }
            due(outcome(x, y -> Scripts.read(y, text + "4")), ARGUMENT);
            due(x.errorPosition(), 33);
            String[] odd = {"4", "0/123", "0/1<123", "0/1<-1", "0/1<-@8", "0/1<-@77", "0/1<-@7:12345",
                "0/1<-@7:1-12345", "0/1<-@7:1-1!!", "0/1<-@7:-", "0/1<-@7:1-;", "0/1<@"};
            int[] want = {0, 4, 6, 5, 6, 7, 12, 14, 12, 8, 10, 4};
            for (int k = 0; k < odd.length; k++) {
                String start = odd[k];
                due(outcome(x, y -> Scripts.read(y, start)), ARGUMENT);
                due(x.errorPosition(), want[k]);
            }
            String most = "0/1<-@0:0-0;".repeat(6) + "2/77<-@0";
            due(outcome(x, y -> Scripts.read(y, most)), ARGUMENT);
            due(x.errorPosition(), 80);
        });
    }

    private static void history() {
        row(0, "A change is a call of add, remove, setParent, setTimes, mark, link, unlink or read", () -> {
            Call[] changes = {x -> x.add(0, 5, -1, 0, 0, 0), x -> x.remove(1), x -> x.setParent(1, -1),
                x -> x.setTimes(1, 5, 6), x -> x.mark(1, true), x -> x.link(0, 1),
                x -> Scripts.read(x, "0/5<1@0:0-0;")};
            for (Call change : changes) {
                TraceAssembler x = Scripts.still();
                change.on(x);
                due(outcome(x, TraceAssembler::undo), 0);
                alike(x, Scripts.still());
            }
            TraceAssembler y = Scripts.still();
            y.link(1, 0);
            y.unlink(0);
            due(y.undo(), 1);
            due(y.linkCount(), 1);
            Call[] others = {x -> x.save(), x -> x.append('x'), x -> x.bookmark(0, 0, 0, 1), x -> x.clear(),
                x -> x.restore(), x -> x.spanCount(), x -> x.offset(0), x -> x.describe(1, 0),
                x -> x.add(0, 1, -1, 0, 0, 0), x -> x.add(4, 5, -1, 0, 0, 0), x -> x.remove(5),
                x -> x.setParent(1, 100),
                x -> x.setTimes(1, 1, 0), x -> x.mark(5, true), x -> x.link(1, 1), x -> x.unlink(0), x -> x.read(),
                x -> Scripts.read(x, "0/1<-@0:0-0;")};
            for (Call other : others) {
                TraceAssembler x = Scripts.still();
                outcome(x, other);
                due(outcome(x, TraceAssembler::undo), MISSING);
            }
        });
        row(0, "The object remembers all spans and links before the last 8 changes", () -> {
            for (int changes = 7; changes <= 20; changes++) {
                TraceAssembler x = new TraceAssembler();
                for (int id = 0; id < changes; id++) {
                    x.add(0, id, id - 1, 0, 0, id);
                }
                int most = Math.min(changes, 8);
                for (int left = most - 1; left >= 0; left--) {
                    due(x.undo(), left);
                    due(x.spanCount(), changes - most + left);
                }
                due(outcome(x, TraceAssembler::undo), MISSING);
                due(x.spanCount(), changes - most);
                // the room of the changes that were undone is free again
                for (int id = 50; id < 59; id++) {
                    x.add(1, id, -1, 0, 0, 0);
                }
                due(x.undo(), 7);
                due(x.spanCount(), changes - most + 8);
            }
        });
        row(0, "clear and restore forget them", () -> {
            TraceAssembler x = Scripts.some();
            x.clear();
            due(outcome(x, TraceAssembler::undo), MISSING);
            x.add(0, 1, -1, 0, 0, 0);
            due(x.undo(), 0);
            TraceAssembler y = Scripts.some();
            y.restore();
            due(outcome(y, TraceAssembler::undo), MISSING);
            due(y.mark(0, true), false);
            due(y.undo(), 0);
            // save forgets nothing
            TraceAssembler z = Scripts.some();
            z.save();
            due(z.undo(), 7);
        });
    }

    private static void exceptions() {
        row(0, "A method that throws an exception leaves the state unchanged", () -> {
            refused(INDEX, Scripts::full, x -> x.remove(59), x -> x.setParent(59, 60), x -> x.setTimes(0, 0, 0),
                    x -> x.mark(59, true), x -> x.link(60, 59), x -> x.unlink(30), x -> x.bookmark(2, 0, 0, 60));
            refused(ARGUMENT, Scripts::full, x -> x.add(0, 0, -1, 0, 1, 0), x -> x.setParent(60, 100),
                    x -> x.setTimes(60, 1, 0), x -> x.link(60, 60), x -> x.append((char) 127));
            refused(STATE, Scripts::full, x -> x.add(0, 0, -1, 0, 0, 0), x -> x.link(60, 62), x -> x.append('a'),
                    x -> x.restore());
            refused(MISSING, Scripts::still, x -> x.undo(), x -> x.errorPosition(), x -> x.bookmark(0, 0, 0, 2));
            refused(UNSUPPORTED, Scripts::some, x -> x.bookmark(0, 0, 2, 1000));
        });
        row(0, "If several exceptions apply, the one that is documented first is thrown", () -> {
            due(outcome(Scripts.full(), x -> x.add(0, 60, -1, 0, 1, 0)), ARGUMENT);
            due(outcome(Scripts.full(), x -> x.add(4, 59, -1, 0, 0, 0)), ARGUMENT);
            refused(INDEX, Scripts::some, x -> x.setParent(4, 100), x -> x.setTimes(4, 1, 0), x -> x.span(4, 6),
                    x -> x.child(4, 77, 9), x -> x.rootAt(4, 9), x -> x.missing(4, 1, true), x -> x.segments(4, 77),
                    x -> x.segment(4, 77, 9, 3), x -> x.criticalAt(4, 77, 0), x -> x.cause(4, 9),
                    x -> x.service(8, 6), x -> x.quantile(8, 101), x -> x.link(4, 4), x -> x.bookmark(2, 0, 0, 77),
                    x -> x.bookmark(0, 4, 2, 1000), x -> x.bookmark(0, 0, 4, 77), x -> x.bookmarked(2, 1),
                    x -> x.describe(4, 99), x -> x.below(4, 77), x -> x.childCount(-1, 77));
            refused(ARGUMENT, Scripts::some, x -> x.segment(0, 77, 9, 3), x -> x.segment(0, 0, 99, -1),
                    x -> x.quantile(6, 101), x -> x.service(6, 6));
            refused(MISSING, Scripts::some, x -> x.bookmark(0, 0, 0, 1000), x -> x.bookmark(0, 0, 3, 1000));
            due(outcome(new TraceAssembler(), x -> x.activity(4, 0)), INDEX);
            due(outcome(new TraceAssembler(), x -> x.activity(0, 8)), INDEX);
            due(outcome(new TraceAssembler(), x -> x.activity(0, 0)), MISSING);
            due(outcome(new TraceAssembler(), x -> x.busiest(0)), MISSING);
            due(outcome(Scripts.full(), x -> x.link(60, 60)), ARGUMENT);
            due(outcome(Scripts.full(), x -> x.link(60, 0)), INDEX);
            due(outcome(Scripts.full(), x -> x.append((char) 31)), ARGUMENT);
            due(outcome(Scripts.two(), x -> Scripts.read(x, "0/0<-@0:5-4;?")), ARGUMENT);
        });
        row(0, "Sets are bit masks, bit k for number k", () -> {
            TraceAssembler x = Scripts.some();
            int[] want = {2 + 4 + 8, 4 + 8, 8, 0};
            for (int trace = 0; trace < 4; trace++) {
                due(x.linkedTraces(trace), want[trace]);
            }
            x.link(99, 0);
            due(x.linkedTraces(3), 1 + 2 + 4 + 8);
        });
        row(0, "Methods whose documentation does not mention a change only answer a question", () -> {
            Call[] questions = {x -> x.spanCount(), x -> x.span(0, 5), x -> x.offset(1), x -> x.freedom(1),
                    x -> x.pairs(true), x -> x.isAccepted(1), x -> x.isInside(1), x -> x.corrected(1, true),
                    x -> x.explain(1), x -> x.root(1), x -> x.depth(1), x -> x.below(0, 0), x -> x.childCount(0, 0),
                    x -> x.child(0, 0, 0), x -> x.roots(0, true), x -> x.rootAt(0, 0), x -> x.missing(2, 1000, true),
                    x -> x.cutCount(), x -> x.segments(0, 0), x -> x.segment(0, 0, 0, 0), x -> x.criticalTime(1),
                    x -> x.criticalAt(0, 0, 150), x -> x.selfTime(0), x -> x.parallel(0, 150), x -> x.isCause(3),
                    x -> x.cause(0, 0), x -> x.errorShare(0), x -> x.service(1, 4), x -> x.quantile(1, 50),
                    x -> x.extent(0), x -> x.activity(0, 0), x -> x.busiest(0), x -> x.linkCount(),
                    x -> x.linkDelay(0), x -> x.linkedTraces(0), x -> x.bookmarked(0, 0), x -> x.errorPosition(),
                    x -> x.describe(0, -1)};
            onlyAnswers(Scripts::some, questions);
            // each question as the first one after a change, and after all others
            for (Call question : questions) {
                TraceAssembler first = Scripts.some();
                ReadOut.now(first);
                changeMuch(first);
                Object got = outcome(first, question);
                TraceAssembler last = Scripts.some();
                changeMuch(last);
                ReadOut.now(last);
                due(got, outcome(last, question));
            }
        });
    }

    private static void changeMuch(TraceAssembler x) {
        x.setTimes(0, 90, 260);
        x.setTimes(3, 0, 2);
        x.setParent(3, 2);
        x.setParent(20, 99);
        x.setTimes(21, 50, 70);
        x.add(1, 8, 11, 6, 0, 1);
        x.setParent(10, 8);
        x.remove(99);
    }

    private static void morePrecisely() {
        row(0, "A span that has its own id as that of its parent is the child of a placeholder", () -> {
            TraceAssembler x = Scripts.two();
            x.setParent(0, 0);
            due(x.explain(0), 2);
            due(x.root(1), 1000);
            due(x.depth(1), 2);
            due(x.cutCount(), 0);
            due(x.childCount(0, 0), 1);
            due(x.childCount(0, 1000), 1);
            due(x.pairs(true) + x.pairs(false), 0);
        });
        row(0, "Half of a sum is rounded down also below 0", () -> {
            // from -1 to 0, from -2 to -1, from -3 to 0
            due(pair(101, 200).offset(1), -1);
            due(pair(102, 201).offset(1), -2);
            due(pair(103, 200).offset(1), -2);
            due(pair(102, 200).offset(1), -1);
            due(pair(100, 199).offset(1), 0);
        });
        row(0, "A span that was cut from a cycle makes a pair with its present parent all the same", () -> {
            TraceAssembler x = new TraceAssembler();
            x.add(0, 1, 2, 0, 0, 10);
            x.add(0, 2, 1, 1, 0, 10);
            due(x.explain(1), 3);
            due(x.isAccepted(1), true);
            due(x.pairs(true), 2);
            due(x.isInside(1), true);
            x.setTimes(2, 0, 9);
            due(x.isAccepted(1), false);
            due(x.isAccepted(2), true);
            due(x.isInside(1), false);
        });
        row(0, "A span that was removed and added again in the same trace is the node of its bookmark", () -> {
            TraceAssembler x = Scripts.some();
            x.remove(0);
            due(outcome(x, y -> y.bookmarked(0, 0)), MISSING);
            x.add(1, 0, -1, 5, 7, 8);
            due(outcome(x, y -> y.bookmarked(0, 0)), MISSING);
            x.remove(0);
            x.add(0, 0, 3, 5, 7, 8);
            due(x.bookmarked(0, 0), 0);
        });
        row(0, "Pairs keep their places when setParent or setTimes change spans", () -> {
            TraceAssembler x = new TraceAssembler();
            x.add(0, 0, -1, 0, 0, 100);
            x.add(0, 1, -1, 1, 0, 100);
            x.add(0, 2, 0, 1, 1, 101);
            due(x.isAccepted(2), true);
            x.setParent(1, 0);
            due(x.isAccepted(1), true);
            due(x.isAccepted(2), false);
            x.setTimes(1, 0, 101);
            due(x.isAccepted(1), false);
            due(x.isAccepted(2), true);
            x.setTimes(1, 2, 102);
            due(x.isAccepted(1), true);
            due(x.isAccepted(2), false);
        });
        row(0, "Numbers in a text can have leading zeros; a begin greater than the end is no error", () -> {
            TraceAssembler x = new TraceAssembler();
            due(Scripts.read(x, "0/00<00@0:0000-0000;1/01<09@2:0003-0040;"), 2);
            due(ReadOut.text(x, 0), "0/0<0@0:0-0;");
            due(ReadOut.text(x, 1), "1/1<9@2:3-40;");
            due(outcome(x, y -> Scripts.read(y, "0/2<-@0:1-0;")), STATE);
            due(outcome(x, TraceAssembler::errorPosition), MISSING);
        });
        row(0, "undo and restore leave the bookmarks, the input and the error position", () -> {
            TraceAssembler x = Scripts.some();
            x.undo();
            due(x.bookmarked(0, 0), 0);
            due(x.bookmarked(1, 3), 21099);
            due(x.errorPosition(), 2);
            due(x.append('7'), 12);
            x.restore();
            due(x.bookmarked(0, 0), 0);
            due(x.bookmarked(1, 3), 21099);
            due(x.errorPosition(), 2);
            due(x.append(';'), 13);
            due(x.read(), 1);
            due(ReadOut.text(x, 77), "2/77<-@0:1-7;");
            x.undo();
            due(x.append('0'), 1);
        });
        row(0, "A call that is named under History is a change also if nothing is different then", () -> {
            Call[] calls = {x -> x.setParent(1, 0), x -> x.setTimes(1, 0, 50), x -> x.mark(1, false)};
            for (Call call : calls) {
                TraceAssembler x = Scripts.still();
                x.mark(0, true);
                for (int k = 0; k < 7; k++) {
                    call.on(x);
                }
                for (int left = 7; left > 0; left--) {
                    due(x.undo(), left);
                    due(x.mark(0, true), true);
                    x.undo();
                }
                due(x.undo(), 0);
                due(x.isCause(0), false);
            }
        });
        row(0, "The critical times of a service are those of spans of all traces", () -> {
            TraceAssembler x = Scripts.some();
            int[] want = {80, 20, 50, 10, 10, 9, 0, 999};
            for (int service = 0; service < 8; service++) {
                due(x.service(service, 4), want[service]);
            }
            x.add(0, 50, -1, 7, 0, 1);
            x.add(1, 51, -1, 7, 0, 10);
            x.add(2, 52, -1, 7, 0, 100);
            due(x.service(7, 4), 1110);
        });
        row(0, "The constructor and the methods follow, a promise each", () -> {
            int methods = 0;
            for (Method method : TraceAssembler.class.getDeclaredMethods()) {
                methods += Modifier.isPublic(method.getModifiers()) ? 1 : 0;
            }
            due(methods + TraceAssembler.class.getConstructors().length, 53);
        });
    }
}
