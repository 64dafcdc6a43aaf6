import java.util.NoSuchElementException;

/** Each promise of the document by hand: ordinary calls, the edges that the document names, and wrong inputs. */
public final class PromiseTests {
    private interface Call {
        Object run();
    }

    private static final Class<?> INDEX = IndexOutOfBoundsException.class;
    private static final Class<?> ARGUMENT = IllegalArgumentException.class;
    private static final Class<?> STATE = IllegalStateException.class;
    private static final Class<?> MISSING = NoSuchElementException.class;
    private static final Class<?> ARITHMETIC = ArithmeticException.class;
    private static final Class<?> UNSUPPORTED = UnsupportedOperationException.class;
    private static final int LOW = Integer.MIN_VALUE;
    private static final int HIGH = Integer.MAX_VALUE;

    private static int passed = 0;
    private static int failed = 0;
    private static int promise = 0;

    private static void due(Object got, Object want) {
        if (got.equals(want)) {
            passed++;
            return;
        }
        failed++;
        int line = new Throwable().getStackTrace()[1].getLineNumber();
        System.out.println("promise " + promise + ", line " + line + ": answered " + got + ", due is " + want);
    }

    private static void dueThrow(Class<?> want, Call... calls) {
        int line = new Throwable().getStackTrace()[1].getLineNumber();
        for (int k = 0; k < calls.length; k++) {
            Object got;
            try {
                got = calls[k].run();
            } catch (RuntimeException e) {
                got = e.getClass();
            }
            if (want.equals(got)) {
                passed++;
            } else {
                failed++;
                System.out.println("promise " + promise + ", line " + line + ", call " + k + ": " + got
                        + ", due is " + want);
            }
        }
    }

    private static int read(TraceAssembler x, String text) {
        for (char c : text.toCharArray()) {
            x.append(c);
        }
        return x.read();
    }

    private static String describe(TraceAssembler x, int span) {
        StringBuilder text = new StringBuilder();
        for (int k = 0; k < x.describe(span, -1); k++) {
            text.append((char) x.describe(span, k));
        }
        return text.toString();
    }

    /** Root 1 from 0 to 100 with children 2 (10 to 40), 3 (30 to 60) and 4 (60 to 60), all of one service. */
    private static TraceAssembler family() {
        TraceAssembler x = new TraceAssembler();
        x.add(0, 1, -1, 0, 0, 100);
        x.add(0, 3, 1, 0, 30, 60);
        x.add(0, 2, 1, 0, 10, 40);
        x.add(0, 4, 1, 0, 60, 60);
        return x;
    }

    private static TraceAssembler full() {
        TraceAssembler x = new TraceAssembler();
        for (int id = 0; id < 40; id++) {
            x.add(0, id, -1, 0, 0, id);
        }
        return x;
    }

    public static void main(String[] args) {
        Runnable[] promises = {
            PromiseTests::newObject, PromiseTests::clear, PromiseTests::add, PromiseTests::remove,
            PromiseTests::setParent, PromiseTests::setTimes, PromiseTests::mark, PromiseTests::spanCount,
            PromiseTests::span, PromiseTests::offset, PromiseTests::freedom, PromiseTests::pairs,
            PromiseTests::isAccepted, PromiseTests::isInside, PromiseTests::corrected, PromiseTests::explain,
            PromiseTests::root, PromiseTests::depth, PromiseTests::below, PromiseTests::childCount,
            PromiseTests::child, PromiseTests::roots, PromiseTests::rootAt, PromiseTests::missing,
            PromiseTests::cutCount, PromiseTests::segments, PromiseTests::segment, PromiseTests::criticalTime,
            PromiseTests::criticalAt, PromiseTests::selfTime, PromiseTests::parallel, PromiseTests::isCause,
            PromiseTests::cause, PromiseTests::errorShare, PromiseTests::service, PromiseTests::quantile,
            PromiseTests::extent, PromiseTests::activity, PromiseTests::busiest, PromiseTests::link,
            PromiseTests::unlink, PromiseTests::linkCount, PromiseTests::linkDelay, PromiseTests::linkedTraces,
            PromiseTests::bookmark, PromiseTests::bookmarked, PromiseTests::append, PromiseTests::readText,
            PromiseTests::errorPosition, PromiseTests::describeSpan, PromiseTests::undo, PromiseTests::save,
            PromiseTests::restore,
        };
        for (Runnable each : promises) {
            promise++;
            each.run();
        }
        System.out.println("PromiseTests: " + passed + " answers as due, " + failed + " not");
        if (failed != 0 || promise != 53) {
            System.exit(1);
        }
    }

    private static void newObject() {
        TraceAssembler x = new TraceAssembler();
        due(x.spanCount(), 0);
        due(x.linkCount(), 0);
        due(x.cutCount(), 0);
        due(x.pairs(true), 0);
        due(x.pairs(false), 0);
        for (int service = 0; service < 8; service++) {
            due(x.offset(service), 0);
            int each = service;
            dueThrow(MISSING, () -> x.freedom(each));
        }
        due(x.roots(3, false), 0);
        due(x.roots(3, true), 0);
        dueThrow(MISSING, x::undo, x::errorPosition, () -> x.rootAt(0, 0), () -> x.bookmarked(0, 0));
        dueThrow(STATE, x::restore);
        dueThrow(INDEX, () -> x.remove(0));
    }

    private static void clear() {
        TraceAssembler x = family();
        x.link(1, 2);
        x.save();
        x.append('x');
        dueThrow(ARGUMENT, x::read);
        x.append('0');
        x.bookmark(0, 0, 0, 1);
        due(x.clear(), 4);
        due(x.spanCount(), 0);
        due(x.linkCount(), 0);
        dueThrow(MISSING, x::undo, () -> x.bookmarked(0, 0), () -> x.below(0, 1));
        due(x.clear(), 0);
        due(x.append('/'), 2);
        due(x.errorPosition(), 0);
        due(x.restore(), 4);
        due(x.linkCount(), 1);
        due(x.bookmarked(0, 0), 1);
        // what was worked out before is gone, too
        TraceAssembler y = new TraceAssembler();
        y.add(0, 1, 9, 0, 100, 200);
        y.add(0, 2, 1, 1, 130, 150);
        due(y.offset(1), 10);
        y.clear();
        due(y.offset(1), 0);
        due(y.cutCount(), 0);
        dueThrow(MISSING, () -> y.freedom(1), () -> y.below(0, 1009));
    }

    private static void add() {
        TraceAssembler x = new TraceAssembler();
        due(x.add(3, 99, 99, 7, 9999, 9999), 1);
        due(x.add(0, 0, -1, 0, 0, 0), 2);
        due(x.span(99, 1), 99);
        due(x.mark(99, false), false);
        dueThrow(ARGUMENT, () -> x.add(-1, 1, -1, 0, 0, 0), () -> x.add(4, 1, -1, 0, 0, 0),
                () -> x.add(0, -1, -1, 0, 0, 0), () -> x.add(0, 100, -1, 0, 0, 0),
                () -> x.add(0, 1, -2, 0, 0, 0), () -> x.add(0, 1, 100, 0, 0, 0),
                () -> x.add(0, 1, -1, -1, 0, 0), () -> x.add(0, 1, -1, 8, 0, 0),
                () -> x.add(0, 1, -1, 0, -1, 0), () -> x.add(0, 1, -1, 0, 0, 10000),
                () -> x.add(0, 1, -1, 0, 10000, 10000), () -> x.add(0, 1, -1, 0, -1, -1),
                () -> x.add(0, 1, -1, 0, 5, 4), () -> x.add(LOW, HIGH, LOW, HIGH, LOW, HIGH));
        dueThrow(STATE, () -> x.add(1, 99, -1, 0, 0, 0), () -> x.add(0, 0, -1, 0, 0, 0));
        dueThrow(ARGUMENT, () -> x.add(0, 0, -1, 0, 5, 4));
        due(x.spanCount(), 2);
        due(x.undo(), 2);
        TraceAssembler y = full();
        dueThrow(STATE, () -> y.add(0, 40, -1, 0, 0, 0));
        dueThrow(ARGUMENT, () -> y.add(0, 100, -1, 0, 0, 0));
        due(y.remove(7), 39);
        due(y.add(0, 40, -1, 0, 0, 0), 40);
    }

    private static void remove() {
        TraceAssembler x = family();
        x.link(1, 2);
        x.link(3, 1);
        x.link(4, 2);
        x.link(3, 4);
        dueThrow(INDEX, () -> x.remove(0), () -> x.remove(-1), () -> x.remove(1001), () -> x.remove(HIGH));
        due(x.remove(1), 3);
        due(x.linkCount(), 2);
        due(x.linkDelay(0), 10 - 60);
        due(x.linkDelay(1), 0);
        due(x.span(3, 5), 0);
        due(x.span(2, 5), 1);
        due(x.span(4, 5), 2);
        due(x.explain(2), 2);
        due(x.remove(2), 2);
        due(x.linkCount(), 1);
        due(x.undo(), 7);
        due(x.linkCount(), 2);
        due(x.span(2, 5), 1);
        due(x.span(4, 5), 2);
    }

    private static void setParent() {
        TraceAssembler x = family();
        due(x.setParent(1, 99), -1);
        due(x.setParent(1, 0), 99);
        due(x.explain(1), 2);
        due(x.setParent(1, -1), 0);
        due(x.explain(1), 0);
        dueThrow(ARGUMENT, () -> x.setParent(1, -2), () -> x.setParent(1, 100), () -> x.setParent(1, 1000));
        dueThrow(INDEX, () -> x.setParent(5, 1), () -> x.setParent(5, -2));
        due(x.span(1, 1), -1);
        due(x.setParent(3, 2), 1);
        due(x.depth(3), 2);
        due(x.span(3, 5), 1);
    }

    private static void setTimes() {
        TraceAssembler x = family();
        due(x.setTimes(1, 0, 9999), 100);
        due(x.setTimes(1, 7, 7), 9999);
        due(x.span(1, 3), 7);
        due(x.span(1, 4), 7);
        dueThrow(ARGUMENT, () -> x.setTimes(1, -1, 0), () -> x.setTimes(1, 0, 10000), () -> x.setTimes(1, 8, 7),
                () -> x.setTimes(1, 10000, 10000), () -> x.setTimes(1, LOW, HIGH), () -> x.setTimes(1, -2, -1));
        dueThrow(INDEX, () -> x.setTimes(0, 0, 0), () -> x.setTimes(0, 1, 0));
        due(x.setTimes(1, 0, 0), 0);
    }

    private static void mark() {
        TraceAssembler x = family();
        due(x.mark(2, true), false);
        due(x.mark(2, true), true);
        due(x.mark(2, false), true);
        due(x.mark(2, false), false);
        dueThrow(INDEX, () -> x.mark(5, true), () -> x.mark(1001, false));
        due(x.service(0, 1), 0);
        due(x.undo(), 7);
        due(x.undo(), 6);
        due(x.mark(2, true), true);
    }

    private static void spanCount() {
        TraceAssembler x = family();
        due(x.spanCount(), 4);
        x.remove(1);
        due(x.spanCount(), 3);
        due(full().spanCount(), 40);
    }

    private static void span() {
        TraceAssembler x = new TraceAssembler();
        x.add(1, 9, -1, 2, 3, 4);
        x.add(3, 5, 9, 7, 8, 6000);
        int[] want = {3, 9, 7, 8, 6000, 1};
        for (int what = 0; what < 6; what++) {
            due(x.span(5, what), want[what]);
        }
        due(x.span(9, 1), -1);
        dueThrow(ARGUMENT, () -> x.span(5, -1), () -> x.span(5, 6), () -> x.span(5, HIGH));
        dueThrow(INDEX, () -> x.span(1, 0), () -> x.span(1, 6), () -> x.span(-1, 0));
        x.remove(9);
        due(x.span(5, 5), 0);
        x.add(1, 9, -1, 2, 3, 4);
        due(x.span(9, 5), 1);
    }

    private static void offset() {
        TraceAssembler x = new TraceAssembler();
        x.add(0, 1, -1, 0, 100, 200);
        x.add(0, 2, 1, 1, 130, 151);
        // from -30 to 49
        due(x.offset(1), 9);
        x.setTimes(2, 131, 250);
        // demanded: at least -31, at most -50, which cannot be
        due(x.offset(1), 0);
        x.setTimes(2, 131, 230);
        // from -31 to -30: half of -61 is rounded down
        due(x.offset(1), -31);
        due(x.offset(0), 0);
        dueThrow(INDEX, () -> x.offset(-1), () -> x.offset(8), () -> x.offset(LOW));
        TraceAssembler y = new TraceAssembler();
        // service 5 is under service 2, service 3 under service 5: 2 is chosen first, then 3, then 5 between both
        y.add(0, 1, -1, 2, 0, 100);
        y.add(0, 2, 1, 5, 10, 30);
        y.add(0, 3, 2, 3, 50, 60);
        // 5 - 2 from -10 to 70, 3 - 5 from -40 to -30, so 3 - 2 from -50 to 40
        due(y.offset(2), 0);
        due(y.offset(3), -5);
        // 5 from -10 to 70 and, with 3 at -5, from 25 to 35
        due(y.offset(5), 30);
        due(y.corrected(2, false), 40);
        due(y.corrected(3, true), 55);
        y.setParent(2, 77);
        due(y.offset(5), 20 + 15);
        due(y.offset(3), 0);
    }

    private static void freedom() {
        TraceAssembler x = new TraceAssembler();
        x.add(0, 1, -1, 2, 0, 100);
        x.add(0, 2, 1, 5, 10, 30);
        x.add(0, 3, 2, 3, 50, 60);
        due(x.freedom(3), 91);
        due(x.freedom(5), 11);
        dueThrow(MISSING, () -> x.freedom(2), () -> x.freedom(0), () -> x.freedom(7));
        dueThrow(INDEX, () -> x.freedom(-1), () -> x.freedom(8), () -> x.freedom(HIGH));
        x.setTimes(2, 10, 110);
        x.setTimes(3, 10, 110);
        due(x.freedom(3), 1);
        due(x.freedom(5), 1);
        due(x.offset(5), -10);
        x.setParent(2, -1);
        due(x.freedom(5), 1);
        dueThrow(MISSING, () -> x.freedom(3));
    }

    private static void pairs() {
        TraceAssembler x = new TraceAssembler();
        x.add(0, 1, -1, 0, 0, 100);
        x.add(0, 2, 1, 0, 0, 10);
        x.add(1, 3, 1, 1, 0, 10);
        x.add(0, 4, 4, 1, 0, 10);
        due(x.pairs(true), 0);
        due(x.pairs(false), 0);
        x.add(0, 5, 1, 1, 0, 10);
        x.add(0, 6, 1, 1, 0, 101);
        x.add(0, 7, 1, 1, 5, 15);
        due(x.pairs(true), 2);
        due(x.pairs(false), 1);
        x.add(0, 8, 1, 1, 200, 200);
        due(x.pairs(true), 2);
        due(x.pairs(false), 2);
        // the pair of 5 is looked at first, whatever its times become
        x.setTimes(5, 300, 310);
        due(x.pairs(true), 1);
        due(x.pairs(false), 3);
        // both pairs of a cycle count
        TraceAssembler y = new TraceAssembler();
        y.add(0, 1, 2, 0, 0, 10);
        y.add(0, 2, 1, 1, 0, 10);
        due(y.pairs(true), 2);
        y.setTimes(1, 1, 10);
        due(y.pairs(true), 1);
        due(y.pairs(false), 1);
    }

    private static void isAccepted() {
        TraceAssembler x = new TraceAssembler();
        x.add(0, 2, 1, 1, 0, 10);
        dueThrow(MISSING, () -> x.isAccepted(2));
        x.add(0, 3, 1, 1, 90, 100);
        x.add(0, 1, -1, 0, 0, 100);
        due(x.isAccepted(2), true);
        due(x.isAccepted(3), true);
        x.setTimes(3, 90, 101);
        due(x.isAccepted(3), false);
        due(x.isAccepted(2), true);
        x.setTimes(3, 90, 100);
        due(x.isAccepted(3), true);
        // added again, it comes after the others
        x.setTimes(3, 90, 101);
        x.remove(2);
        x.add(0, 2, 1, 1, 0, 10);
        due(x.isAccepted(3), true);
        due(x.isAccepted(2), false);
        dueThrow(MISSING, () -> x.isAccepted(1));
        dueThrow(INDEX, () -> x.isAccepted(0), () -> x.isAccepted(-1));
        // the third pair contradicts the first two only together
        TraceAssembler y = new TraceAssembler();
        y.add(0, 1, -1, 0, 0, 10);
        y.add(0, 2, 1, 1, 5, 15);
        y.add(0, 3, 2, 2, 5, 15);
        y.add(0, 4, 1, 2, 6, 16);
        due(y.isAccepted(2), true);
        due(y.isAccepted(3), true);
        due(y.isAccepted(4), false);
        due(y.offset(1), -5);
        due(y.offset(2), -5);
        y.setTimes(4, 5, 15);
        due(y.isAccepted(4), true);
        y.setTimes(4, 4, 14);
        due(y.isAccepted(4), false);
    }

    private static void isInside() {
        TraceAssembler x = new TraceAssembler();
        x.add(0, 1, -1, 0, 50, 100);
        x.add(0, 2, 1, 0, 50, 100);
        due(x.isInside(2), true);
        x.setTimes(2, 49, 100);
        due(x.isInside(2), false);
        x.setTimes(2, 50, 101);
        due(x.isInside(2), false);
        x.add(0, 3, 1, 1, 1000, 1050);
        due(x.isInside(3), true);
        x.setTimes(3, 1000, 1051);
        due(x.isInside(3), false);
        x.setParent(1, 2);
        due(x.isInside(1), true);
        dueThrow(INDEX, () -> x.isInside(4));
        x.setParent(2, 2);
        x.setParent(1, -1);
        x.setParent(3, 77);
        dueThrow(MISSING, () -> x.isInside(1), () -> x.isInside(2), () -> x.isInside(3));
    }

    private static void corrected() {
        TraceAssembler x = new TraceAssembler();
        x.add(0, 1, -1, 0, 0, 10);
        x.add(0, 2, 1, 1, 500, 504);
        x.add(3, 3, -1, 1, 0, 9999);
        // from -500 to -494
        due(x.corrected(2, false), 3);
        due(x.corrected(2, true), 7);
        due(x.corrected(3, false), -497);
        due(x.corrected(3, true), 9502);
        due(x.corrected(1, false), 0);
        due(x.corrected(1, true), 10);
        dueThrow(INDEX, () -> x.corrected(0, true), () -> x.corrected(1001, false));
    }

    private static void explain() {
        TraceAssembler x = new TraceAssembler();
        x.add(0, 1, -1, 0, 0, 0);
        x.add(0, 2, 1, 0, 0, 0);
        x.add(0, 3, 3, 0, 0, 0);
        x.add(1, 4, 1, 0, 0, 0);
        x.add(2, 7, 9, 0, 0, 0);
        x.add(2, 8, 7, 0, 0, 0);
        x.add(2, 9, 8, 0, 0, 0);
        x.add(2, 5, 8, 0, 0, 0);
        x.add(2, 6, 5, 0, 0, 0);
        int[] want = {0, 1, 2, 2, 1, 1, 3, 1, 1};
        for (int span = 1; span <= 9; span++) {
            due(x.explain(span), want[span - 1]);
        }
        x.setParent(7, 5);
        // now the cycle is 5, 8, 7
        due(x.explain(5), 3);
        due(x.explain(7), 1);
        due(x.explain(9), 1);
        dueThrow(INDEX, () -> x.explain(0), () -> x.explain(1009), () -> x.explain(-1));
    }

    private static void root() {
        TraceAssembler x = new TraceAssembler();
        x.add(1, 10, 11, 0, 0, 9);
        x.add(1, 11, 12, 0, 0, 9);
        x.add(1, 12, 10, 0, 0, 9);
        x.add(1, 13, 11, 0, 0, 9);
        due(x.root(10), 10);
        due(x.root(12), 10);
        due(x.root(13), 10);
        x.setParent(12, 0);
        due(x.root(12), 1000);
        due(x.root(10), 1000);
        x.setParent(12, 12);
        due(x.root(13), 1012);
        dueThrow(INDEX, () -> x.root(1012), () -> x.root(14));
    }

    private static void depth() {
        TraceAssembler x = new TraceAssembler();
        for (int id = 0; id < 40; id++) {
            x.add(0, id, id + 1, 0, 0, 0);
        }
        due(x.depth(0), 40);
        due(x.depth(39), 1);
        due(x.root(0), 1040);
        x.setParent(39, -1);
        due(x.depth(0), 39);
        due(x.depth(39), 0);
        x.setParent(39, 0);
        due(x.depth(0), 0);
        due(x.depth(1), 39);
        due(x.depth(39), 1);
        due(x.root(1), 0);
        dueThrow(INDEX, () -> x.depth(40), () -> x.depth(1040));
    }

    private static void below() {
        TraceAssembler x = family();
        x.add(0, 5, 2, 0, 0, 0);
        x.add(0, 6, 5, 0, 0, 0);
        x.add(0, 7, 50, 0, 0, 0);
        x.add(0, 8, 7, 0, 0, 0);
        x.add(1, 9, 50, 0, 0, 0);
        due(x.below(0, 1), 5);
        due(x.below(0, 2), 2);
        due(x.below(0, 6), 0);
        due(x.below(0, 1050), 2);
        due(x.below(1, 1050), 1);
        dueThrow(INDEX, () -> x.below(-1, 1), () -> x.below(4, 1), () -> x.below(4, 99));
        dueThrow(MISSING, () -> x.below(1, 1), () -> x.below(0, 1001), () -> x.below(0, 50), () -> x.below(0, -1),
                () -> x.below(0, LOW), () -> x.below(0, HIGH), () -> x.below(0, 999), () -> x.below(0, 1100));
        // in a cycle the cut span is above the others
        x.setParent(1, 6);
        due(x.below(0, 1), 5);
        due(x.below(0, 6), 0);
    }

    private static void childCount() {
        TraceAssembler x = family();
        x.add(0, 5, 2, 0, 0, 0);
        x.add(0, 6, 1, 0, 0, 0);
        x.add(0, 7, 50, 0, 0, 0);
        x.add(0, 8, 50, 0, 0, 0);
        x.add(1, 9, 50, 0, 0, 0);
        x.add(1, 10, 1, 0, 0, 0);
        due(x.childCount(0, 1), 4);
        due(x.childCount(0, 2), 1);
        due(x.childCount(0, 5), 0);
        due(x.childCount(0, 1050), 2);
        due(x.childCount(1, 1050), 1);
        due(x.childCount(1, 1001), 1);
        dueThrow(INDEX, () -> x.childCount(-1, 1), () -> x.childCount(4, 1));
        dueThrow(MISSING, () -> x.childCount(1, 1), () -> x.childCount(0, 1001), () -> x.childCount(0, 40),
                () -> x.childCount(0, -1), () -> x.childCount(2, 1050));
        // a span and a placeholder for the same id
        x.setParent(6, 6);
        x.setParent(5, 6);
        due(x.childCount(0, 6), 1);
        due(x.childCount(0, 1006), 1);
    }

    private static void child() {
        TraceAssembler x = family();
        due(x.child(0, 1, 0), 2);
        due(x.child(0, 1, 1), 3);
        due(x.child(0, 1, 2), 4);
        dueThrow(MISSING, () -> x.child(0, 1, 3), () -> x.child(0, 1, -1), () -> x.child(0, 2, 0),
                () -> x.child(0, 9, 0), () -> x.child(1, 1, 0), () -> x.child(0, 1, HIGH), () -> x.child(0, 1, LOW));
        dueThrow(INDEX, () -> x.child(-1, 1, 0), () -> x.child(4, 1, 9));
        // no node between the ids and the numbers, nor -1 for what roots have above them
        dueThrow(MISSING, () -> x.child(0, -1, 0), () -> x.child(0, 500, 0));
        x.setTimes(3, 10, 12);
        due(x.child(0, 1, 0), 2);
        due(x.child(0, 1, 1), 3);
        x.setTimes(2, 11, 12);
        due(x.child(0, 1, 0), 3);
        // the corrected begin decides: 5 is put from 20 to 80
        x.add(0, 5, 1, 1, 9000, 9060);
        due(x.corrected(5, false), 20);
        due(x.child(0, 1, 2), 5);
        x.setParent(2, 60);
        x.setParent(3, 60);
        due(x.child(0, 1060, 0), 3);
        due(x.child(0, 1060, 1), 2);
    }

    private static void roots() {
        TraceAssembler x = family();
        x.add(0, 5, 60, 0, 0, 0);
        x.add(0, 6, 60, 0, 0, 0);
        x.add(0, 7, 61, 0, 0, 0);
        x.add(0, 8, 9, 0, 0, 0);
        x.add(0, 9, 8, 0, 0, 0);
        x.add(1, 10, 5, 0, 0, 0);
        due(x.roots(0, false), 2);
        due(x.roots(0, true), 2);
        due(x.roots(1, false), 0);
        due(x.roots(1, true), 1);
        due(x.roots(2, false), 0);
        due(x.roots(2, true), 0);
        dueThrow(INDEX, () -> x.roots(-1, true), () -> x.roots(4, false));
        due(full().roots(0, false), 40);
    }

    private static void rootAt() {
        TraceAssembler x = new TraceAssembler();
        x.add(0, 9, 99, 0, 0, 0);
        x.add(0, 99, -1, 0, 0, 0);
        x.add(0, 5, 61, 0, 0, 0);
        x.add(0, 6, 2, 0, 0, 0);
        x.add(0, 7, 2, 0, 0, 0);
        x.add(0, 3, 4, 0, 0, 0);
        x.add(0, 4, 3, 0, 0, 0);
        x.add(2, 50, 50, 0, 0, 0);
        int[] want = {3, 99, 1002, 1061};
        for (int index = 0; index < want.length; index++) {
            due(x.rootAt(0, index), want[index]);
        }
        due(x.rootAt(2, 0), 1050);
        dueThrow(MISSING, () -> x.rootAt(0, 4), () -> x.rootAt(0, -1), () -> x.rootAt(1, 0), () -> x.rootAt(0, HIGH),
                () -> x.rootAt(2, 1), () -> x.rootAt(0, LOW));
        dueThrow(INDEX, () -> x.rootAt(-1, 0), () -> x.rootAt(4, 9));
        due(full().rootAt(0, 39), 39);
        dueThrow(MISSING, () -> full().rootAt(0, 40));
    }

    private static void missing() {
        TraceAssembler x = new TraceAssembler();
        x.add(0, 1, 9, 0, 20, 30);
        x.add(0, 2, 9, 0, 10, 15);
        x.add(0, 3, 9, 0, 12, 12);
        x.add(1, 4, 9, 0, 0, 99);
        due(x.missing(0, 1009, false), 10);
        due(x.missing(0, 1009, true), 30);
        due(x.missing(1, 1009, true), 99);
        dueThrow(MISSING, () -> x.missing(0, 1, true), () -> x.missing(0, 9, true), () -> x.missing(0, 1008, false),
                () -> x.missing(2, 1009, false), () -> x.missing(0, -1, false), () -> x.missing(0, HIGH, true));
        dueThrow(INDEX, () -> x.missing(-1, 1009, true), () -> x.missing(4, 1, true));
        // by corrected times: service 1 is 100 late
        x.add(2, 5, -1, 0, 0, 10);
        x.add(2, 6, 5, 1, 100, 110);
        x.add(2, 7, 70, 1, 50, 60);
        x.add(2, 8, 70, 0, 40, 45);
        due(x.missing(2, 1070, false), -50);
        due(x.missing(2, 1070, true), 45);
    }

    private static void cutCount() {
        TraceAssembler x = new TraceAssembler();
        x.add(0, 1, 2, 0, 0, 0);
        due(x.cutCount(), 0);
        x.add(0, 2, 1, 0, 0, 0);
        due(x.cutCount(), 1);
        x.add(0, 3, 4, 0, 0, 0);
        x.add(0, 4, 3, 0, 0, 0);
        x.add(3, 5, 6, 0, 0, 0);
        x.add(3, 6, 5, 0, 0, 0);
        due(x.cutCount(), 3);
        x.add(3, 7, 7, 0, 0, 0);
        x.add(2, 8, 9, 0, 0, 0);
        x.add(1, 9, 8, 0, 0, 0);
        due(x.cutCount(), 3);
        x.setParent(4, 1);
        due(x.cutCount(), 2);
    }

    private static void segments() {
        TraceAssembler x = family();
        // 1 from 0 to 10, 2 to 30, 3 to 60, 1 to 100
        due(x.segments(0, 1), 4);
        due(x.segments(0, 2), 1);
        due(x.segments(0, 4), 0);
        x.setTimes(3, 0, 100);
        due(x.segments(0, 1), 1);
        x.setTimes(3, 40, 60);
        due(x.segments(0, 1), 4);
        x.setTimes(3, 41, 60);
        due(x.segments(0, 1), 5);
        dueThrow(INDEX, () -> x.segments(-1, 1), () -> x.segments(4, 99));
        dueThrow(MISSING, () -> x.segments(0, 99), () -> x.segments(1, 1), () -> x.segments(0, 1001));
        // the longest path: a comb of 39 spans under a span, with gaps before, between and behind
        TraceAssembler y = new TraceAssembler();
        y.add(0, 0, 99, 0, 0, 1000);
        for (int id = 1; id < 40; id++) {
            y.add(0, id, 0, 0, 10 * id, 10 * id + 5);
        }
        due(y.segments(0, 0), 79);
        due(y.segments(0, 1099), 79);
        due(y.segment(0, 1099, 78, 2), 1000);
    }

    private static void checkSegments(TraceAssembler x, int trace, int node, int[] want) {
        due(x.segments(trace, node), want.length / 3);
        for (int k = 0; k < want.length && k < 3 * x.segments(trace, node); k++) {
            due(x.segment(trace, node, k / 3, k % 3), want[k]);
        }
    }

    private static void segment() {
        TraceAssembler x = family();
        checkSegments(x, 0, 1, new int[] {1, 0, 10, 2, 10, 30, 3, 30, 60, 1, 60, 100});
        checkSegments(x, 0, 2, new int[] {2, 10, 40});
        dueThrow(MISSING, () -> x.segment(0, 1, 4, 0), () -> x.segment(0, 1, -1, 0), () -> x.segment(0, 4, 0, 0),
                () -> x.segment(0, 9, 0, 0), () -> x.segment(0, 1, HIGH, 2), () -> x.segment(0, 1, LOW, 2));
        dueThrow(ARGUMENT, () -> x.segment(0, 1, 0, 3), () -> x.segment(0, 1, 0, -1), () -> x.segment(0, 9, 9, 3));
        dueThrow(INDEX, () -> x.segment(4, 1, 0, 0), () -> x.segment(-1, 9, 9, 9));
        // the first question after a change, then nodes of another trace, which have paths there
        TraceAssembler w = family();
        w.add(1, 9, 1, 0, 0, 100);
        due(w.segment(1, 1001, 0, 0), 9);
        dueThrow(MISSING, () -> w.segment(1, 1, 0, 0), () -> w.segment(0, 9, 0, 0), () -> w.segment(0, 1001, 0, 0));
        // children that stick out are cut, also those of children; the latest end wins, then the earliest begin
        TraceAssembler y = new TraceAssembler();
        y.add(0, 1, -1, 0, 100, 200);
        y.add(0, 2, 1, 0, 150, 300);
        y.add(0, 3, 1, 0, 140, 250);
        y.add(0, 4, 1, 0, 50, 145);
        y.add(0, 5, 3, 0, 190, 220);
        y.add(0, 6, 3, 0, 100, 150);
        y.add(0, 7, 4, 0, 60, 120);
        checkSegments(y, 0, 1, new int[] {7, 100, 120, 4, 120, 140, 6, 140, 150, 3, 150, 190, 5, 190, 200});
        // of equal cut ranges the lowest id, though its own range differs
        y.setTimes(2, 140, 210);
        checkSegments(y, 0, 1, new int[] {7, 100, 120, 4, 120, 140, 2, 140, 200});
        y.setTimes(4, 50, 60);
        checkSegments(y, 0, 1, new int[] {1, 100, 140, 2, 140, 200});
        // a placeholder with a gap between its children
        TraceAssembler z = new TraceAssembler();
        z.add(0, 5, 9, 0, 10, 20);
        z.add(0, 6, 9, 0, 30, 40);
        checkSegments(z, 0, 1009, new int[] {5, 10, 20, 1009, 20, 30, 6, 30, 40});
        // of equal ends the earliest begin, not the lowest id
        z.setTimes(5, 31, 40);
        checkSegments(z, 0, 1009, new int[] {6, 30, 40});
    }

    private static void criticalTime() {
        TraceAssembler x = family();
        due(x.criticalTime(1), 50);
        due(x.criticalTime(2), 20);
        due(x.criticalTime(3), 30);
        due(x.criticalTime(4), 0);
        x.add(0, 5, 3, 0, 40, 70);
        due(x.criticalTime(5), 20);
        due(x.criticalTime(3), 10);
        // on the path of the placeholder, not of the span
        x.setParent(1, 80);
        x.add(0, 6, 80, 0, 90, 200);
        due(x.criticalTime(1), 40);
        due(x.criticalTime(6), 110);
        x.setTimes(6, 0, 200);
        due(x.criticalTime(1), 0);
        due(x.criticalTime(5), 0);
        dueThrow(INDEX, () -> x.criticalTime(1080), () -> x.criticalTime(0));
    }

    private static void criticalAt() {
        TraceAssembler x = family();
        due(x.criticalAt(0, 1, 0), 1);
        due(x.criticalAt(0, 1, 9), 1);
        due(x.criticalAt(0, 1, 10), 2);
        due(x.criticalAt(0, 1, 29), 2);
        due(x.criticalAt(0, 1, 30), 3);
        due(x.criticalAt(0, 1, 60), 1);
        due(x.criticalAt(0, 1, 99), 1);
        due(x.criticalAt(0, 2, 39), 2);
        dueThrow(MISSING, () -> x.criticalAt(0, 1, 100), () -> x.criticalAt(0, 1, -1), () -> x.criticalAt(0, 4, 60),
                () -> x.criticalAt(0, 9, 10), () -> x.criticalAt(1, 1, 10), () -> x.criticalAt(0, 1, HIGH),
                () -> x.criticalAt(0, 1, LOW));
        dueThrow(INDEX, () -> x.criticalAt(-1, 1, 10), () -> x.criticalAt(4, 9, 10));
        x.setParent(2, 70);
        x.setParent(3, 70);
        x.setTimes(2, 10, 20);
        due(x.criticalAt(0, 1070, 25), 1070);
    }

    private static void selfTime() {
        TraceAssembler x = family();
        due(x.selfTime(1), 50);
        due(x.selfTime(2), 30);
        due(x.selfTime(4), 0);
        x.setTimes(2, 30, 60);
        due(x.selfTime(1), 70);
        x.setTimes(2, 10, 20);
        due(x.selfTime(1), 60);
        x.setTimes(1, 15, 50);
        due(x.selfTime(1), 10);
        x.setTimes(3, 0, 9999);
        due(x.selfTime(1), 0);
        // what is further below does not count
        x.setTimes(1, 0, 100);
        x.setParent(3, 2);
        due(x.selfTime(1), 90);
        due(x.selfTime(2), 0);
        dueThrow(INDEX, () -> x.selfTime(0), () -> x.selfTime(1001));
    }

    private static void parallel() {
        TraceAssembler x = family();
        due(x.parallel(1, 9), 0);
        due(x.parallel(1, 10), 1);
        due(x.parallel(1, 30), 2);
        due(x.parallel(1, 39), 2);
        due(x.parallel(1, 40), 1);
        due(x.parallel(1, 60), 0);
        due(x.parallel(2, 30), 0);
        due(x.parallel(1, LOW), 0);
        due(x.parallel(1, HIGH), 0);
        dueThrow(INDEX, () -> x.parallel(0, 10), () -> x.parallel(-1, 10));
        // also outside of the span itself, and a cut span is no child
        x.setTimes(3, 200, 300);
        due(x.parallel(1, 250), 1);
        x.setParent(1, 3);
        due(x.parallel(3, 50), 0);
    }

    private static void isCause() {
        TraceAssembler x = family();
        x.add(0, 5, 2, 0, 0, 0);
        due(x.isCause(1), false);
        x.mark(1, true);
        due(x.isCause(1), true);
        x.mark(5, true);
        due(x.isCause(1), false);
        due(x.isCause(2), false);
        due(x.isCause(5), true);
        x.mark(2, true);
        due(x.isCause(2), false);
        x.mark(3, true);
        due(x.isCause(3), true);
        // cut at 1, so 2 is not below 5
        x.setParent(1, 5);
        due(x.isCause(5), true);
        due(x.isCause(1), false);
        x.mark(5, false);
        due(x.isCause(2), true);
        dueThrow(INDEX, () -> x.isCause(0), () -> x.isCause(6));
    }

    private static void cause() {
        TraceAssembler x = family();
        dueThrow(MISSING, () -> x.cause(0, 0));
        x.mark(1, true);
        due(x.cause(0, 0), 1);
        x.mark(3, true);
        x.mark(2, true);
        x.mark(4, true);
        due(x.cause(0, 0), 2);
        due(x.cause(0, 1), 3);
        due(x.cause(0, 2), 4);
        dueThrow(MISSING, () -> x.cause(0, 3), () -> x.cause(0, -1), () -> x.cause(1, 0), () -> x.cause(0, HIGH));
        dueThrow(INDEX, () -> x.cause(-1, 0), () -> x.cause(4, 9));
        x.setTimes(3, 10, 10);
        x.setTimes(4, 10, 11);
        due(x.cause(0, 1), 3);
        due(x.cause(0, 2), 4);
        x.setTimes(2, 11, 11);
        due(x.cause(0, 0), 3);
        due(x.cause(0, 2), 2);
    }

    private static void errorShare() {
        TraceAssembler x = family();
        due(x.errorShare(0), 0.0);
        x.mark(1, true);
        due(x.errorShare(0), 0.25);
        x.remove(3);
        due(x.errorShare(0), 1.0 / 3.0);
        x.add(1, 3, -1, 0, 0, 0);
        due(x.errorShare(1), 0.0);
        x.mark(3, true);
        due(x.errorShare(1), 1.0);
        dueThrow(ARITHMETIC, () -> x.errorShare(2));
        dueThrow(INDEX, () -> x.errorShare(-1), () -> x.errorShare(4));
    }

    private static void service() {
        TraceAssembler x = family();
        x.mark(2, true);
        x.mark(4, true);
        x.add(3, 9, 98, 0, 7, 9);
        int[] want = {5, 2, 100 + 30 + 30 + 0 + 2, 50 + 30 + 30 + 0 + 2, 50 + 20 + 30 + 0 + 2, 100};
        for (int what = 0; what < 6; what++) {
            due(x.service(0, what), want[what]);
            due(x.service(7, what), 0);
        }
        dueThrow(INDEX, () -> x.service(-1, 0), () -> x.service(8, 0), () -> x.service(8, 6));
        dueThrow(ARGUMENT, () -> x.service(0, -1), () -> x.service(0, 6), () -> x.service(0, HIGH));
        // the self and critical times of each service apart
        TraceAssembler y = new TraceAssembler();
        y.add(0, 1, -1, 0, 0, 100);
        y.add(0, 2, 1, 1, 10, 50);
        y.add(0, 3, 2, 2, 20, 30);
        y.add(1, 4, -1, 2, 0, 5);
        due(y.service(0, 3), 60);
        due(y.service(1, 3), 30);
        due(y.service(2, 3), 15);
        due(y.service(0, 4), 60);
        due(y.service(1, 4), 30);
        due(y.service(2, 4), 15);
        due(y.service(2, 5), 10);
    }

    private static void quantile() {
        TraceAssembler x = new TraceAssembler();
        int[] durations = {30, 10, 40, 20, 10};
        for (int id = 0; id < 5; id++) {
            x.add(id % 4, id, -1, 3, id, id + durations[id]);
        }
        x.add(0, 9, -1, 4, 0, 1);
        due(x.quantile(3, 0), 10);
        due(x.quantile(3, 40), 10);
        due(x.quantile(3, 41), 20);
        due(x.quantile(3, 60), 20);
        due(x.quantile(3, 61), 30);
        due(x.quantile(3, 80), 30);
        due(x.quantile(3, 81), 40);
        due(x.quantile(3, 100), 40);
        due(x.quantile(4, 0), 1);
        dueThrow(INDEX, () -> x.quantile(-1, 0), () -> x.quantile(8, 101));
        dueThrow(ARGUMENT, () -> x.quantile(3, -1), () -> x.quantile(3, 101), () -> x.quantile(0, 101));
        dueThrow(MISSING, () -> x.quantile(0, 50), () -> x.quantile(7, 100));
        due(full().quantile(0, 1), 0);
        due(full().quantile(0, 3), 1);
        due(full().quantile(0, 99), 39);
    }

    private static void extent() {
        TraceAssembler x = family();
        due(x.extent(0), 100);
        x.setTimes(4, 9000, 9001);
        due(x.extent(0), 9001);
        x.add(1, 9, -1, 0, 5, 5);
        due(x.extent(1), 0);
        dueThrow(MISSING, () -> x.extent(2));
        dueThrow(INDEX, () -> x.extent(-1), () -> x.extent(4));
        // by corrected times: 12 is put from 45 to 55, 13 from -55 to 45
        x.add(2, 11, -1, 0, 0, 100);
        x.add(2, 12, 11, 1, 1000, 1010);
        due(x.extent(2), 100);
        x.add(2, 13, -1, 1, 900, 1000);
        due(x.extent(2), 155);
    }

    private static void activity() {
        TraceAssembler x = family();
        due(x.activity(0, 0), 1.0f);
        due(x.activity(0, 7), 0.0f);
        // the spans of service 1 are from 0 to 9 and from 20 to 21
        TraceAssembler y = new TraceAssembler();
        y.add(0, 1, -1, 0, 0, 30);
        y.add(0, 2, -1, 1, 0, 7);
        y.add(0, 3, -1, 1, 3, 9);
        y.add(0, 4, -1, 1, 20, 21);
        y.add(0, 5, -1, 1, 4, 5);
        y.add(1, 6, -1, 1, 0, 30);
        due(y.activity(0, 1), 10.0f / 30.0f);
        due(y.activity(1, 1), 1.0f);
        due(y.activity(1, 0), 0.0f);
        dueThrow(INDEX, () -> y.activity(-1, 0), () -> y.activity(4, 0), () -> y.activity(0, -1),
                () -> y.activity(0, 8), () -> y.activity(3, 8));
        dueThrow(MISSING, () -> y.activity(3, 0));
        y.add(3, 7, -1, 0, 4, 4);
        dueThrow(ARITHMETIC, () -> y.activity(3, 0), () -> y.activity(3, 1));
    }

    private static void busiest() {
        TraceAssembler x = new TraceAssembler();
        x.add(0, 1, -1, 6, 0, 10);
        due(x.busiest(0), 6);
        x.add(0, 2, -1, 7, 0, 11);
        due(x.busiest(0), 7);
        x.add(0, 3, -1, 5, 90, 101);
        due(x.busiest(0), 5);
        // the union counts, not the sum
        x.add(0, 4, -1, 6, 0, 10);
        due(x.busiest(0), 5);
        x.add(0, 5, -1, 6, 20, 22);
        due(x.busiest(0), 6);
        dueThrow(MISSING, () -> x.busiest(1));
        dueThrow(INDEX, () -> x.busiest(-1), () -> x.busiest(4));
        x.add(1, 6, -1, 2, 3, 3);
        dueThrow(ARITHMETIC, () -> x.busiest(1));
    }

    private static void link() {
        TraceAssembler x = full();
        due(x.link(0, 1), 0);
        due(x.link(1, 0), 1);
        dueThrow(STATE, () -> x.link(0, 1), () -> x.link(1, 0));
        dueThrow(ARGUMENT, () -> x.link(0, 0), () -> x.link(39, 39));
        dueThrow(INDEX, () -> x.link(0, 40), () -> x.link(40, 0), () -> x.link(40, 40), () -> x.link(-1, 0));
        for (int k = 2; k < 30; k++) {
            due(x.link(0, k), k);
        }
        dueThrow(STATE, () -> x.link(0, 30), () -> x.link(0, 2));
        dueThrow(ARGUMENT, () -> x.link(3, 3));
        dueThrow(INDEX, () -> x.link(0, 40));
        x.unlink(29);
        due(x.link(0, 30), 29);
        TraceAssembler y = family();
        y.link(1, 2);
        due(y.undo(), 4);
        due(y.linkCount(), 0);
    }

    private static void unlink() {
        TraceAssembler x = family();
        x.link(1, 2);
        x.link(1, 3);
        x.link(2, 3);
        dueThrow(INDEX, () -> x.unlink(-1), () -> x.unlink(3), () -> x.unlink(30), () -> x.unlink(HIGH));
        due(x.unlink(1), 2);
        due(x.linkDelay(0), 10 - 100);
        due(x.linkDelay(1), 30 - 40);
        due(x.unlink(0), 1);
        due(x.linkDelay(0), 30 - 40);
        due(x.unlink(0), 0);
        dueThrow(INDEX, () -> x.unlink(0));
        due(x.undo(), 7);
        due(x.linkCount(), 1);
    }

    private static void linkCount() {
        TraceAssembler x = full();
        for (int k = 0; k < 30; k++) {
            due(x.linkCount(), k);
            x.link(k, k + 1);
        }
        due(x.linkCount(), 30);
        x.remove(5);
        due(x.linkCount(), 28);
        x.remove(0);
        due(x.linkCount(), 27);
    }

    private static void linkDelay() {
        TraceAssembler x = new TraceAssembler();
        x.add(0, 1, -1, 0, 0, 10);
        x.add(0, 2, 1, 1, 500, 504);
        x.link(1, 2);
        x.link(2, 1);
        // 2 is put from 3 to 7
        due(x.linkDelay(0), 3 - 10);
        due(x.linkDelay(1), 0 - 7);
        x.add(3, 3, -1, 2, 9999, 9999);
        x.link(1, 3);
        due(x.linkDelay(2), 9989);
        dueThrow(INDEX, () -> x.linkDelay(-1), () -> x.linkDelay(3), () -> x.linkDelay(30), () -> x.linkDelay(LOW));
    }

    private static void linkedTraces() {
        TraceAssembler x = new TraceAssembler();
        for (int trace = 0; trace < 4; trace++) {
            x.add(trace, trace, -1, 0, 0, 0);
            x.add(trace, 10 + trace, -1, 0, 0, 0);
        }
        due(x.linkedTraces(0), 0);
        // made in the order that needs several rounds
        x.link(2, 3);
        x.link(11, 2);
        x.link(0, 1);
        due(x.linkedTraces(0), 14);
        due(x.linkedTraces(1), 12);
        due(x.linkedTraces(2), 8);
        due(x.linkedTraces(3), 0);
        x.link(13, 3);
        due(x.linkedTraces(3), 8);
        x.link(3, 10);
        due(x.linkedTraces(0), 15);
        due(x.linkedTraces(3), 15);
        x.remove(11);
        due(x.linkedTraces(0), 2);
        dueThrow(INDEX, () -> x.linkedTraces(-1), () -> x.linkedTraces(4), () -> x.linkedTraces(32));
    }

    private static void bookmark() {
        TraceAssembler x = family();
        x.add(1, 9, 50, 0, 0, 0);
        due(x.bookmark(0, 0, 0, 1), 1);
        due(x.bookmark(0, 3, 1, 9), 2);
        due(x.bookmark(0, 3, 0, 2), 2);
        due(x.bookmark(1, 1, 1, 1050), 1);
        due(x.bookmark(1, 2, 1, 9), 2);
        dueThrow(INDEX, () -> x.bookmark(-1, 0, 0, 1), () -> x.bookmark(2, 0, 0, 1), () -> x.bookmark(0, -1, 0, 1),
                () -> x.bookmark(0, 4, 0, 1), () -> x.bookmark(0, 0, -1, 1), () -> x.bookmark(0, 0, 4, 99),
                () -> x.bookmark(0, 4, 1, 1050));
        dueThrow(MISSING, () -> x.bookmark(0, 0, 1, 1), () -> x.bookmark(0, 0, 0, 1050),
                () -> x.bookmark(1, 0, 0, 99));
        dueThrow(UNSUPPORTED, () -> x.bookmark(0, 0, 1, 1050));
        x.add(2, 8, 0, 0, 0, 0);
        dueThrow(UNSUPPORTED, () -> x.bookmark(0, 0, 2, 1000));
        x.undo();
        due(x.bookmarked(0, 0), 1);
        // the change before the bookmarks is still the latest one
        due(x.undo(), 4);
        due(x.spanCount(), 4);
        due(x.bookmark(1, 0, 0, 1), 3);
    }

    private static void bookmarked() {
        TraceAssembler x = new TraceAssembler();
        x.add(3, 9, 50, 0, 0, 0);
        x.bookmark(0, 0, 3, 9);
        x.bookmark(1, 3, 3, 1050);
        due(x.bookmarked(0, 0), 30009);
        due(x.bookmarked(1, 3), 31050);
        dueThrow(MISSING, () -> x.bookmarked(0, 3), () -> x.bookmarked(1, 0));
        dueThrow(INDEX, () -> x.bookmarked(-1, 0), () -> x.bookmarked(2, 0), () -> x.bookmarked(0, -1),
                () -> x.bookmarked(0, 4), () -> x.bookmarked(HIGH, LOW));
        x.remove(9);
        dueThrow(MISSING, () -> x.bookmarked(0, 0), () -> x.bookmarked(1, 3));
        x.add(2, 9, 50, 0, 0, 0);
        dueThrow(MISSING, () -> x.bookmarked(0, 0), () -> x.bookmarked(1, 3));
        x.remove(9);
        x.add(3, 9, 9, 0, 0, 0);
        due(x.bookmarked(0, 0), 30009);
        x.add(3, 8, 50, 0, 0, 0);
        due(x.bookmarked(1, 3), 31050);
        x.setParent(8, 51);
        dueThrow(MISSING, () -> x.bookmarked(1, 3));
        x.setParent(8, 50);
        due(x.bookmarked(1, 3), 31050);
        x.save();
        x.clear();
        dueThrow(MISSING, () -> x.bookmarked(0, 0));
        x.restore();
        due(x.bookmarked(0, 0), 30009);
    }

    private static void append() {
        TraceAssembler x = new TraceAssembler();
        dueThrow(ARGUMENT, () -> x.append((char) 31), () -> x.append((char) 127), () -> x.append((char) 0),
                () -> x.append((char) 65535));
        due(x.append((char) 32), 1);
        due(x.append((char) 126), 2);
        for (int k = 3; k <= 80; k++) {
            due(x.append('0'), k);
        }
        dueThrow(STATE, () -> x.append('0'), () -> x.append(';'));
        dueThrow(ARGUMENT, () -> x.append((char) 31));
        dueThrow(ARGUMENT, x::read);
        due(x.append('0'), 1);
        dueThrow(MISSING, x::undo);
    }

    private static void readText() {
        TraceAssembler x = new TraceAssembler();
        due(read(x, "3/07<09@7:0012-9999!;0/99<-@0:0-0;"), 2);
        int[] want = {3, 9, 7, 12, 9999, 0};
        for (int what = 0; what < 6; what++) {
            due(x.span(7, what), want[what]);
        }
        due(x.span(99, 1), -1);
        due(x.span(99, 5), 1);
        due(x.isCause(7), true);
        due(x.isCause(99), false);
        due(x.append('0'), 1);
        dueThrow(ARGUMENT, x::read, x::read);
        dueThrow(STATE, () -> read(x, "0/1<-@0:0-0;0/7<-@0:0-0;"), () -> read(x, "0/1<-@0:0-0;0/01<-@0:0-0;"),
                () -> read(x, "0/1<-@0:0-0;0/2<-@0:5-4;"));
        due(x.spanCount(), 2);
        due(x.append('0'), 1);
        due(read(x, "/1<-@0:0-0;0/2<-@0:0-0;"), 2);
        due(x.undo(), 1);
        due(x.spanCount(), 2);
        due(x.undo(), 0);
        due(x.spanCount(), 0);
        // a wrong text is told before a wrong span
        dueThrow(ARGUMENT, () -> read(x, "0/1<-@0:5-4;x"));
        TraceAssembler y = full();
        y.remove(0);
        y.remove(1);
        dueThrow(STATE, () -> read(y, "0/50<-@0:0-0;0/51<-@0:0-0;0/52<-@0:0-0;"));
        due(y.spanCount(), 38);
        due(read(y, "0/50<-@0:0-0;0/51<-@0:0-0;"), 2);
        due(y.spanCount(), 40);
        dueThrow(STATE, () -> read(y, "0/52<-@0:0-0;"));
        // as many entries as the input holds
        TraceAssembler z = new TraceAssembler();
        due(read(z, "0/1<-@0:0-0;0/2<-@0:0-0;0/3<-@0:0-0;0/4<-@0:0-0;0/5<-@0:0-0;0/6<-@0:0000-0000;"), 6);
        due(z.spanCount(), 6);
    }

    private static void errorPosition() {
        TraceAssembler x = new TraceAssembler();
        String[] texts = {"", "4", "/", "0", "01", "0/", "0/a", "0/1", "0/1/", "0/12", "0/123", "0/1<", "0/1<+",
            "0/1<--", "0/1<1", "0/1<1;", "0/1<12", "0/1<123", "0/1<-@", "0/1<-@8", "0/1<-@7", "0/1<-@77", "0/1<-@7:",
            "0/1<-@7:-", "0/1<-@7:1", "0/1<-@7:12345", "0/1<-@7:1234", "0/1<-@7:1-", "0/1<-@7:1-!", "0/1<-@7:1-1",
            "0/1<-@7:1-12345", "0/1<-@7:1-1!", "0/1<-@7:1-1!!", "0/1<-@7:1-1!;4", "0/1<-@7:1-1; ", "0/1<-@7:1-1;0",
            "0/1<-@7:2-1;;", " 0/1<-@7:2-1;", "0/1<-@7:1-1234"};
        int[] want = {0, 0, 0, 1, 1, 2, 2, 3, 3, 4, 4, 4, 4,
            5, 5, 5, 6, 6, 6, 6, 7, 7, 8,
            8, 9, 12, 12, 10, 10, 11,
            14, 12, 12, 13, 12, 13,
            12, 0, 14};
        dueThrow(MISSING, x::errorPosition);
        due(texts.length, want.length);
        for (int k = 0; k < texts.length; k++) {
            String text = texts[k];
            dueThrow(ARGUMENT, () -> read(x, text));
            due(x.errorPosition(), want[k]);
        }
        // only a wrong text replaces it, and clear, undo and restore leave it
        dueThrow(STATE, () -> read(x, "0/1<-@7:2-1;"));
        due(read(x, "0/1<-@7:1-2;"), 1);
        x.undo();
        x.save();
        x.restore();
        x.clear();
        due(x.errorPosition(), 14);
        // 80 characters, all of which fit
        dueThrow(ARGUMENT, () -> read(x, "0/1<-@0:0-0;0/2<-@0:0-0;0/3<-@0:0-0;0/4<-@0:0-0;0/5<-@0:0-0;"
                + "0/6<-@0:0-0;0/7<-@0:"));
        due(x.errorPosition(), 80);
    }

    private static void describeSpan() {
        TraceAssembler x = new TraceAssembler();
        x.add(3, 99, 98, 7, 9998, 9999);
        x.mark(99, true);
        x.add(0, 0, -1, 0, 0, 0);
        x.add(1, 10, 0, 2, 100, 2000);
        due(describe(x, 99), "3/99<98@7:9998-9999!;");
        due(describe(x, 0), "0/0<-@0:0-0;");
        due(describe(x, 10), "1/10<0@2:100-2000;");
        due(x.describe(0, 11), (int) ';');
        dueThrow(MISSING, () -> x.describe(0, 12), () -> x.describe(0, -2), () -> x.describe(99, 21),
                () -> x.describe(0, HIGH), () -> x.describe(0, LOW));
        dueThrow(INDEX, () -> x.describe(1, -1), () -> x.describe(1, 99));
        read(x, "2/05<07@1:0010-0020;");
        due(describe(x, 5), "2/5<7@1:10-20;");
        x.mark(5, true);
        due(x.describe(5, -1), 15);
    }

    private static void undo() {
        TraceAssembler x = new TraceAssembler();
        for (int id = 0; id < 10; id++) {
            x.add(0, id, -1, 0, 0, 0);
        }
        for (int left = 7; left >= 0; left--) {
            due(x.undo(), left);
            due(x.spanCount(), left + 2);
        }
        dueThrow(MISSING, x::undo);
        due(x.spanCount(), 2);
        // each kind of change, back step by step
        x.setParent(0, 1);
        x.setTimes(0, 3, 4);
        x.mark(0, true);
        x.link(0, 1);
        x.unlink(0);
        x.link(1, 0);
        x.remove(1);
        read(x, "0/5<-@0:0-0;");
        due(x.undo(), 7);
        due(x.spanCount(), 1);
        due(x.undo(), 6);
        due(x.spanCount(), 2);
        due(x.linkCount(), 1);
        due(x.span(1, 5), 1);
        due(x.undo(), 5);
        due(x.linkCount(), 0);
        due(x.undo(), 4);
        due(x.linkCount(), 1);
        due(x.undo(), 3);
        due(x.linkCount(), 0);
        due(x.errorShare(0), 0.5);
        due(x.undo(), 2);
        due(x.errorShare(0), 0.0);
        due(x.corrected(0, true), 4);
        due(x.undo(), 1);
        due(x.corrected(0, true), 0);
        due(x.explain(0), 1);
        due(x.undo(), 0);
        due(x.explain(0), 0);
        // calls that fail, and those that only answer, are no changes; those without a difference are
        x.mark(0, false);
        dueThrow(INDEX, () -> x.mark(50, true), () -> x.remove(50), () -> x.unlink(0));
        x.save();
        x.append('x');
        x.bookmark(0, 0, 0, 0);
        dueThrow(ARGUMENT, x::read, () -> x.setTimes(0, 1, 0), () -> x.setParent(0, 100));
        due(x.undo(), 0);
        due(x.bookmarked(0, 0), 0);
        due(x.errorPosition(), 0);
        x.add(0, 7, -1, 0, 0, 0);
        x.restore();
        dueThrow(MISSING, x::undo);
        x.append('0');
        x.mark(0, true);
        x.undo();
        due(x.append('0'), 2);
        x.setParent(0, 9);
        due(x.root(0), 1009);
        x.undo();
        due(x.root(0), 0);
    }

    private static void save() {
        TraceAssembler x = family();
        x.link(1, 2);
        due(x.save(), 4);
        x.remove(1);
        due(x.save(), 3);
        due(x.clear(), 3);
        due(x.restore(), 3);
        due(x.linkCount(), 0);
        // saving is no change and forgets none
        TraceAssembler y = family();
        y.save();
        due(y.undo(), 3);
        due(y.spanCount(), 3);
        due(y.restore(), 4);
        TraceAssembler z = new TraceAssembler();
        due(z.save(), 0);
        due(z.restore(), 0);
    }

    private static void restore() {
        TraceAssembler x = family();
        dueThrow(STATE, x::restore);
        due(x.undo(), 3);
        x.mark(1, true);
        x.link(1, 2);
        x.link(2, 3);
        x.save();
        x.mark(1, false);
        x.remove(2);
        x.add(3, 2, -1, 5, 1, 2);
        due(x.restore(), 3);
        due(x.linkCount(), 2);
        due(x.linkDelay(0), 10 - 100);
        due(x.isCause(1), true);
        due(x.span(2, 0), 0);
        due(x.span(2, 5), 2);
        dueThrow(MISSING, x::undo);
        x.clear();
        due(x.restore(), 3);
        due(x.spanCount(), 3);
        x.append('0');
        x.restore();
        due(x.append('/'), 2);
        // what was worked out before is gone, too
        x.setParent(3, 2);
        due(x.depth(3), 2);
        x.restore();
        due(x.depth(3), 1);
    }
}
