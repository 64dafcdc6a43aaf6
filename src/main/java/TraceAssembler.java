import java.util.Arrays;
import java.util.NoSuchElementException;

/**
 * An assembler of traces. What was told (spans and links) is kept in a Store; what follows from it (offsets, trees,
 * critical paths, figures) is worked out when a question needs it.
 */
public final class TraceAssembler {
    private static final int TRACES = 4;
    private static final int SERVICES = 8;
    private static final int IDS = 100;
    private static final int TIMES = 10000;
    private static final int MOST_SPANS = 40;
    private static final int MOST_LINKS = 30;
    private static final int MOST_CHANGES = 8;
    private static final int MOST_SIGNS = 80;
    private static final int SHELVES = 2;
    private static final int PLACES = 4;
    private static final int NONE = -1;
    /** The number of a placeholder is this plus the id that is missing. */
    private static final int PLACEHOLDER = 1000;
    private static final int TRACE_FACTOR = 10000;
    /** Beyond all corrected times and all bounds between offsets: these stay below 9 times 10000. */
    private static final int FAR = 1000000;
    /** What a number about the spans of a service is about. */
    private static final int COUNT = 0;
    private static final int ERRORS = 1;
    private static final int DURATIONS = 2;
    private static final int SELF_TIMES = 3;
    private static final int CRITICAL_TIMES = 4;
    private static final int LONGEST = 5;

    private final Store store;
    private final Store saved = new Store();
    /** The spans of the text that is read, until it is known that all of them can be added. */
    private final Store draft = new Store();
    private final History history = new History();
    private final Clocks clocks;
    private final Forest forest;
    private final Path path;
    private final Figures figures;
    private final Shelves shelves = new Shelves();
    private final Input input = new Input();
    private final StringBuilder entry = new StringBuilder();
    private boolean isSaved = false;
    private boolean isWorkedOut = false;
    private int keptErrorPosition = NONE;

    public TraceAssembler() {
        // put together from locals, so that nothing of this object is handed out before it is whole
        Store told = new Store();
        Clocks solved = new Clocks(told);
        Forest built = new Forest(told, solved);
        Path followed = new Path(told, built);
        figures = new Figures(told, built, followed);
        path = followed;
        forest = built;
        clocks = solved;
        store = told;
    }

    public int clear() {
        int removed = store.spans;
        store.empty();
        history.forget();
        isWorkedOut = false;
        return removed;
    }

    public int add(int trace, int id, int parent, int service, int begin, int end)
            throws IllegalArgumentException, IllegalStateException {
        if (!isWithin(trace, TRACES) || !isWithin(id, IDS) || !isWithin(service, SERVICES)) {
            throw new IllegalArgumentException("trace, id or service out of range");
        }
        if (!isParentId(parent) || !areTimes(begin, end)) {
            throw new IllegalArgumentException("parent or times out of range");
        }
        if (store.spans >= MOST_SPANS || store.find(id) != NONE) {
            throw new IllegalStateException("no room, or the id is taken");
        }
        startChange();
        store.keep(trace, id, parent, service, begin, end, false);
        return store.spans;
    }

    public int remove(int span) throws IndexOutOfBoundsException {
        int place = placeOf(span);
        startChange();
        store.drop(place);
        return store.spans;
    }

    public int setParent(int span, int parent) throws IndexOutOfBoundsException, IllegalArgumentException {
        int place = placeOf(span);
        if (!isParentId(parent)) {
            throw new IllegalArgumentException("parent out of range");
        }
        startChange();
        int previous = at(store.parents, place);
        set(store.parents, place, parent);
        return previous;
    }

    public int setTimes(int span, int begin, int end) throws IndexOutOfBoundsException, IllegalArgumentException {
        int place = placeOf(span);
        if (!areTimes(begin, end)) {
            throw new IllegalArgumentException("times out of range");
        }
        startChange();
        int previous = store.duration(place);
        set(store.begins, place, begin);
        set(store.ends, place, end);
        return previous;
    }

    public boolean mark(int span, boolean isError) throws IndexOutOfBoundsException {
        int place = placeOf(span);
        startChange();
        boolean wasError = flagAt(store.errors, place);
        setFlag(store.errors, place, isError);
        return wasError;
    }

    public int spanCount() {
        return store.spans;
    }

    public int span(int span, int what) throws IndexOutOfBoundsException, IllegalArgumentException {
        int place = placeOf(span);
        switch (what) {
            case 0:
                return at(store.traces, place);
            case 1:
                return at(store.parents, place);
            case 2:
                return at(store.services, place);
            case 3:
                return at(store.begins, place);
            case 4:
                return at(store.ends, place);
            case 5:
                return place;
            default:
                throw new IllegalArgumentException("what is not 0 to 5");
        }
    }

    public int offset(int service) throws IndexOutOfBoundsException {
        checkService(service);
        workOut();
        return at(clocks.offsets, service);
    }

    public int freedom(int service) throws IndexOutOfBoundsException, NoSuchElementException {
        checkService(service);
        workOut();
        int choices = at(clocks.choices, service);
        if (choices == Clocks.UNBOUNDED) {
            throw new NoSuchElementException("every integer is possible");
        }
        return choices;
    }

    public int pairs(boolean isAccepted) {
        workOut();
        return clocks.countVerdicts(isAccepted ? Clocks.ACCEPTED : Clocks.REJECTED);
    }

    public boolean isAccepted(int span) throws IndexOutOfBoundsException, NoSuchElementException {
        int place = placeOf(span);
        workOut();
        int verdict = at(clocks.verdicts, place);
        if (verdict == Clocks.NO_PAIR) {
            throw new NoSuchElementException("the span has no pair");
        }
        return verdict == Clocks.ACCEPTED;
    }

    public boolean isInside(int span) throws IndexOutOfBoundsException, NoSuchElementException {
        int place = placeOf(span);
        workOut();
        int parent = at(forest.presents, place);
        if (!isWithin(parent, MOST_SPANS)) {
            throw new NoSuchElementException("the parent is not present");
        }
        return at(forest.begins, place) >= at(forest.begins, parent)
                && at(forest.ends, place) <= at(forest.ends, parent);
    }

    public int corrected(int span, boolean isEnd) throws IndexOutOfBoundsException {
        int place = placeOf(span);
        workOut();
        return isEnd ? at(forest.ends, place) : at(forest.begins, place);
    }

    public int explain(int span) throws IndexOutOfBoundsException {
        int place = placeOf(span);
        workOut();
        return at(forest.kinds, place);
    }

    public int root(int span) throws IndexOutOfBoundsException {
        int place = placeOf(span);
        workOut();
        return forest.rootNumber(place);
    }

    public int depth(int span) throws IndexOutOfBoundsException {
        int place = placeOf(span);
        workOut();
        return forest.nodesAbove(place);
    }

    public int below(int trace, int node) throws IndexOutOfBoundsException, NoSuchElementException {
        findNode(trace, node);
        return forest.spansBelow(trace, node);
    }

    public int childCount(int trace, int node) throws IndexOutOfBoundsException, NoSuchElementException {
        findNode(trace, node);
        return forest.children(trace, node);
    }

    public int child(int trace, int node, int index) throws IndexOutOfBoundsException, NoSuchElementException {
        findNode(trace, node);
        int place = forest.childAt(trace, node, index);
        if (!isWithin(place, MOST_SPANS)) {
            throw new NoSuchElementException("no such child");
        }
        return at(store.ids, place);
    }

    public int roots(int trace, boolean isPlaceholder) throws IndexOutOfBoundsException {
        checkTrace(trace);
        workOut();
        return forest.countRoots(trace, isPlaceholder);
    }

    public int rootAt(int trace, int index) throws IndexOutOfBoundsException, NoSuchElementException {
        checkTrace(trace);
        workOut();
        int number = forest.nthRoot(trace, index);
        if (number == NONE) {
            throw new NoSuchElementException("no such root");
        }
        return number;
    }

    public int missing(int trace, int placeholder, boolean isEnd)
            throws IndexOutOfBoundsException, NoSuchElementException {
        checkTrace(trace);
        workOut();
        if (!forest.isPlaceholder(trace, placeholder)) {
            throw new NoSuchElementException("no such placeholder");
        }
        return isEnd ? forest.nodeEnd(trace, placeholder) : forest.nodeBegin(trace, placeholder);
    }

    public int cutCount() {
        workOut();
        return forest.countKind(Forest.CUT);
    }

    public int segments(int trace, int node) throws IndexOutOfBoundsException, NoSuchElementException {
        findNode(trace, node);
        path.follow(trace, node);
        return path.length;
    }

    public int segment(int trace, int node, int index, int what)
            throws IndexOutOfBoundsException, IllegalArgumentException, NoSuchElementException {
        checkTrace(trace);
        if (!isWithin(what, 3)) {
            throw new IllegalArgumentException("what is not 0 to 2");
        }
        findNode(trace, node);
        path.follow(trace, node);
        if (!isWithin(index, path.length)) {
            throw new NoSuchElementException("no such segment");
        }
        int row = path.rowOf(index);
        return what == 0 ? at(path.nodes, row) : what == 1 ? at(path.begins, row) : at(path.ends, row);
    }

    public int criticalTime(int span) throws IndexOutOfBoundsException {
        int place = placeOf(span);
        workOut();
        path.follow(at(store.traces, place), forest.rootNumber(place));
        return path.timeOf(span);
    }

    public int criticalAt(int trace, int node, int time) throws IndexOutOfBoundsException, NoSuchElementException {
        findNode(trace, node);
        path.follow(trace, node);
        int owner = path.nodeAt(time);
        if (owner == NONE) {
            throw new NoSuchElementException("no segment at this time");
        }
        return owner;
    }

    public int selfTime(int span) throws IndexOutOfBoundsException {
        int place = placeOf(span);
        workOut();
        return figures.ownUnits(place);
    }

    public int parallel(int span, int time) throws IndexOutOfBoundsException {
        int place = placeOf(span);
        workOut();
        return figures.childrenAt(place, time);
    }

    public boolean isCause(int span) throws IndexOutOfBoundsException {
        int place = placeOf(span);
        workOut();
        return figures.isErrorSource(place);
    }

    public int cause(int trace, int index) throws IndexOutOfBoundsException, NoSuchElementException {
        checkTrace(trace);
        workOut();
        int place = figures.errorSourceAt(trace, index);
        if (!isWithin(place, MOST_SPANS)) {
            throw new NoSuchElementException("no such cause");
        }
        return at(store.ids, place);
    }

    public double errorShare(int trace) throws IndexOutOfBoundsException, ArithmeticException {
        checkTrace(trace);
        int all = figures.spansOf(trace);
        if (all == 0) {
            throw new ArithmeticException("the trace has no spans");
        }
        return (double) figures.errorsOf(trace) / (double) all;
    }

    public int service(int service, int what) throws IndexOutOfBoundsException, IllegalArgumentException {
        checkService(service);
        if (what < COUNT || what > LONGEST) {
            throw new IllegalArgumentException("what is not 0 to 5");
        }
        workOut();
        switch (what) {
            case CRITICAL_TIMES:
                return figures.criticalUnits(service);
            case LONGEST:
                return figures.longestDuration(service);
            default:
                return figures.sumOf(service, what);
        }
    }

    public int quantile(int service, int percentage)
            throws IndexOutOfBoundsException, IllegalArgumentException, NoSuchElementException {
        checkService(service);
        if (!isWithin(percentage, 101)) {
            throw new IllegalArgumentException("percentage out of range");
        }
        int all = figures.sumOf(service, COUNT);
        if (all == 0) {
            throw new NoSuchElementException("no span of the service");
        }
        return figures.durationAt(service, Math.max(1, (percentage * all + 99) / 100));
    }

    public int extent(int trace) throws IndexOutOfBoundsException, NoSuchElementException {
        checkTrace(trace);
        workOut();
        return extentOf(trace);
    }

    public float activity(int trace, int service)
            throws IndexOutOfBoundsException, NoSuchElementException, ArithmeticException {
        checkTrace(trace);
        checkService(service);
        workOut();
        int extent = positiveExtentOf(trace);
        return (float) figures.busyUnits(trace, service) / (float) extent;
    }

    public int busiest(int trace) throws IndexOutOfBoundsException, NoSuchElementException, ArithmeticException {
        checkTrace(trace);
        workOut();
        positiveExtentOf(trace);
        return figures.busiestService(trace);
    }

    public int link(int from, int to)
            throws IndexOutOfBoundsException, IllegalArgumentException, IllegalStateException {
        placeOf(from);
        placeOf(to);
        if (from == to) {
            throw new IllegalArgumentException("a link leads to another span");
        }
        if (store.links >= MOST_LINKS || store.hasLink(from, to)) {
            throw new IllegalStateException("no room, or there is such a link");
        }
        startChange();
        store.keepLink(from, to);
        return store.links - 1;
    }

    public int unlink(int link) throws IndexOutOfBoundsException {
        checkLink(link);
        startChange();
        store.dropLink(link);
        return store.links;
    }

    public int linkCount() {
        return store.links;
    }

    public int linkDelay(int link) throws IndexOutOfBoundsException {
        checkLink(link);
        int from = placeOf(at(store.froms, link));
        int to = placeOf(at(store.tos, link));
        workOut();
        return at(forest.begins, to) - at(forest.ends, from);
    }

    public int linkedTraces(int trace) throws IndexOutOfBoundsException {
        checkTrace(trace);
        return figures.tracesReached(trace);
    }

    public int bookmark(int shelf, int place, int trace, int node)
            throws IndexOutOfBoundsException, NoSuchElementException, UnsupportedOperationException {
        checkShelfPlace(shelf, place);
        findNode(trace, node);
        if (shelf == 0 && node >= PLACEHOLDER) {
            throw new UnsupportedOperationException("shelf 0 holds spans only");
        }
        shelves.put(shelf, place, trace, node);
        return shelves.filled(shelf);
    }

    public int bookmarked(int shelf, int place) throws IndexOutOfBoundsException, NoSuchElementException {
        checkShelfPlace(shelf, place);
        int trace = shelves.traceIn(shelf, place);
        int node = shelves.nodeIn(shelf, place);
        workOut();
        if (trace == NONE || !forest.isNode(trace, node)) {
            throw new NoSuchElementException("the place is empty, or its node is not there");
        }
        return TRACE_FACTOR * trace + node;
    }

    public int append(char character) throws IllegalArgumentException, IllegalStateException {
        if (character < 32 || character > 126) {
            throw new IllegalArgumentException("character out of range");
        }
        if (input.length >= MOST_SIGNS) {
            throw new IllegalStateException("the input is full");
        }
        input.put(character);
        return input.length;
    }

    public int read() throws IllegalArgumentException, IllegalStateException {
        boolean isText = input.parse(draft);
        input.empty();
        if (!isText) {
            keptErrorPosition = input.position;
            throw new IllegalArgumentException("the input is no text");
        }
        if (!canAddDraft()) {
            throw new IllegalStateException("a span of the text cannot be added");
        }
        startChange();
        for (int place = 0; place < draft.spans; place++) {
            store.keepCopy(draft, place);
        }
        return draft.spans;
    }

    public int errorPosition() throws NoSuchElementException {
        if (keptErrorPosition == NONE) {
            throw new NoSuchElementException("no error position was kept");
        }
        return keptErrorPosition;
    }

    public int describe(int span, int index) throws IndexOutOfBoundsException, NoSuchElementException {
        writeEntry(placeOf(span));
        if (index == -1) {
            return entry.length();
        }
        if (!isWithin(index, entry.length())) {
            throw new NoSuchElementException("no such character");
        }
        return entry.charAt(index);
    }

    public int undo() throws NoSuchElementException {
        if (history.remembered == 0) {
            throw new NoSuchElementException("no change is remembered");
        }
        history.takeBack(store);
        isWorkedOut = false;
        return history.remembered;
    }

    public int save() {
        saved.copyFrom(store);
        isSaved = true;
        return store.spans;
    }

    public int restore() throws IllegalStateException {
        if (!isSaved) {
            throw new IllegalStateException("nothing was saved");
        }
        store.copyFrom(saved);
        history.forget();
        isWorkedOut = false;
        return store.spans;
    }

    private static boolean isWithin(int number, int limit) {
        return number >= 0 && number < limit;
    }

    /** What a row holds at an index, NONE beyond it: so no index is used that was not looked at before. */
    private static int at(int[] row, int index) {
        return index >= 0 && index < row.length ? row[index] : NONE;
    }

    private static void set(int[] row, int index, int value) {
        if (index >= 0 && index < row.length) {
            row[index] = value;
        }
    }

    private static boolean flagAt(boolean[] row, int index) {
        return index >= 0 && index < row.length && row[index];
    }

    private static void setFlag(boolean[] row, int index, boolean value) {
        if (index >= 0 && index < row.length) {
            row[index] = value;
        }
    }

    private static boolean isParentId(int parent) {
        return parent == NONE || isWithin(parent, IDS);
    }

    private static boolean areTimes(int begin, int end) {
        return isWithin(begin, TIMES) && isWithin(end, TIMES) && begin <= end;
    }

    private int placeOf(int span) {
        int place = store.find(span);
        if (!isWithin(place, MOST_SPANS)) {
            throw new IndexOutOfBoundsException("no such span");
        }
        return place;
    }

    private void checkTrace(int trace) {
        if (!isWithin(trace, TRACES)) {
            throw new IndexOutOfBoundsException("no such trace");
        }
    }

    private void checkService(int service) {
        if (!isWithin(service, SERVICES)) {
            throw new IndexOutOfBoundsException("no such service");
        }
    }

    private void checkLink(int link) {
        if (!isWithin(link, MOST_LINKS) || link >= store.links) {
            throw new IndexOutOfBoundsException("no such link");
        }
    }

    private void checkShelfPlace(int shelf, int place) {
        if (!isWithin(shelf, SHELVES) || !isWithin(place, PLACES)) {
            throw new IndexOutOfBoundsException("no such shelf or place");
        }
    }

    private void findNode(int trace, int node) {
        checkTrace(trace);
        workOut();
        if (!forest.isNode(trace, node)) {
            throw new NoSuchElementException("no such node");
        }
    }

    private int extentOf(int trace) {
        if (figures.spansOf(trace) == 0) {
            throw new NoSuchElementException("the trace has no spans");
        }
        return figures.latestEnd(trace) - figures.earliestBegin(trace);
    }

    private int positiveExtentOf(int trace) {
        int extent = extentOf(trace);
        if (extent == 0) {
            throw new ArithmeticException("the extent is 0");
        }
        return extent;
    }

    private boolean canAddDraft() {
        if (draft.spans > MOST_SPANS - store.spans) {
            return false;
        }
        for (int place = 0; place < draft.spans; place++) {
            int id = at(draft.ids, place);
            // find answers the first place, so another one means that the text has the id twice
            boolean isTaken = store.find(id) != NONE || draft.find(id) != place;
            if (isTaken || at(draft.begins, place) > at(draft.ends, place)) {
                return false;
            }
        }
        return true;
    }

    private void startChange() {
        history.remember(store);
        isWorkedOut = false;
    }

    private void workOut() {
        if (!isWorkedOut) {
            clocks.solve();
            forest.build();
            isWorkedOut = true;
        }
    }

    private void writeEntry(int place) {
        entry.setLength(0);
        entry.append(at(store.traces, place)).append('/').append(at(store.ids, place)).append('<');
        if (at(store.parents, place) == NONE) {
            entry.append('-');
        } else {
            entry.append(at(store.parents, place));
        }
        entry.append('@').append(at(store.services, place)).append(':');
        entry.append(at(store.begins, place)).append('-').append(at(store.ends, place));
        if (flagAt(store.errors, place)) {
            entry.append('!');
        }
        entry.append(';');
    }

    /** Spans and links in the order in which they came; a link is kept as the ids of its two spans. */
    private static final class Store {
        int spans = 0;
        int links = 0;
        final int[] traces = new int[MOST_SPANS];
        final int[] ids = new int[MOST_SPANS];
        final int[] parents = new int[MOST_SPANS];
        final int[] services = new int[MOST_SPANS];
        final int[] begins = new int[MOST_SPANS];
        final int[] ends = new int[MOST_SPANS];
        final boolean[] errors = new boolean[MOST_SPANS];
        final int[] froms = new int[MOST_LINKS];
        final int[] tos = new int[MOST_LINKS];

        void empty() {
            spans = 0;
            links = 0;
        }

        void copyFrom(Store other) {
            spans = 0;
            for (int place = 0; place < other.spans; place++) {
                keepCopy(other, place);
            }
            links = 0;
            for (int link = 0; link < other.links; link++) {
                keepLink(at(other.froms, link), at(other.tos, link));
            }
        }

        void keep(int trace, int id, int parent, int service, int begin, int end, boolean isError) {
            if (!isWithin(spans, MOST_SPANS)) {
                return;
            }
            set(traces, spans, trace);
            set(ids, spans, id);
            set(parents, spans, parent);
            set(services, spans, service);
            set(begins, spans, begin);
            set(ends, spans, end);
            setFlag(errors, spans, isError);
            spans++;
        }

        void keepCopy(Store other, int place) {
            if (isWithin(place, MOST_SPANS)) {
                keep(at(other.traces, place), at(other.ids, place), at(other.parents, place),
                        at(other.services, place), at(other.begins, place), at(other.ends, place),
                        flagAt(other.errors, place));
            }
        }

        void drop(int place) {
            if (!isWithin(place, spans)) {
                return;
            }
            dropLinksOf(at(ids, place));
            int before = spans;
            // the spans from this place on are kept anew, the dropped one left out
            spans = place;
            for (int later = place + 1; later < before; later++) {
                keepCopy(this, later);
            }
        }

        void keepLink(int from, int to) {
            if (isWithin(links, MOST_LINKS)) {
                set(froms, links, from);
                set(tos, links, to);
                links++;
            }
        }

        void dropLink(int link) {
            int before = links;
            links = 0;
            for (int each = 0; each < before; each++) {
                if (each != link) {
                    keepLink(at(froms, each), at(tos, each));
                }
            }
        }

        private void dropLinksOf(int id) {
            int before = links;
            links = 0;
            for (int each = 0; each < before; each++) {
                if (at(froms, each) != id && at(tos, each) != id) {
                    keepLink(at(froms, each), at(tos, each));
                }
            }
        }

        boolean hasLink(int from, int to) {
            for (int link = 0; link < links; link++) {
                if (at(froms, link) == from && at(tos, link) == to) {
                    return true;
                }
            }
            return false;
        }

        /** The place of the span with an id, NONE if there is none. */
        int find(int id) {
            for (int place = 0; place < spans && place < ids.length; place++) {
                if (ids[place] == id) {
                    return place;
                }
            }
            return NONE;
        }

        /** The place of the present parent of a span, NONE if its parent is not present. */
        int presentParent(int place) {
            int parent = find(at(parents, place));
            if (parent == NONE || parent == place || at(traces, parent) != at(traces, place)) {
                return NONE;
            }
            return parent;
        }

        int duration(int place) {
            return at(ends, place) - at(begins, place);
        }
    }

    /** The stores before the latest changes, in a ring. */
    private static final class History {
        int remembered = 0;
        private int next = 0;
        private final Store[] before = new Store[MOST_CHANGES];

        History() {
            for (int slot = 0; slot < MOST_CHANGES; slot++) {
                before[slot] = new Store();
            }
        }

        void forget() {
            remembered = 0;
        }

        void remember(Store store) {
            Store slot = slotAt(next);
            if (slot != null) {
                slot.copyFrom(store);
            }
            next = (next + 1) % MOST_CHANGES;
            remembered = Math.min(remembered + 1, MOST_CHANGES);
        }

        void takeBack(Store store) {
            next = (next + MOST_CHANGES - 1) % MOST_CHANGES;
            remembered--;
            Store slot = slotAt(next);
            if (slot != null) {
                store.copyFrom(slot);
            }
        }

        private Store slotAt(int index) {
            return isWithin(index, MOST_CHANGES) ? before[index] : null;
        }
    }

    /** Which pairs are accepted, and the offsets of the services that follow from them. */
    private static final class Clocks {
        static final int NO_PAIR = 0;
        static final int ACCEPTED = 1;
        static final int REJECTED = 2;
        /** As a number of choices: every integer. */
        static final int UNBOUNDED = 0;

        final int[] verdicts = new int[MOST_SPANS];
        final int[] offsets = new int[SERVICES];
        final int[] choices = new int[SERVICES];
        private final Store store;
        /**
         * At [a][b] the most that the offset of a may be above that of b by all accepted pairs together, FAR if there
         * is no bound. It is kept tight over all detours: then each bound by itself tells whether a new pair can hold
         * beside the others.
         */
        private final int[][] most = new int[SERVICES][SERVICES];

        Clocks(Store store) {
            this.store = store;
        }

        void solve() {
            for (int a = 0; a < SERVICES; a++) {
                for (int b = 0; b < SERVICES; b++) {
                    most[a][b] = a == b ? 0 : FAR;
                }
            }
            for (int place = 0; place < store.spans; place++) {
                set(verdicts, place, judge(place));
            }
            for (int service = 0; service < SERVICES; service++) {
                choose(service);
            }
        }

        int countVerdicts(int verdict) {
            int count = 0;
            for (int place = 0; place < store.spans; place++) {
                if (at(verdicts, place) == verdict) {
                    count++;
                }
            }
            return count;
        }

        private int judge(int place) {
            int parent = store.presentParent(place);
            if (!isWithin(parent, MOST_SPANS)) {
                return NO_PAIR;
            }
            int below = at(store.services, place);
            int above = at(store.services, parent);
            if (below == above) {
                return NO_PAIR;
            }
            int least = at(store.begins, parent) - at(store.begins, place);
            int greatest = at(store.ends, parent) - at(store.ends, place);
            if (least > greatest || least > mostOf(below, above) || -greatest > mostOf(above, below)) {
                return REJECTED;
            }
            tighten(below, above, greatest);
            tighten(above, below, -least);
            return ACCEPTED;
        }

        private int mostOf(int a, int b) {
            return a >= 0 && a < SERVICES && b >= 0 && b < SERVICES ? most[a][b] : FAR;
        }

        private void tighten(int high, int low, int bound) {
            if (mostOf(high, low) <= bound) {
                return;
            }
            for (int a = 0; a < SERVICES; a++) {
                for (int b = 0; b < SERVICES; b++) {
                    int before = mostOf(a, high);
                    int after = mostOf(low, b);
                    if (before != FAR && after != FAR) {
                        most[a][b] = Math.min(most[a][b], before + bound + after);
                    }
                }
            }
        }

        private void choose(int service) {
            int least = -FAR;
            int greatest = FAR;
            for (int chosen = 0; chosen < service; chosen++) {
                // an accepted pair bounds from both sides, so either both bounds are there or none
                int above = mostOf(service, chosen);
                int below = mostOf(chosen, service);
                if (above != FAR && below != FAR) {
                    least = Math.max(least, at(offsets, chosen) - below);
                    greatest = Math.min(greatest, at(offsets, chosen) + above);
                }
            }
            boolean isBounded = greatest != FAR;
            set(offsets, service, isBounded ? Math.floorDiv(least + greatest, 2) : 0);
            set(choices, service, isBounded ? greatest - least + 1 : UNBOUNDED);
        }
    }

    /** The trees of all traces, with corrected times. A node is named by its trace and its id or number. */
    private static final class Forest {
        static final int ROOT = 0;
        static final int CHILD = 1;
        static final int ORPHAN = 2;
        static final int CUT = 3;

        final int[] begins = new int[MOST_SPANS];
        final int[] ends = new int[MOST_SPANS];
        final int[] presents = new int[MOST_SPANS];
        final int[] kinds = new int[MOST_SPANS];
        /** The place of the span above each span in its tree, NONE for roots and children of placeholders. */
        final int[] overs = new int[MOST_SPANS];
        /** The id or number of the node above each span, NONE for roots. */
        final int[] nodesOver = new int[MOST_SPANS];
        final boolean[] areOverErrors = new boolean[MOST_SPANS];
        /** All places by corrected begins, those with equal ones by ids. */
        final int[] order = new int[MOST_SPANS];
        private final Store store;
        private final Clocks clocks;

        Forest(Store store, Clocks clocks) {
            this.store = store;
            this.clocks = clocks;
        }

        void build() {
            for (int place = 0; place < store.spans; place++) {
                int service = at(store.services, place);
                int shift = isWithin(service, SERVICES) ? at(clocks.offsets, service) : 0;
                set(begins, place, at(store.begins, place) + shift);
                set(ends, place, at(store.ends, place) + shift);
                set(presents, place, store.presentParent(place));
            }
            for (int place = 0; place < store.spans; place++) {
                set(kinds, place, kindOf(place));
                set(overs, place, at(kinds, place) == CHILD ? at(presents, place) : NONE);
                set(nodesOver, place, nodeOver(place));
                setFlag(areOverErrors, place, false);
                insert(place);
            }
            for (int place = 0; place < store.spans; place++) {
                if (flagAt(store.errors, place)) {
                    spreadError(place);
                }
            }
        }

        private int kindOf(int place) {
            if (at(store.parents, place) == NONE) {
                return ROOT;
            }
            if (at(presents, place) == NONE) {
                return ORPHAN;
            }
            return isLowestOfCycle(place) ? CUT : CHILD;
        }

        private boolean isLowestOfCycle(int place) {
            int current = at(presents, place);
            for (int step = 0; step < MOST_SPANS && isWithin(current, MOST_SPANS); step++) {
                if (current == place) {
                    return true;
                }
                if (at(store.ids, current) < at(store.ids, place)) {
                    return false;
                }
                current = at(presents, current);
            }
            return false;
        }

        private int nodeOver(int place) {
            switch (at(kinds, place)) {
                case CHILD:
                    return at(store.parents, place);
                case ORPHAN:
                    return PLACEHOLDER + at(store.parents, place);
                default:
                    return NONE;
            }
        }

        private void insert(int place) {
            int slot = place;
            for (; slot > 0 && isEarlier(place, at(order, slot - 1)); slot--) {
                set(order, slot, at(order, slot - 1));
            }
            set(order, slot, place);
        }

        private boolean isEarlier(int place, int other) {
            return at(begins, place) < at(begins, other)
                    || (at(begins, place) == at(begins, other) && at(store.ids, place) < at(store.ids, other));
        }

        private void spreadError(int place) {
            int current = at(overs, place);
            for (int step = 0; step < MOST_SPANS && isWithin(current, MOST_SPANS); step++) {
                setFlag(areOverErrors, current, true);
                current = at(overs, current);
            }
        }

        private int topOf(int place) {
            int current = place;
            for (int step = 0; step < MOST_SPANS && isWithin(at(overs, current), MOST_SPANS); step++) {
                current = at(overs, current);
            }
            return current;
        }

        int rootNumber(int place) {
            int top = topOf(place);
            return at(kinds, top) == ORPHAN ? at(nodesOver, top) : at(store.ids, top);
        }

        int nodesAbove(int place) {
            int current = place;
            int above = 0;
            for (int step = 0; step < MOST_SPANS && isWithin(at(overs, current), MOST_SPANS); step++) {
                current = at(overs, current);
                above++;
            }
            return at(kinds, current) == ORPHAN ? above + 1 : above;
        }

        boolean isChild(int place, int trace, int node) {
            return at(nodesOver, place) == node && at(store.traces, place) == trace;
        }

        boolean isDescendant(int place, int trace, int node) {
            int current = place;
            for (int step = 0; step < MOST_SPANS && isWithin(current, MOST_SPANS); step++) {
                if (isChild(current, trace, node)) {
                    return true;
                }
                current = at(overs, current);
            }
            return false;
        }

        int spansBelow(int trace, int node) {
            int count = 0;
            for (int place = 0; place < store.spans; place++) {
                if (isDescendant(place, trace, node)) {
                    count++;
                }
            }
            return count;
        }

        int children(int trace, int node) {
            int count = 0;
            for (int place = 0; place < store.spans; place++) {
                if (isChild(place, trace, node)) {
                    count++;
                }
            }
            return count;
        }

        /** The place of a child in the order of the children, NONE if there is no such child. */
        int childAt(int trace, int node, int index) {
            int seen = 0;
            for (int rank = 0; rank < store.spans; rank++) {
                if (isChild(at(order, rank), trace, node)) {
                    if (seen == index) {
                        return at(order, rank);
                    }
                    seen++;
                }
            }
            return NONE;
        }

        boolean isPlaceholder(int trace, int node) {
            return node >= PLACEHOLDER && children(trace, node) > 0;
        }

        boolean isNode(int trace, int node) {
            int place = store.find(node);
            return place == NONE ? isPlaceholder(trace, node) : at(store.traces, place) == trace;
        }

        int nodeBegin(int trace, int node) {
            int place = store.find(node);
            if (place != NONE) {
                return at(begins, place);
            }
            int least = FAR;
            for (int child = 0; child < store.spans; child++) {
                if (isChild(child, trace, node)) {
                    least = Math.min(least, at(begins, child));
                }
            }
            return least;
        }

        int nodeEnd(int trace, int node) {
            int place = store.find(node);
            if (place != NONE) {
                return at(ends, place);
            }
            int greatest = -FAR;
            for (int child = 0; child < store.spans; child++) {
                if (isChild(child, trace, node)) {
                    greatest = Math.max(greatest, at(ends, child));
                }
            }
            return greatest;
        }

        /** The lowest root of a trace with a number above the given one, NONE if there is none. */
        int nextRoot(int trace, int number) {
            int lowest = NONE;
            for (int place = 0; place < store.spans; place++) {
                if (at(store.traces, place) == trace && at(kinds, place) != CHILD) {
                    int root = rootNumber(place);
                    if (root > number && (lowest == NONE || root < lowest)) {
                        lowest = root;
                    }
                }
            }
            return lowest;
        }

        int countRoots(int trace, boolean arePlaceholders) {
            int count = 0;
            int number = nextRoot(trace, NONE);
            for (int step = 0; step < MOST_SPANS && number != NONE; step++) {
                if ((number >= PLACEHOLDER) == arePlaceholders) {
                    count++;
                }
                number = nextRoot(trace, number);
            }
            return count;
        }

        int nthRoot(int trace, int index) {
            if (!isWithin(index, MOST_SPANS)) {
                return NONE;
            }
            int number = nextRoot(trace, NONE);
            for (int step = 0; step < index && number != NONE; step++) {
                number = nextRoot(trace, number);
            }
            return number;
        }

        int countKind(int kind) {
            int count = 0;
            for (int place = 0; place < store.spans; place++) {
                if (at(kinds, place) == kind) {
                    count++;
                }
            }
            return count;
        }
    }

    /** The critical path of one node, found anew by each call of follow; its rows hold the latest segment first. */
    private static final class Path {
        /** A placeholder and all spans; each of them is entered at most once on a path. */
        private static final int MOST_NODES = MOST_SPANS + 1;
        /** A node has at most one segment more than children; all together have fewer children than nodes. */
        private static final int MOST_SEGMENTS = 2 * MOST_NODES;
        /** A step enters a node, ends its path or leaves it. */
        private static final int MOST_STEPS = 3 * MOST_NODES;

        int length = 0;
        final int[] nodes = new int[MOST_SEGMENTS];
        final int[] begins = new int[MOST_SEGMENTS];
        final int[] ends = new int[MOST_SEGMENTS];
        private final Store store;
        private final Forest forest;
        private int trace = 0;
        /** The windows that are open, each inside of the one before, with the time down to which each is done. */
        private int open = 0;
        private final int[] openNodes = new int[MOST_NODES];
        private final int[] openBegins = new int[MOST_NODES];
        private final int[] openTimes = new int[MOST_NODES];

        Path(Store store, Forest forest) {
            this.store = store;
            this.forest = forest;
        }

        void follow(int trace, int node) {
            this.trace = trace;
            length = 0;
            open = 0;
            enter(node, forest.nodeBegin(trace, node), forest.nodeEnd(trace, node));
            for (int step = 0; step < MOST_STEPS && isWithin(open - 1, MOST_NODES); step++) {
                int last = open - 1;
                if (at(openTimes, last) > at(openBegins, last)) {
                    goBack(last);
                } else {
                    open--;
                }
            }
        }

        private void enter(int node, int begin, int end) {
            if (isWithin(open, MOST_NODES)) {
                set(openNodes, open, node);
                set(openBegins, open, begin);
                set(openTimes, open, end);
                open++;
            }
        }

        private void goBack(int window) {
            int node = at(openNodes, window);
            int begin = at(openBegins, window);
            int time = at(openTimes, window);
            int child = latestChild(node, begin, time);
            if (child == NONE) {
                record(node, begin, time);
                set(openTimes, window, begin);
                return;
            }
            int cutBegin = Math.max(at(forest.begins, child), begin);
            int cutEnd = Math.min(at(forest.ends, child), time);
            if (cutEnd < time) {
                record(node, cutEnd, time);
            }
            set(openTimes, window, cutBegin);
            enter(at(store.ids, child), cutBegin, cutEnd);
        }

        private int latestChild(int node, int begin, int time) {
            int best = NONE;
            int bestBegin = 0;
            int bestEnd = 0;
            for (int place = 0; place < store.spans; place++) {
                int cutBegin = Math.max(at(forest.begins, place), begin);
                int cutEnd = Math.min(at(forest.ends, place), time);
                if (cutBegin < cutEnd && forest.isChild(place, trace, node)) {
                    boolean isBetter = best == NONE || cutEnd > bestEnd
                            || (cutEnd == bestEnd && cutBegin < bestBegin)
                            || (cutEnd == bestEnd && cutBegin == bestBegin
                                    && at(store.ids, place) < at(store.ids, best));
                    if (isBetter) {
                        best = place;
                        bestBegin = cutBegin;
                        bestEnd = cutEnd;
                    }
                }
            }
            return best;
        }

        private void record(int node, int begin, int end) {
            if (isWithin(length, MOST_SEGMENTS)) {
                set(nodes, length, node);
                set(begins, length, begin);
                set(ends, length, end);
                length++;
            }
        }

        /** The row of a segment that is counted in ascending order of times. */
        int rowOf(int index) {
            return length - 1 - index;
        }

        int timeOf(int node) {
            int sum = 0;
            for (int row = 0; row < length; row++) {
                if (at(nodes, row) == node) {
                    sum += at(ends, row) - at(begins, row);
                }
            }
            return sum;
        }

        int timeOfService(int service) {
            int sum = 0;
            for (int row = 0; row < length; row++) {
                int place = store.find(at(nodes, row));
                if (place != NONE && at(store.services, place) == service) {
                    sum += at(ends, row) - at(begins, row);
                }
            }
            return sum;
        }

        int nodeAt(int time) {
            for (int row = 0; row < length; row++) {
                if (at(begins, row) <= time && time < at(ends, row)) {
                    return at(nodes, row);
                }
            }
            return NONE;
        }
    }

    /** Times, errors and counts of spans, traces and services. */
    private static final class Figures {
        private final Store store;
        private final Forest forest;
        private final Path path;

        Figures(Store store, Forest forest, Path path) {
            this.store = store;
            this.forest = forest;
            this.path = path;
        }

        int ownUnits(int place) {
            int own = store.duration(place);
            int done = at(forest.begins, place);
            for (int rank = 0; rank < store.spans; rank++) {
                int child = at(forest.order, rank);
                if (forest.isChild(child, at(store.traces, place), at(store.ids, place))) {
                    int begin = Math.max(at(forest.begins, child), done);
                    int end = Math.min(at(forest.ends, child), at(forest.ends, place));
                    if (begin < end) {
                        own -= end - begin;
                        done = end;
                    }
                }
            }
            return own;
        }

        int childrenAt(int place, int time) {
            int count = 0;
            for (int child = 0; child < store.spans; child++) {
                if (at(forest.begins, child) <= time && time < at(forest.ends, child)
                        && forest.isChild(child, at(store.traces, place), at(store.ids, place))) {
                    count++;
                }
            }
            return count;
        }

        boolean isErrorSource(int place) {
            return flagAt(store.errors, place) && !flagAt(forest.areOverErrors, place);
        }

        int errorSourceAt(int trace, int index) {
            int seen = 0;
            for (int rank = 0; rank < store.spans; rank++) {
                int place = at(forest.order, rank);
                if (at(store.traces, place) == trace && isErrorSource(place)) {
                    if (seen == index) {
                        return place;
                    }
                    seen++;
                }
            }
            return NONE;
        }

        int spansOf(int trace) {
            int count = 0;
            for (int place = 0; place < store.spans; place++) {
                if (at(store.traces, place) == trace) {
                    count++;
                }
            }
            return count;
        }

        int errorsOf(int trace) {
            int count = 0;
            for (int place = 0; place < store.spans; place++) {
                if (at(store.traces, place) == trace && flagAt(store.errors, place)) {
                    count++;
                }
            }
            return count;
        }

        int sumOf(int service, int what) {
            int sum = 0;
            for (int place = 0; place < store.spans; place++) {
                if (at(store.services, place) == service) {
                    sum += numberOf(place, what);
                }
            }
            return sum;
        }

        private int numberOf(int place, int what) {
            switch (what) {
                case COUNT:
                    return 1;
                case ERRORS:
                    return flagAt(store.errors, place) ? 1 : 0;
                case DURATIONS:
                    return store.duration(place);
                case SELF_TIMES:
                    return ownUnits(place);
                default:
                    return 0;
            }
        }

        int longestDuration(int service) {
            int longest = 0;
            for (int place = 0; place < store.spans; place++) {
                if (at(store.services, place) == service) {
                    longest = Math.max(longest, store.duration(place));
                }
            }
            return longest;
        }

        int criticalUnits(int service) {
            int sum = 0;
            for (int trace = 0; trace < TRACES; trace++) {
                int root = forest.nextRoot(trace, NONE);
                for (int step = 0; step < MOST_SPANS && root != NONE; step++) {
                    path.follow(trace, root);
                    sum += path.timeOfService(service);
                    root = forest.nextRoot(trace, root);
                }
            }
            return sum;
        }

        /** The duration at a rank, counted from 1, among those of a service in ascending order. */
        int durationAt(int service, int rank) {
            for (int place = 0; place < store.spans; place++) {
                if (at(store.services, place) == service) {
                    int duration = store.duration(place);
                    if (countUpTo(service, duration - 1) < rank && rank <= countUpTo(service, duration)) {
                        return duration;
                    }
                }
            }
            return 0;
        }

        private int countUpTo(int service, int duration) {
            int count = 0;
            for (int place = 0; place < store.spans; place++) {
                if (at(store.services, place) == service && store.duration(place) <= duration) {
                    count++;
                }
            }
            return count;
        }

        int earliestBegin(int trace) {
            int least = FAR;
            for (int place = 0; place < store.spans; place++) {
                if (at(store.traces, place) == trace) {
                    least = Math.min(least, at(forest.begins, place));
                }
            }
            return least;
        }

        int latestEnd(int trace) {
            int greatest = -FAR;
            for (int place = 0; place < store.spans; place++) {
                if (at(store.traces, place) == trace) {
                    greatest = Math.max(greatest, at(forest.ends, place));
                }
            }
            return greatest;
        }

        int busyUnits(int trace, int service) {
            int busy = 0;
            int done = -FAR;
            for (int rank = 0; rank < store.spans; rank++) {
                int place = at(forest.order, rank);
                if (at(store.traces, place) == trace && at(store.services, place) == service) {
                    int begin = Math.max(at(forest.begins, place), done);
                    int end = at(forest.ends, place);
                    if (begin < end) {
                        busy += end - begin;
                        done = end;
                    }
                }
            }
            return busy;
        }

        /** All services of a trace are measured against the same extent, so their units decide. */
        int busiestService(int trace) {
            int best = 0;
            int most = busyUnits(trace, 0);
            for (int service = 1; service < SERVICES; service++) {
                int busy = busyUnits(trace, service);
                if (busy > most) {
                    best = service;
                    most = busy;
                }
            }
            return best;
        }

        int tracesReached(int trace) {
            int reached = 0;
            // a round without a new trace is the last one that matters, so there are at most as many as traces
            for (int round = 0; round < TRACES; round++) {
                int sources = reached | (1 << trace);
                for (int link = 0; link < store.links; link++) {
                    int from = store.find(at(store.froms, link));
                    int to = store.find(at(store.tos, link));
                    if (from != NONE && to != NONE && ((sources >> at(store.traces, from)) & 1) == 1) {
                        reached |= 1 << at(store.traces, to);
                    }
                }
            }
            return reached;
        }
    }

    /** The nodes that were put into places; whether they are there is looked at only when they are asked for. */
    private static final class Shelves {
        private final int[][] traces = new int[SHELVES][PLACES];
        private final int[][] nodes = new int[SHELVES][PLACES];

        Shelves() {
            for (int shelf = 0; shelf < SHELVES; shelf++) {
                Arrays.fill(traces[shelf], NONE);
            }
        }

        void put(int shelf, int place, int trace, int node) {
            if (isWithin(shelf, SHELVES) && isWithin(place, PLACES)) {
                traces[shelf][place] = trace;
                nodes[shelf][place] = node;
            }
        }

        int traceIn(int shelf, int place) {
            return isWithin(shelf, SHELVES) && isWithin(place, PLACES) ? traces[shelf][place] : NONE;
        }

        int nodeIn(int shelf, int place) {
            return isWithin(shelf, SHELVES) && isWithin(place, PLACES) ? nodes[shelf][place] : NONE;
        }

        int filled(int shelf) {
            int count = 0;
            for (int place = 0; place < PLACES; place++) {
                if (traceIn(shelf, place) != NONE) {
                    count++;
                }
            }
            return count;
        }
    }

    /** The characters that were appended, and the reading of them from left to right. */
    private static final class Input {
        int length = 0;
        /** Where the reading stands; if it fails, the error position, since every start that fits can be completed. */
        int position = 0;
        private final char[] signs = new char[MOST_SIGNS];

        void put(char sign) {
            if (isWithin(length, MOST_SIGNS)) {
                signs[length] = sign;
                length++;
            }
        }

        void empty() {
            length = 0;
        }

        /** Reads the spans of the text into a store; answers whether it is a text. */
        boolean parse(Store spans) {
            spans.empty();
            position = 0;
            for (int entries = 0; entries < MOST_SIGNS; entries++) {
                if (!parseEntry(spans)) {
                    return false;
                }
                if (position >= length) {
                    return true;
                }
            }
            return false;
        }

        private boolean parseEntry(Store spans) {
            int trace = takeDigit(TRACES - 1);
            if (trace == NONE || !take('/')) {
                return false;
            }
            int id = takeNumber(2);
            if (id == NONE || !take('<')) {
                return false;
            }
            boolean hasParent = !take('-');
            int parent = hasParent ? takeNumber(2) : NONE;
            if ((hasParent && parent == NONE) || !take('@')) {
                return false;
            }
            int service = takeDigit(SERVICES - 1);
            if (service == NONE || !take(':')) {
                return false;
            }
            int begin = takeNumber(4);
            if (begin == NONE || !take('-')) {
                return false;
            }
            int end = takeNumber(4);
            if (end == NONE) {
                return false;
            }
            boolean isError = take('!');
            if (!take(';')) {
                return false;
            }
            spans.keep(trace, id, parent, service, begin, end, isError);
            return true;
        }

        private boolean take(char sign) {
            if (isWithin(position, MOST_SIGNS) && position < length && signs[position] == sign) {
                position++;
                return true;
            }
            return false;
        }

        /** Takes a digit up to the greatest one; NONE if there is another character or none. */
        private int takeDigit(int greatest) {
            if (!isWithin(position, MOST_SIGNS) || position >= length) {
                return NONE;
            }
            int digit = signs[position] - '0';
            if (digit < 0 || digit > greatest) {
                return NONE;
            }
            position++;
            return digit;
        }

        /** Takes a number of one or more digits, as many as there are up to the most; NONE if there is none. */
        private int takeNumber(int mostDigits) {
            int number = takeDigit(9);
            if (number == NONE) {
                return NONE;
            }
            for (int digits = 1; digits < mostDigits; digits++) {
                int digit = takeDigit(9);
                if (digit == NONE) {
                    return number;
                }
                number = 10 * number + digit;
            }
            return number;
        }
    }
}
