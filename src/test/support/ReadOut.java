import java.util.ArrayList;
import java.util.List;

/** Everything that an object can be asked, as rows of text. */
final class ReadOut {
    private final TraceAssembler x;
    private final StringBuilder rows = new StringBuilder();

    private ReadOut(TraceAssembler x) {
        this.x = x;
    }

    /** All answers as they are now. */
    static String now(TraceAssembler x) {
        ReadOut out = new ReadOut(x);
        out.answers();
        return out.rows.toString();
    }

    /** All answers, also those after each undo, after the input is read to its end and after restore; it uses x up. */
    static String everything(TraceAssembler x) {
        ReadOut out = new ReadOut(x);
        out.answers();
        for (int k = 0; k < 9; k++) {
            out.row("undo " + k, TraceAssembler::undo);
            out.told();
        }
        for (char sign : "7;".toCharArray()) {
            out.row("append", each -> each.append(sign));
        }
        out.row("read", TraceAssembler::read);
        out.row("errorPosition", TraceAssembler::errorPosition);
        out.told();
        out.row("restore", TraceAssembler::restore);
        out.told();
        return out.rows.toString();
    }

    private void row(String name, Checks.Call call) {
        rows.append(name).append(" = ").append(Checks.outcome(x, call)).append('\n');
    }

    /** The spans and links as they were told. */
    private void told() {
        for (int id : ids()) {
            row("text of " + id, each -> text(each, id));
            row("place of " + id, each -> each.span(id, 5));
            row("begin of " + id, each -> each.corrected(id, false));
            row("root of " + id, each -> each.root(id));
        }
        row("links", TraceAssembler::linkCount);
        for (int link = 0; link < x.linkCount(); link++) {
            int number = link;
            row("link " + link, each -> each.linkDelay(number));
        }
    }

    static String text(TraceAssembler x, int id) {
        StringBuilder text = new StringBuilder();
        int length = x.describe(id, -1);
        for (int k = 0; k < length; k++) {
            text.append((char) x.describe(id, k));
        }
        return text.toString();
    }

    private List<Integer> ids() {
        List<Integer> ids = new ArrayList<>();
        for (int id = 0; id < 100; id++) {
            int span = id;
            if (Checks.outcome(x, each -> each.span(span, 0)) instanceof Integer) {
                ids.add(id);
            }
        }
        return ids;
    }

    private void answers() {
        row("spans", TraceAssembler::spanCount);
        row("accepted", each -> each.pairs(true));
        row("rejected", each -> each.pairs(false));
        row("cut", TraceAssembler::cutCount);
        row("error position", TraceAssembler::errorPosition);
        told();
        for (int id : ids()) {
            span(id);
        }
        for (int trace = 0; trace < 4; trace++) {
            trace(trace);
        }
        for (int service = 0; service < 8; service++) {
            service(service);
        }
        for (int k = 0; k < 8; k++) {
            int shelf = k / 4;
            int place = k % 4;
            row("bookmark " + k, each -> each.bookmarked(shelf, place));
        }
    }

    private void span(int id) {
        int trace = x.span(id, 0);
        row("end of " + id, each -> each.corrected(id, true));
        row("kind of " + id, each -> each.explain(id));
        row("depth of " + id, each -> each.depth(id));
        row("accepted " + id, each -> each.isAccepted(id));
        row("inside " + id, each -> each.isInside(id));
        row("critical time of " + id, each -> each.criticalTime(id));
        row("self time of " + id, each -> each.selfTime(id));
        row("cause " + id, each -> each.isCause(id));
        row("parallel " + id, each -> each.parallel(id, each.corrected(id, false)));
        node(trace, id);
    }

    private void node(int trace, int node) {
        row("below " + node, each -> each.below(trace, node));
        row("segments of " + node, each -> each.segments(trace, node));
        // one more than there are, as for the children, the roots and the causes
        for (int k = 0; k <= 3 * x.segments(trace, node); k++) {
            int index = k;
            row("segment of " + node, each -> each.segment(trace, node, index / 3, index % 3));
        }
        row("children of " + node, each -> each.childCount(trace, node));
        for (int k = 0; k <= x.childCount(trace, node); k++) {
            int index = k;
            row("child of " + node, each -> each.child(trace, node, index));
        }
    }

    private void trace(int trace) {
        row("roots", each -> each.roots(trace, false));
        row("placeholders", each -> each.roots(trace, true));
        int roots = x.roots(trace, false) + x.roots(trace, true);
        for (int k = 0; k <= roots; k++) {
            int index = k;
            row("root " + k, each -> each.rootAt(trace, index));
            int root = k < roots ? x.rootAt(trace, k) : 0;
            if (root >= 1000) {
                row("begin of " + root, each -> each.missing(trace, root, false));
                row("end of " + root, each -> each.missing(trace, root, true));
                node(trace, root);
            }
        }
        for (int k = 0; k < 5; k++) {
            int index = k;
            row("cause " + k, each -> each.cause(trace, index));
        }
        row("share " + trace, each -> each.errorShare(trace));
        row("extent " + trace, each -> each.extent(trace));
        row("busiest " + trace, each -> each.busiest(trace));
        row("linked " + trace, each -> each.linkedTraces(trace));
    }

    private void service(int service) {
        row("offset " + service, each -> each.offset(service));
        row("freedom " + service, each -> each.freedom(service));
        for (int what = 0; what < 6; what++) {
            int number = what;
            row("service " + service, each -> each.service(service, number));
        }
        for (int percentage = 0; percentage <= 100; percentage += 25) {
            int part = percentage;
            row("quantile " + service, each -> each.quantile(service, part));
        }
        for (int trace = 0; trace < 4; trace++) {
            int number = trace;
            row("activity " + service, each -> each.activity(number, service));
        }
    }
}
