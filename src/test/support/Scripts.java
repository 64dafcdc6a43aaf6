/** Objects that the tests start from. */
final class Scripts {
    /** A node of each trace of some(). */
    static final int[] NODES = {0, 10, 1000, 1099};

    private Scripts() {
    }

    /**
     * Something of everything: accepted and rejected pairs in trace 0, a cycle in trace 1, the placeholders 1000 and
     * 1099 in trace 2 and 1099 in trace 3; links, errors, bookmarks, more than 8 changes, something saved, an error
     * position, and an input that is the start of a text. Children come before parents, and a change comes last, so
     * that nothing is worked out yet.
     */
    static TraceAssembler some() {
        TraceAssembler x = new TraceAssembler();
        write(x, "0/x");
        Checks.outcome(x, TraceAssembler::read);
        x.add(0, 3, 1, 1, 135, 145);
        x.add(0, 1, 0, 1, 130, 150);
        x.add(0, 2, 0, 1, 300, 320);
        x.add(0, 0, -1, 0, 100, 200);
        x.add(1, 10, 11, 2, 0, 50);
        x.add(1, 11, 10, 2, 5, 45);
        x.add(2, 20, 0, 3, 10, 20);
        x.add(2, 21, 0, 4, 30, 40);
        x.add(2, 22, 99, 5, 0, 9);
        x.add(3, 99, 99, 7, 9000, 9999);
        x.mark(3, true);
        x.save();
        x.mark(11, true);
        x.mark(21, true);
        x.mark(99, true);
        x.link(0, 10);
        x.link(10, 20);
        x.link(20, 99);
        x.bookmark(0, 0, 0, 0);
        x.bookmark(1, 3, 2, 1099);
        write(x, "2/77<-@0:1-");
        x.mark(0, false);
        return x;
    }

    /** 40 spans with the ids 60 to 99, 30 links, 80 characters in the input, and nothing saved. */
    static TraceAssembler full() {
        TraceAssembler x = new TraceAssembler();
        for (int k = 0; k < 40; k++) {
            x.add(k % 4, 60 + k, k < 4 ? -1 : 56 + k, k % 8, 10 * k, 10 * k + 30);
        }
        for (int k = 0; k < 30; k++) {
            x.link(60 + k, 62 + k);
        }
        write(x, "0/1<-@0:0-0;".repeat(6) + "2/77<-@0");
        return x;
    }

    /** Service k + 1 is put 9999 after service k, by pairs that leave no choice. */
    static TraceAssembler late() {
        TraceAssembler x = new TraceAssembler();
        for (int k = 0; k < 7; k++) {
            x.add(0, 2 * k, -1, k, 9999, 9999);
            x.add(0, 2 * k + 1, 2 * k, k + 1, 0, 0);
        }
        return x;
    }

    /** Span 0 from 0 to 100 with the child 1 from 0 to 50, both of service 0. */
    static TraceAssembler two() {
        TraceAssembler x = new TraceAssembler();
        x.add(0, 0, -1, 0, 0, 100);
        x.add(0, 1, 0, 0, 0, 50);
        return x;
    }

    /** As two(), but without changes that are remembered. */
    static TraceAssembler still() {
        TraceAssembler x = two();
        x.save();
        x.restore();
        return x;
    }

    static void write(TraceAssembler x, String text) {
        for (char sign : text.toCharArray()) {
            x.append(sign);
        }
    }

    static int read(TraceAssembler x, String text) {
        write(x, text);
        return x.read();
    }
}
