// One method or more for each promise of the document: ordinary inputs, the named edges, wrong inputs.
// No object is called more than 512 times, since the document promises nothing beyond that.
public final class PromiseTests {
    private static final int[] BAD_NUMBERS = {-1, 3, 4, 8, Integer.MIN_VALUE, Integer.MAX_VALUE};
    private static final int[] BAD_PAGES = {-1, 8, 9, 32, Integer.MIN_VALUE, Integer.MAX_VALUE};
    private static final int[] BAD_ADDRESSES = {-1, -4, 32, 33, 96, Integer.MIN_VALUE, Integer.MAX_VALUE};

    private static int wrong = 0;

    public static void main(String[] args) {
        aNewObject();
        map();
        mapRefusals();
        unmap();
        write();
        copy();
        copyRefusals();
        send();
        sendKeepsItsWords();
        sendRefusals();
        receive();
        receiveKeepsPortsInOrder();
        receiveRefusals();
        drain();
        snapshot();
        rollBack();
        rollBackOfOneProcess();
        rollBackToNothing();
        exit();
        read();
        mapped();
        lastWord();
        waiting();
        looksChangeNothing();
        orderOfRefusals();
        System.out.println(wrong == 0 ? "all promises hold" : wrong + " answers are not as due");
        if (wrong != 0) {
            System.exit(1);
        }
    }

    private static void due(String what, long got, long want) {
        if (got != want) {
            wrong++;
            System.out.println(what + " answered " + got + ", due is " + want);
        }
    }

    private static void due(String what, String got, String want) {
        if (!got.equals(want)) {
            wrong++;
            System.out.println(what + ": state is\n  " + got + "\n, due is\n  " + want);
        }
    }

    private static int pages(int first, int count) {
        return first | count << 3;
    }

    private static OolMessagePorts withPages(int process, int first, int count) {
        OolMessagePorts x = new OolMessagePorts();
        mapFilled(x, process, first, count, 100);
        return x;
    }

    // The word at address a of each mapped page becomes base + a.
    private static void mapFilled(OolMessagePorts x, int process, int first, int count, int base) {
        for (int page = first; page < first + count; page++) {
            x.map(process, page);
            for (int address = 4 * page; address < 4 * page + 4; address++) {
                x.write(process, address, base + address);
            }
        }
    }

    private static void duePage(String what, OolMessagePorts x, int process, int page, int firstWord) {
        for (int i = 0; i < 4; i++) {
            due(what + ", word " + i, x.read(process, 4 * page + i), firstWord + i);
        }
    }

    private static void dueZeroPage(String what, OolMessagePorts x, int process, int page) {
        for (int i = 0; i < 4; i++) {
            due(what + ", word " + i, x.read(process, 4 * page + i), 0);
        }
    }

    private static String memory(OolMessagePorts x, int process) {
        StringBuilder text = new StringBuilder();
        for (int page = 0; page < 8; page++) {
            text.append(x.mapped(process, page) ? " +" : " -");
            for (int i = 0; i < 4; i++) {
                text.append(x.read(process, 4 * page + i)).append(i < 3 ? "," : "");
            }
        }
        return text.toString();
    }

    private static String state(OolMessagePorts x) {
        StringBuilder text = new StringBuilder();
        for (int n = 0; n < 3; n++) {
            text.append("[").append(memory(x, n)).append(" last ").append(x.lastWord(n));
            text.append(" waiting ").append(x.waiting(n)).append("]");
        }
        return text.toString();
    }

    // Promise 1
    private static void aNewObject() {
        OolMessagePorts x = new OolMessagePorts();
        for (int n = 0; n < 3; n++) {
            for (int page = 0; page < 8; page++) {
                due("new: mapped", x.mapped(n, page) ? 1 : 0, 0);
                due("new: unmap", x.unmap(n, page), OolMessagePorts.NOT_MAPPED);
            }
            due("new: lastWord", x.lastWord(n), 0);
            due("new: waiting", x.waiting(n), 0);
            due("new: receive", x.receive(n, n, 0), OolMessagePorts.PORT_EMPTY);
            due("new: rollBack", x.rollBack(n), OolMessagePorts.NO_SNAPSHOT);
        }
        withPages(0, 0, 8).send(0, 0, 1, pages(0, 3));
        OolMessagePorts other = new OolMessagePorts();
        due("objects share nothing", state(other), state(x));
    }

    // Promise 2
    private static void map() {
        OolMessagePorts x = new OolMessagePorts();
        for (int process = 0; process < 3; process++) {
            for (int page = 7; page >= 0; page--) {
                due("map", x.map(process, page), 8 - page);
                due("map: mapped", x.mapped(process, page) ? 1 : 0, 1);
                dueZeroPage("map", x, process, page);
            }
        }
        x.write(1, 9, 5);
        String before = state(x);
        due("map: again", x.map(1, 2), OolMessagePorts.MAPPED);
        due("map: a refusal keeps the words", state(x), before);

        x.unmap(1, 2);
        due("map: after unmap", x.map(1, 2), 8);
        dueZeroPage("map: after unmap", x, 1, 2);

        OolMessagePorts y = withPages(2, 3, 1);
        y.exit(2);
        due("map: after exit", y.map(2, 3), 1);
        dueZeroPage("map: after exit", y, 2, 3);

        OolMessagePorts z = new OolMessagePorts();
        z.snapshot(0);
        mapFilled(z, 0, 4, 1, 100);
        z.rollBack(0);
        due("map: after rollBack", z.map(0, 4), 1);
        dueZeroPage("map: after rollBack", z, 0, 4);
    }

    // Promise 2
    private static void mapRefusals() {
        OolMessagePorts x = withPages(2, 0, 8);
        String before = state(x);
        for (int bad : BAD_NUMBERS) {
            due("map: process " + bad, x.map(bad, 0), OolMessagePorts.BAD_NUMBER);
            due("map: process first", x.map(bad, -1), OolMessagePorts.BAD_NUMBER);
        }
        for (int bad : BAD_PAGES) {
            for (int process = 0; process < 3; process++) {
                due("map: page " + bad, x.map(process, bad), OolMessagePorts.BAD_PAGE);
            }
        }
        due("map: full", x.map(2, 7), OolMessagePorts.MAPPED);
        due("map: refusals", state(x), before);
    }

    // Promise 3
    private static void unmap() {
        OolMessagePorts x = withPages(1, 0, 8);
        mapFilled(x, 0, 0, 8, 500);
        String other = memory(x, 0);
        for (int page = 0; page < 8; page++) {
            due("unmap", x.unmap(1, page), 7 - page);
            due("unmap: mapped", x.mapped(1, page) ? 1 : 0, 0);
            dueZeroPage("unmap", x, 1, page);
            due("unmap: again", x.unmap(1, page), OolMessagePorts.NOT_MAPPED);
        }
        due("unmap: another process", memory(x, 0), other);

        OolMessagePorts y = withPages(2, 1, 3);
        y.unmap(2, 2);
        duePage("unmap: page before", y, 2, 1, 104);
        duePage("unmap: page after", y, 2, 3, 112);

        String before = state(x);
        for (int bad : BAD_NUMBERS) {
            due("unmap: process " + bad, x.unmap(bad, 0), OolMessagePorts.BAD_NUMBER);
            due("unmap: process first", x.unmap(bad, 8), OolMessagePorts.BAD_NUMBER);
        }
        for (int bad : BAD_PAGES) {
            due("unmap: page " + bad, x.unmap(0, bad), OolMessagePorts.BAD_PAGE);
            due("unmap: page " + bad, x.unmap(1, bad), OolMessagePorts.BAD_PAGE);
        }
        due("unmap: refusals", state(x), before);
    }

    // Promise 4
    private static void write() {
        OolMessagePorts x = new OolMessagePorts();
        for (int process = 0; process < 3; process++) {
            for (int page = 0; page < 8; page++) {
                x.map(process, page);
            }
        }
        for (int process = 0; process < 3; process++) {
            for (int address = 0; address < 32; address++) {
                due("write", x.write(process, address, 1000 * process + address + 1), address / 4);
            }
        }
        for (int process = 0; process < 3; process++) {
            for (int address = 0; address < 32; address++) {
                due("write: read", x.read(process, address), 1000 * process + address + 1);
            }
        }
        for (int value : new int[] {Integer.MIN_VALUE, -1, 0, Integer.MAX_VALUE}) {
            due("write: any int", x.write(2, 31, value), 7);
            due("write: any int", x.read(2, 31), value);
        }
        OolMessagePorts y = withPages(1, 3, 1);
        String before = state(y);
        for (int address : new int[] {0, 11, 16, 31}) {
            due("write: not mapped", y.write(1, address, 9), OolMessagePorts.NOT_MAPPED);
        }
        due("write: other process", y.write(0, 12, 9), OolMessagePorts.NOT_MAPPED);
        for (int bad : BAD_NUMBERS) {
            due("write: process " + bad, y.write(bad, 12, 9), OolMessagePorts.BAD_NUMBER);
            due("write: process first", y.write(bad, 32, 9), OolMessagePorts.BAD_NUMBER);
        }
        for (int bad : BAD_ADDRESSES) {
            due("write: address " + bad, y.write(1, bad, 9), OolMessagePorts.BAD_PAGE);
            x.write(0, bad, 9);
        }
        due("write: refusals", state(y), before);
        due("write: bad address, page 0 mapped", x.write(0, -1, 9), OolMessagePorts.BAD_PAGE);
        due("write: bad address, page 0 mapped", x.read(0, 0), 1);
        y.map(1, 4);
        y.write(1, 16, 4);
        y.unmap(1, 4);
        due("write: unmapped again", y.write(1, 16, 5), OolMessagePorts.NOT_MAPPED);
        y.map(1, 4);
        due("write: a refused one leaves no word", y.read(1, 16), 0);
    }

    // Promise 5
    private static void copy() {
        OolMessagePorts x = withPages(1, 0, 1);
        due("copy: to a new page", x.copy(1, 0, 7), 2);
        duePage("copy: to a new page", x, 1, 7, 100);
        duePage("copy: from stays", x, 1, 0, 100);
        due("copy: mapped", x.mapped(1, 7) ? 1 : 0, 1);

        x.write(1, 0, 1);
        due("copy: to goes its own way", x.read(1, 28), 100);
        x.write(1, 29, 2);
        due("copy: from goes its own way", x.read(1, 1), 101);

        mapFilled(x, 1, 3, 1, 200);
        due("copy: over a mapped page", x.copy(1, 3, 0), 3);
        duePage("copy: over a mapped page", x, 1, 0, 212);
        due("copy: downwards", x.copy(1, 7, 6), 4);
        due("copy: downwards", x.read(1, 25), 2);

        String before = state(x);
        due("copy: onto itself", x.copy(1, 3, 3), 4);
        due("copy: onto itself", state(x), before);

        x.unmap(1, 3);
        duePage("copy: outlives its source", x, 1, 0, 212);
        due("copy: from is gone", x.copy(1, 3, 0), OolMessagePorts.NOT_MAPPED);
        duePage("copy: refused", x, 1, 0, 212);
        due("copy: other processes", x.mapped(0, 7) || x.mapped(2, 7) ? 1 : 0, 0);
    }

    // Promise 5
    private static void copyRefusals() {
        OolMessagePorts x = withPages(2, 1, 2);
        String before = state(x);
        for (int bad : BAD_NUMBERS) {
            due("copy: process " + bad, x.copy(bad, 1, 2), OolMessagePorts.BAD_NUMBER);
        }
        for (int bad : BAD_PAGES) {
            due("copy: from " + bad, x.copy(2, bad, 1), OolMessagePorts.BAD_PAGE);
            due("copy: to " + bad, x.copy(2, 1, bad), OolMessagePorts.BAD_PAGE);
            due("copy: both " + bad, x.copy(2, bad, bad), OolMessagePorts.BAD_PAGE);
        }
        due("copy: from not mapped", x.copy(2, 0, 1), OolMessagePorts.NOT_MAPPED);
        due("copy: from not mapped", x.copy(2, 3, 4), OolMessagePorts.NOT_MAPPED);
        due("copy: neither mapped, the same", x.copy(2, 3, 3), OolMessagePorts.NOT_MAPPED);
        due("copy: another process's page", x.copy(1, 1, 2), OolMessagePorts.NOT_MAPPED);
        due("copy: refusals", state(x), before);
    }

    // Promise 6
    private static void send() {
        for (int first = 0; first < 8; first++) {
            for (int count = 0; count <= 3 && first + count <= 8; count++) {
                OolMessagePorts x = withPages(2, first, count);
                String before = memory(x, 2);
                due("send", x.send(2, 1, 7, pages(first, count)), 1);
                due("send: the pages stay", memory(x, 2), before);
                due("send: receive", x.receive(0, 1, 0), count);
                for (int i = 0; i < count; i++) {
                    duePage("send: receive", x, 0, i, 100 + 4 * (first + i));
                }
                due("send: no page more", x.mapped(0, count) ? 1 : 0, 0);
            }
        }
        OolMessagePorts x = withPages(0, 4, 2);
        due("send: other bits", x.send(0, 0, 1, pages(4, 2) | 32), 1);
        due("send: other bits", x.send(0, 0, 2, pages(4, 2) | Integer.MIN_VALUE), 2);
        due("send: other bits", x.send(0, 0, 3, pages(4, 2) | ~31), 3);
        due("send: other bits, 2 pages", x.receive(1, 0, 0), 2);
        due("send: other bits, 2 pages", x.receive(1, 0, 2), 2);
        due("send: other bits, 2 pages", x.receive(1, 0, 4), 2);
        duePage("send: other bits", x, 1, 5, 120);
        for (int word : new int[] {Integer.MIN_VALUE, -1, 0, Integer.MAX_VALUE}) {
            x.send(0, 2, word, 0);
            x.receive(2, 2, 7);
            due("send: any word", x.lastWord(2), word);
        }
        for (int port = 0; port < 3; port++) {
            for (int n = 1; n <= 3; n++) {
                due("send: count", x.send(n - 1, port, n, 0), n);
            }
            due("send: full", x.send(0, port, 4, 0), OolMessagePorts.PORT_FULL);
        }
    }

    // Promise 6, and that what is in a message never changes
    private static void sendKeepsItsWords() {
        OolMessagePorts x = withPages(0, 0, 3);
        x.send(0, 0, 1, pages(0, 3));
        mapFilled(x, 1, 0, 1, 700);
        x.send(1, 1, 2, pages(0, 1));
        x.write(0, 0, -1);
        x.copy(0, 0, 1);
        x.unmap(0, 2);
        x.map(0, 2);
        x.send(0, 0, 3, pages(0, 3));
        x.exit(0);
        mapFilled(x, 0, 0, 8, 900);
        x.snapshot(0);
        x.rollBack(0);
        due("message: first", x.receive(2, 0, 0), 3);
        for (int page = 0; page < 3; page++) {
            duePage("message: first", x, 2, page, 100 + 4 * page);
        }
        x.write(2, 0, -5);
        due("message: second", x.receive(2, 0, 5), 3);
        due("message: second", x.read(2, 20), -1);
        due("message: second", x.read(2, 21), 101);
        due("message: second", x.read(2, 24), -1);
        dueZeroPage("message: second", x, 2, 7);
        due("message: other port", x.receive(2, 1, 3), 1);
        duePage("message: other port", x, 2, 3, 700);
        duePage("message: a receiver's write stays its own", x, 0, 0, 900);
    }

    // Promise 6
    private static void sendRefusals() {
        OolMessagePorts x = withPages(1, 5, 3);
        x.unmap(1, 6);
        String before = state(x);
        for (int bad : BAD_NUMBERS) {
            due("send: process " + bad, x.send(bad, 0, 1, 0), OolMessagePorts.BAD_NUMBER);
            due("send: port " + bad, x.send(0, bad, 1, 0), OolMessagePorts.BAD_NUMBER);
        }
        due("send: 6 + 3", x.send(1, 0, 1, pages(6, 3)), OolMessagePorts.BAD_PAGE);
        due("send: 7 + 2", x.send(1, 0, 1, pages(7, 2)), OolMessagePorts.BAD_PAGE);
        due("send: 7 + 3", x.send(1, 0, 1, pages(7, 3)), OolMessagePorts.BAD_PAGE);
        due("send: the middle", x.send(1, 0, 1, pages(5, 3)), OolMessagePorts.NOT_MAPPED);
        due("send: the first", x.send(1, 0, 1, pages(4, 2)), OolMessagePorts.NOT_MAPPED);
        due("send: the last", x.send(1, 0, 1, pages(5, 2)), OolMessagePorts.NOT_MAPPED);
        due("send: another process's", x.send(0, 0, 1, pages(5, 1)), OolMessagePorts.NOT_MAPPED);
        due("send: refusals", state(x), before);
        due("send: 7 + 1", x.send(1, 0, 1, pages(7, 1)), 1);
        due("send: none, not mapped", x.send(1, 0, 1, pages(6, 0)), 2);
        due("send: none of nothing", x.send(2, 0, 1, pages(7, 0)), 3);
    }

    // Promise 7
    private static void receive() {
        for (int count = 0; count <= 3; count++) {
            for (int at = 0; at < 8; at++) {
                OolMessagePorts x = withPages(0, 2, 3);
                x.send(0, 2, 40 + at, pages(2, count));
                boolean fits = at + count <= 8;
                due("receive", x.receive(1, 2, at), fits ? count : OolMessagePorts.BAD_PAGE);
                due("receive: waiting", x.waiting(2), fits ? 0 : 1);
                due("receive: lastWord", x.lastWord(1), fits ? 40 + at : 0);
                for (int page = 0; page < 8; page++) {
                    boolean within = fits && page >= at && page < at + count;
                    due("receive: mapped", x.mapped(1, page) ? 1 : 0, within ? 1 : 0);
                    if (within) {
                        duePage("receive", x, 1, page, 108 + 4 * (page - at));
                    }
                }
                due("receive: others' last word", x.lastWord(0) + x.lastWord(2), 0);
            }
        }
        OolMessagePorts x = withPages(0, 0, 2);
        x.send(0, 0, 5, pages(0, 2));
        due("receive: its own message", x.receive(0, 0, 2), 2);
        duePage("receive: its own message", x, 0, 3, 104);
        x.write(0, 12, 1);
        due("receive: its own copy", x.read(0, 4), 104);
    }

    // Promise 7
    private static void receiveKeepsPortsInOrder() {
        OolMessagePorts x = new OolMessagePorts();
        int sent = 0;
        int taken = 0;
        for (int round = 0; round < 20; round++) {
            int target = 1 + round % 3;
            while (sent - taken < target) {
                sent++;
                x.map(0, 0);
                x.write(0, 2, 1000 + sent);
                due("order: send", x.send(0, 1, sent, pages(0, sent % 2)), sent - taken);
            }
            for (int n = 0; n < 1 + round % target; n++) {
                taken++;
                due("order: receive", x.receive(2, 1, 6), taken % 2);
                due("order: lastWord", x.lastWord(2), taken);
                due("order: words", x.read(2, 26), taken % 2 == 1 ? 1000 + taken : 0);
                x.unmap(2, 6);
            }
            due("order: waiting", x.waiting(1), sent - taken);
        }
        due("order: other ports", x.waiting(0) + x.waiting(2), 0);
    }

    // Promise 7
    private static void receiveRefusals() {
        OolMessagePorts x = withPages(0, 0, 3);
        x.send(0, 1, 5, pages(0, 3));
        x.send(0, 2, 6, 0);
        mapFilled(x, 1, 4, 1, 300);
        String before = state(x);
        for (int bad : BAD_NUMBERS) {
            due("receive: process " + bad, x.receive(bad, 1, 0), OolMessagePorts.BAD_NUMBER);
            due("receive: port " + bad, x.receive(1, bad, 0), OolMessagePorts.BAD_NUMBER);
        }
        for (int bad : BAD_PAGES) {
            due("receive: at " + bad, x.receive(2, 1, bad), OolMessagePorts.BAD_PAGE);
            due("receive: no pages, at " + bad, x.receive(2, 2, bad), OolMessagePorts.BAD_PAGE);
        }
        due("receive: empty", x.receive(1, 0, 0), OolMessagePorts.PORT_EMPTY);
        due("receive: 6 + 3", x.receive(1, 1, 6), OolMessagePorts.BAD_PAGE);
        for (int at = 2; at <= 4; at++) {
            due("receive: mapped, at " + at, x.receive(1, 1, at), OolMessagePorts.MAPPED);
        }
        due("receive: refusals", state(x), before);
        due("receive: just before", x.receive(1, 1, 1), 3);
        duePage("receive: the message had stayed whole", x, 1, 3, 108);
        duePage("receive: the page behind", x, 1, 4, 316);
        due("receive: no pages, at a mapped one", x.receive(1, 2, 4), 0);
        due("receive: no pages, the word", x.lastWord(1), 6);
        due("receive: taken once", x.receive(1, 2, 4), OolMessagePorts.PORT_EMPTY);
    }

    // Promise 8
    private static void drain() {
        for (int count = 0; count <= 3; count++) {
            for (int port = 0; port < 3; port++) {
                OolMessagePorts x = withPages(1, 0, 3);
                for (int n = 0; n < 3; n++) {
                    x.send(1, (port + 1) % 3, 50 + n, pages(n, 1));
                }
                for (int n = 0; n < count; n++) {
                    x.send(1, port, n, pages(0, 3));
                }
                String before = memory(x, 1);
                due("drain", x.drain(port), count);
                due("drain: waiting", x.waiting(port), 0);
                due("drain: memory", memory(x, 1), before);
                due("drain: receive", x.receive(0, port, 0), OolMessagePorts.PORT_EMPTY);
                due("drain: again", x.drain(port), 0);
                due("drain: other port", x.waiting((port + 1) % 3), 3);
                due("drain: send anew", x.send(1, port, 9, pages(2, 1)), 1);
                due("drain: receive anew", x.receive(0, port, 5), 1);
                due("drain: the new word", x.lastWord(0), 9);
                duePage("drain: the new words", x, 0, 5, 108);
            }
        }
        OolMessagePorts x = new OolMessagePorts();
        for (int port = 0; port < 3; port++) {
            x.send(0, port, 1, 0);
        }
        for (int bad : BAD_NUMBERS) {
            due("drain: port " + bad, x.drain(bad), OolMessagePorts.BAD_NUMBER);
        }
        due("drain: refusals", x.waiting(0) + x.waiting(1) + x.waiting(2), 3);
    }

    // Promise 9
    private static void snapshot() {
        for (int process = 0; process < 3; process++) {
            for (int count = 0; count <= 8; count++) {
                OolMessagePorts x = withPages(process, 8 - count, count);
                String before = state(x);
                due("snapshot", x.snapshot(process), count);
                due("snapshot changes no memory", state(x), before);
            }
        }
        OolMessagePorts x = withPages(0, 0, 2);
        x.snapshot(0);
        x.write(0, 0, 1);
        x.map(0, 5);
        due("snapshot: a newer one", x.snapshot(0), 3);
        String newer = memory(x, 0);
        x.exit(1);
        x.unmap(0, 0);
        x.write(0, 4, 2);
        due("snapshot: the newer one counts", x.rollBack(0), 3);
        due("snapshot: the newer one counts", memory(x, 0), newer);
        for (int bad : BAD_NUMBERS) {
            due("snapshot: process " + bad, x.snapshot(bad), OolMessagePorts.BAD_NUMBER);
        }
        due("snapshot: each process its own", x.rollBack(1), OolMessagePorts.NO_SNAPSHOT);
        due("snapshot: each process its own", x.rollBack(2), OolMessagePorts.NO_SNAPSHOT);
    }

    // Promise 10, and that what is in a snapshot never changes
    private static void rollBack() {
        OolMessagePorts x = withPages(1, 2, 3);
        String kept = memory(x, 1);
        x.snapshot(1);
        mapFilled(x, 0, 0, 2, 600);
        for (int round = 0; round < 3; round++) {
            x.write(1, 8 + round, -round);
            x.unmap(1, 3);
            x.copy(1, 2, 4);
            x.copy(1, 2, 7);
            x.send(0, 0, 70 + round, pages(0, 2));
            x.receive(1, 0, 0);
            due("rollBack", x.rollBack(1), 3);
            due("rollBack: memory", memory(x, 1), kept);
            due("rollBack: the last word stays", x.lastWord(1), 70 + round);
        }
        x.write(1, 8, 1);
        due("rollBack: writes go on", x.read(1, 8), 1);
        x.send(1, 2, 5, pages(2, 1));
        due("rollBack: again", x.rollBack(1), 3);
        due("rollBack: again", memory(x, 1), kept);
        due("rollBack: ports stay", x.waiting(2), 1);
    }

    // Promise 10
    private static void rollBackOfOneProcess() {
        for (int process = 0; process < 3; process++) {
            OolMessagePorts x = withPages(process, 0, 1);
            int before = (process + 2) % 3;
            int after = (process + 1) % 3;
            x.snapshot(before);
            x.snapshot(process);
            x.snapshot(after);
            x.write(process, 0, 1);
            mapFilled(x, before, 0, 8, 600);
            mapFilled(x, after, 0, 8, 800);
            String others = memory(x, before) + memory(x, after);
            due("rollBack: one process", x.rollBack(process), 1);
            duePage("rollBack: one process", x, process, 0, 100);
            due("rollBack: other processes", memory(x, before) + memory(x, after), others);
        }
    }

    // Promise 10
    private static void rollBackToNothing() {
        OolMessagePorts x = new OolMessagePorts();
        due("rollBack: an empty memory", x.snapshot(2), 0);
        x.map(2, 1);
        due("rollBack: to an empty memory", x.rollBack(2), 0);
        due("rollBack: to an empty memory", x.mapped(2, 1) ? 1 : 0, 0);
        x.map(1, 1);
        String before = state(x);
        due("rollBack: no snapshot", x.rollBack(1), OolMessagePorts.NO_SNAPSHOT);
        for (int bad : BAD_NUMBERS) {
            due("rollBack: process " + bad, x.rollBack(bad), OolMessagePorts.BAD_NUMBER);
        }
        due("rollBack: refusals", state(x), before);
    }

    // Promise 11
    private static void exit() {
        for (int process = 0; process < 3; process++) {
            OolMessagePorts x = withPages(process, 1, 5);
            int other = (process + 1) % 3;
            mapFilled(x, other, 0, 8, 400);
            x.snapshot(process);
            x.snapshot(other);
            x.send(process, 0, 33, pages(1, 2));
            x.send(process, 1, 34, 0);
            x.send(process, 1, 35, 0);
            x.receive(process, 1, 0);
            x.receive(other, 1, 0);
            String others = memory(x, other);
            due("exit", x.exit(process), 5);
            due("exit: no page", memory(x, process), memory(new OolMessagePorts(), 0));
            due("exit: lastWord", x.lastWord(process), 0);
            due("exit: no snapshot", x.rollBack(process), OolMessagePorts.NO_SNAPSHOT);
            due("exit: other process", memory(x, other), others);
            due("exit: other last word", x.lastWord(other), 35);
            due("exit: other snapshot", x.rollBack(other), 8);
            due("exit: messages stay", x.waiting(0), 1);
            due("exit: again", x.exit(process), 0);
            due("exit: a message it sent", x.receive(process, 0, 6), 2);
            duePage("exit: a message it sent", x, process, 6, 104);
            due("exit: its word", x.lastWord(process), 33);
            due("exit: a new snapshot", x.snapshot(process), 2);
            due("exit: a new snapshot", x.rollBack(process), 2);
        }
        OolMessagePorts x = withPages(0, 0, 8);
        String before = state(x);
        for (int bad : BAD_NUMBERS) {
            due("exit: process " + bad, x.exit(bad), OolMessagePorts.BAD_NUMBER);
        }
        due("exit: refusals", state(x), before);
        due("exit: all pages", x.exit(0), 8);
        due("exit: all pages", memory(x, 0), memory(new OolMessagePorts(), 0));
    }

    // Promise 12
    private static void read() {
        OolMessagePorts x = withPages(1, 0, 8);
        mapFilled(x, 0, 0, 8, 300);
        mapFilled(x, 2, 0, 8, 500);
        for (int address = 0; address < 32; address++) {
            due("read", x.read(0, address), 300 + address);
            due("read", x.read(1, address), 100 + address);
            due("read", x.read(2, address), 500 + address);
        }
        for (int bad : BAD_NUMBERS) {
            due("read: process " + bad, x.read(bad, 0), 0);
            due("read: process " + bad, x.read(bad, bad), 0);
        }
        for (int bad : BAD_ADDRESSES) {
            for (int process = 0; process < 3; process++) {
                due("read: address " + bad, x.read(process, bad), 0);
            }
        }
        x.unmap(1, 7);
        due("read: not mapped", x.read(1, 28), 0);
        due("read: the page before", x.read(1, 27), 127);
    }

    // Promise 13
    private static void mapped() {
        OolMessagePorts x = withPages(1, 0, 8);
        x.map(2, 7);
        x.map(0, 0);
        for (int page = 0; page < 8; page++) {
            due("mapped", x.mapped(0, page) ? 1 : 0, page == 0 ? 1 : 0);
            due("mapped", x.mapped(1, page) ? 1 : 0, 1);
            due("mapped", x.mapped(2, page) ? 1 : 0, page == 7 ? 1 : 0);
        }
        for (int bad : BAD_NUMBERS) {
            due("mapped: process " + bad, x.mapped(bad, 0) ? 1 : 0, 0);
            due("mapped: process " + bad, x.mapped(bad, bad) ? 1 : 0, 0);
        }
        for (int bad : BAD_PAGES) {
            for (int process = 0; process < 3; process++) {
                due("mapped: page " + bad, x.mapped(process, bad) ? 1 : 0, 0);
            }
        }
    }

    // Promise 14
    private static void lastWord() {
        OolMessagePorts x = new OolMessagePorts();
        for (int process = 0; process < 3; process++) {
            x.send(0, process, 61 + process, 0);
            x.send(0, process, 71 + process, 0);
            x.receive(process, process, 0);
        }
        for (int process = 0; process < 3; process++) {
            due("lastWord", x.lastWord(process), 61 + process);
            x.receive(process, process, 0);
            due("lastWord: the newer one", x.lastWord(process), 71 + process);
            x.receive(process, process, 0);
            due("lastWord: after a refusal", x.lastWord(process), 71 + process);
        }
        for (int bad : BAD_NUMBERS) {
            due("lastWord: process " + bad, x.lastWord(bad), 0);
        }
    }

    // Promise 15
    private static void waiting() {
        OolMessagePorts x = new OolMessagePorts();
        for (int port = 0; port < 3; port++) {
            for (int n = 0; n < 3; n++) {
                due("waiting", x.waiting(port), n);
                x.send(2, port, 0, 0);
            }
            x.send(2, port, 0, 0);
            due("waiting: full", x.waiting(port), 3);
        }
        x.receive(0, 1, 0);
        due("waiting: one less", x.waiting(1), 2);
        due("waiting: other ports", x.waiting(0) + x.waiting(2), 6);
        for (int bad : BAD_NUMBERS) {
            due("waiting: port " + bad, x.waiting(bad), OolMessagePorts.BAD_NUMBER);
        }
    }

    // Promises 12 to 15
    private static void looksChangeNothing() {
        OolMessagePorts x = withPages(0, 0, 3);
        x.snapshot(0);
        x.send(0, 0, 8, pages(0, 3));
        String before = state(x);
        for (int n = -1; n < 9; n++) {
            for (int process = -1; process < 4; process++) {
                x.read(process, 4 * n);
                x.mapped(process, n);
            }
            x.lastWord(n);
            x.waiting(n);
        }
        due("looks", state(x), before);
        due("looks: snapshot", x.rollBack(0), 3);
        due("looks: message", x.receive(1, 0, 0), 3);
        due("looks: memory", memory(x, 1), memory(x, 0));
    }

    // Promise 16: each row breaks the named rule and every later one.
    private static void orderOfRefusals() {
        OolMessagePorts x = withPages(0, 0, 1);
        due("copy: number before page", x.copy(3, 8, -1), OolMessagePorts.BAD_NUMBER);
        due("copy: page before not mapped", x.copy(0, 1, 8), OolMessagePorts.BAD_PAGE);
        due("copy: page before not mapped", x.copy(0, 1, -1), OolMessagePorts.BAD_PAGE);

        due("send: not full, page before not mapped", x.send(1, 0, 0, pages(7, 3)), OolMessagePorts.BAD_PAGE);
        for (int n = 0; n < 3; n++) {
            x.send(0, 0, n, pages(0, 1));
        }
        due("send: process before all", x.send(-1, 0, 0, pages(7, 3)), OolMessagePorts.BAD_NUMBER);
        due("send: process and port", x.send(3, 3, 0, pages(7, 3)), OolMessagePorts.BAD_NUMBER);
        due("send: port before page", x.send(1, 3, 0, pages(7, 3)), OolMessagePorts.BAD_NUMBER);
        due("send: full before page", x.send(1, 0, 0, pages(7, 3)), OolMessagePorts.PORT_FULL);
        due("send: full before not mapped", x.send(1, 0, 0, pages(0, 3)), OolMessagePorts.PORT_FULL);

        due("receive: process before all", x.receive(3, 1, 8), OolMessagePorts.BAD_NUMBER);
        due("receive: port before page", x.receive(0, -1, 8), OolMessagePorts.BAD_NUMBER);
        due("receive: empty before page", x.receive(0, 1, 8), OolMessagePorts.PORT_EMPTY);
        due("receive: empty before mapped", x.receive(0, 1, 0), OolMessagePorts.PORT_EMPTY);
        OolMessagePorts y = withPages(0, 0, 8);
        y.send(0, 0, 1, pages(0, 3));
        due("receive: page before mapped", y.receive(0, 0, 6), OolMessagePorts.BAD_PAGE);
        due("receive: page before mapped", y.receive(0, 0, 7), OolMessagePorts.BAD_PAGE);
        due("receive: mapped last", y.receive(0, 0, 5), OolMessagePorts.MAPPED);
    }
}
