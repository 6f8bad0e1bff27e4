// "A refused call changes nothing", for every refusal of every call, and the order in which refusals are tested.
//
// A refused call is made on an object that holds something everywhere, and all that can be got out of the object
// afterwards (its messages and snapshots too) must be what comes out of an object on which it was not made.
public final class RefusalTests {
    // Just below and just above the range, the least and the greatest int, and numbers whose
    // product with the words or pages of a process wraps around to 0.
    private static final int[] BAD_NUMBERS = {-1, 3, Integer.MIN_VALUE, Integer.MAX_VALUE, 1 << 27, 1 << 29};
    private static final int[] BAD_PAGES = {-1, 8, Integer.MIN_VALUE, Integer.MAX_VALUE, 1 << 30, -(1 << 30)};
    private static final int[] BAD_ADDRESSES = {-1, 32, Integer.MIN_VALUE, Integer.MAX_VALUE, -4, 96};

    private static final int FULL_PORT = 0;
    private static final int PORT_OF_TWO_PAGES = 1;
    private static final int EMPTY_PORT = 2;

    private static int wrong = 0;

    private interface Call {
        int on(OolMessagePorts x);
    }

    public static void main(String[] args) {
        theObjectHoldsSomethingEverywhere();
        refusedMap();
        refusedUnmap();
        refusedWrite();
        refusedCopy();
        refusedSend();
        refusedReceive();
        refusedReceiveLeavesTheMessage();
        refusedDrain();
        refusedSnapshot();
        refusedRollBack();
        refusedExit();
        looksChangeNothing();
        numberIsTestedFirst();
        orderOfCopy();
        orderOfSend();
        orderOfReceive();
        System.out.println(wrong == 0 ? "all refusals are as due" : wrong + " answers are not as due");
        if (wrong != 0) {
            System.exit(1);
        }
    }

    private static void due(String what, Object got, Object want) {
        if (!got.equals(want)) {
            wrong++;
            System.out.println(what + " answered " + got + ", due is " + want);
        }
    }

    private static int pages(int first, int count) {
        return first | count << 3;
    }

    private static void mapFilled(OolMessagePorts x, int process, int first, int count, int base) {
        for (int page = first; page < first + count; page++) {
            x.map(process, page);
            x.write(process, 4 * page, base + 4 * page);
            x.write(process, 4 * page + 3, base + 4 * page + 3);
        }
    }

    // Process 0: pages 0 to 2 and 7, and another memory in its snapshot.
    // Process 1: all pages, no snapshot. Process 2: pages 3 and 4, a snapshot without pages.
    // Port 0: full, its ring gone round once. Port 1: a message of two pages. Port 2: drained.
    private static OolMessagePorts busyObject() {
        OolMessagePorts x = new OolMessagePorts();
        mapFilled(x, 0, 0, 3, 100);
        x.snapshot(0);
        x.snapshot(2);
        x.write(0, 5, -5);
        mapFilled(x, 0, 7, 1, 100);
        mapFilled(x, 1, 0, 8, 200);
        mapFilled(x, 2, 3, 2, 300);
        for (int process = 0; process < 3; process++) {
            x.send(1, FULL_PORT, 41 + process, 0);
            x.receive(process, FULL_PORT, 6);
        }
        x.send(1, FULL_PORT, 51, 0);
        x.send(1, FULL_PORT, 52, pages(3, 3));
        x.send(0, FULL_PORT, 53, pages(7, 1));
        x.receive(0, FULL_PORT, 0);
        x.send(1, FULL_PORT, 54, pages(6, 2));
        x.send(2, PORT_OF_TWO_PAGES, 61, pages(3, 2));
        x.send(0, EMPTY_PORT, 71, pages(0, 2));
        x.drain(EMPTY_PORT);
        x.write(1, 12, -1);
        x.write(2, 12, -2);
        return x;
    }

    private static void addMemory(StringBuilder text, OolMessagePorts x, int process) {
        for (int page = 0; page < 8; page++) {
            text.append(x.mapped(process, page) ? " +" : " -");
            for (int i = 0; i < 4; i++) {
                text.append(x.read(process, 4 * page + i)).append(i < 3 ? "," : "");
            }
        }
    }

    // Takes everything out of the object, which is spent afterwards.
    private static String everything(OolMessagePorts x) {
        StringBuilder text = new StringBuilder();
        for (int n = 0; n < 3; n++) {
            addMemory(text, x, n);
            text.append(" last ").append(x.lastWord(n)).append(" waiting ").append(x.waiting(n));
        }
        for (int process = 0; process < 3; process++) {
            text.append(" snapshot ").append(x.rollBack(process));
            addMemory(text, x, process);
            x.exit(process);
        }
        for (int port = 0; port < 3; port++) {
            int count = x.receive(0, port, 0);
            // A port that never gets empty must not hold up the test.
            for (int n = 0; n < 4 && count >= 0; n++) {
                text.append(" message ").append(x.lastWord(0));
                for (int address = 0; address < 4 * count; address++) {
                    text.append(",").append(x.read(0, address));
                }
                x.exit(0);
                count = x.receive(0, port, 0);
            }
            text.append(" end ").append(count);
        }
        return text.toString();
    }

    private static void dueWithoutChange(String what, Call call, int answer) {
        OolMessagePorts x = busyObject();
        due(what, call.on(x), answer);
        due(what + ": what the object holds", everything(x), everything(busyObject()));
        OolMessagePorts fresh = new OolMessagePorts();
        if (call.on(fresh) < 0) {
            due(what + ": what a new object holds", everything(fresh), everything(new OolMessagePorts()));
        }
    }

    // Without this, the tests below could hold for an object in which there is nothing to change.
    private static void theObjectHoldsSomethingEverywhere() {
        OolMessagePorts x = busyObject();
        due("waiting at the full port", x.waiting(FULL_PORT), 3);
        due("waiting at the port of two pages", x.waiting(PORT_OF_TWO_PAGES), 1);
        due("waiting at the empty port", x.waiting(EMPTY_PORT), 0);
        due("last word of process 0", x.lastWord(0), 51);
        due("last word of process 1", x.lastWord(1), 42);
        due("last word of process 2", x.lastWord(2), 43);
        due("pages of process 0", x.exit(0), 4);
        due("pages of process 1", x.exit(1), 8);
        due("pages of process 2", x.exit(2), 2);
        String text = everything(busyObject());
        due("the snapshots", text.contains(" snapshot 3 ") && text.contains(" snapshot 0 "), true);
        due("the oldest message", text.contains(" message 52,212,0,0,215,"), true);
    }

    // Promise 2: "BAD_NUMBER; page not in 0 to 7: BAD_PAGE; it is mapped: MAPPED."
    private static void refusedMap() {
        for (int bad : BAD_NUMBERS) {
            dueWithoutChange("map(" + bad + ", 5)", x -> x.map(bad, 5), OolMessagePorts.BAD_NUMBER);
        }
        for (int bad : BAD_PAGES) {
            for (int process = 0; process < 3; process++) {
                int good = process;
                dueWithoutChange("map(" + good + ", " + bad + ")", x -> x.map(good, bad), OolMessagePorts.BAD_PAGE);
            }
        }
        for (int page = 0; page < 8; page++) {
            int mapped = page;
            dueWithoutChange("map(1, " + page + ") again", x -> x.map(1, mapped), OolMessagePorts.MAPPED);
        }
    }

    // Promise 3: "BAD_NUMBER; page not in 0 to 7: BAD_PAGE; it is not mapped: NOT_MAPPED."
    private static void refusedUnmap() {
        for (int bad : BAD_NUMBERS) {
            dueWithoutChange("unmap(" + bad + ", 0)", x -> x.unmap(bad, 0), OolMessagePorts.BAD_NUMBER);
        }
        for (int bad : BAD_PAGES) {
            for (int process = 0; process < 3; process++) {
                int good = process;
                dueWithoutChange("unmap(" + good + ", " + bad + ")", x -> x.unmap(good, bad), OolMessagePorts.BAD_PAGE);
            }
        }
        for (int page : new int[] {0, 1, 2, 5, 6, 7}) {
            dueWithoutChange("unmap(2, " + page + ")", x -> x.unmap(2, page), OolMessagePorts.NOT_MAPPED);
        }
    }

    // Promise 4: "BAD_NUMBER; address not in 0 to 31: BAD_PAGE; its page is not mapped: NOT_MAPPED."
    private static void refusedWrite() {
        for (int bad : BAD_NUMBERS) {
            dueWithoutChange("write(" + bad + ", 0, 9)", x -> x.write(bad, 0, 9), OolMessagePorts.BAD_NUMBER);
        }
        for (int bad : BAD_ADDRESSES) {
            for (int process = 0; process < 3; process++) {
                int good = process;
                dueWithoutChange("write(" + good + ", " + bad + ", 9)", x -> x.write(good, bad, 9),
                        OolMessagePorts.BAD_PAGE);
            }
        }
        for (int address : new int[] {0, 11, 20, 31}) {
            dueWithoutChange("write(2, " + address + ", 9)", x -> x.write(2, address, 9), OolMessagePorts.NOT_MAPPED);
        }
        OolMessagePorts x = busyObject();
        x.write(2, 20, 9);
        x.map(2, 5);
        due("read of a page mapped after a refused write", x.read(2, 20), 0);
    }

    // Promise 5: "BAD_NUMBER; from or to not in 0 to 7: BAD_PAGE; from is not mapped: NOT_MAPPED."
    private static void refusedCopy() {
        for (int bad : BAD_NUMBERS) {
            dueWithoutChange("copy(" + bad + ", 0, 1)", x -> x.copy(bad, 0, 1), OolMessagePorts.BAD_NUMBER);
        }
        for (int bad : BAD_PAGES) {
            dueWithoutChange("copy(1, " + bad + ", 0)", x -> x.copy(1, bad, 0), OolMessagePorts.BAD_PAGE);
            dueWithoutChange("copy(1, 0, " + bad + ")", x -> x.copy(1, 0, bad), OolMessagePorts.BAD_PAGE);
            dueWithoutChange("copy(1, 7, " + bad + ")", x -> x.copy(1, 7, bad), OolMessagePorts.BAD_PAGE);
            dueWithoutChange("copy(1, " + bad + ", " + bad + ")", x -> x.copy(1, bad, bad), OolMessagePorts.BAD_PAGE);
        }
        dueWithoutChange("copy to a mapped page", x -> x.copy(2, 2, 3), OolMessagePorts.NOT_MAPPED);
        dueWithoutChange("copy to an unmapped page", x -> x.copy(2, 5, 6), OolMessagePorts.NOT_MAPPED);
        dueWithoutChange("copy of an unmapped page to itself", x -> x.copy(2, 7, 7), OolMessagePorts.NOT_MAPPED);
    }

    // Promise 6: "BAD_NUMBER; the port has three messages: PORT_FULL; .. first + count above 8: BAD_PAGE; one of the
    // pages is not mapped: NOT_MAPPED."
    private static void refusedSend() {
        for (int bad : BAD_NUMBERS) {
            dueWithoutChange("send(" + bad + ", 1, 9, 0)", x -> x.send(bad, 1, 9, 0), OolMessagePorts.BAD_NUMBER);
            dueWithoutChange("send(1, " + bad + ", 9, 0)", x -> x.send(1, bad, 9, 0), OolMessagePorts.BAD_NUMBER);
            dueWithoutChange("send(" + bad + ", " + bad + ", 9, 0)", x -> x.send(bad, bad, 9, 0),
                    OolMessagePorts.BAD_NUMBER);
        }
        for (int count = 0; count <= 3; count++) {
            int sent = pages(0, count);
            dueWithoutChange("send of " + count + " pages to a full port", x -> x.send(1, FULL_PORT, 9, sent),
                    OolMessagePorts.PORT_FULL);
        }
        for (int beyond : new int[] {pages(7, 2), pages(6, 3), pages(7, 3), -1, Integer.MAX_VALUE}) {
            dueWithoutChange("send(1, 2, 9, " + beyond + ")", x -> x.send(1, 2, 9, beyond), OolMessagePorts.BAD_PAGE);
        }
        for (int first = 1; first <= 4; first++) {
            int sent = pages(first, first == 4 ? 2 : 3);
            dueWithoutChange("send(2, 1, 9, " + sent + ")", x -> x.send(2, 1, 9, sent), OolMessagePorts.NOT_MAPPED);
        }
        dueWithoutChange("send of one unmapped page", x -> x.send(2, 2, 9, pages(7, 1)), OolMessagePorts.NOT_MAPPED);
    }

    // Promise 7: "BAD_NUMBER; the port has no message: PORT_EMPTY; at not in 0 to 7 (even for a message without
    // pages), or at and the number of the message's pages together above 8: BAD_PAGE; one of those pages is mapped:
    // MAPPED."
    private static void refusedReceive() {
        for (int bad : BAD_NUMBERS) {
            dueWithoutChange("receive(" + bad + ", 1, 5)", x -> x.receive(bad, 1, 5), OolMessagePorts.BAD_NUMBER);
            dueWithoutChange("receive(2, " + bad + ", 5)", x -> x.receive(2, bad, 5), OolMessagePorts.BAD_NUMBER);
            dueWithoutChange("receive(" + bad + ", " + bad + ", 5)", x -> x.receive(bad, bad, 5),
                    OolMessagePorts.BAD_NUMBER);
        }
        for (int at = 0; at < 8; at++) {
            int good = at;
            dueWithoutChange("receive(2, 2, " + at + ")", x -> x.receive(2, EMPTY_PORT, good),
                    OolMessagePorts.PORT_EMPTY);
        }
        for (int bad : BAD_PAGES) {
            dueWithoutChange("receive(2, 1, " + bad + ")", x -> x.receive(2, 1, bad), OolMessagePorts.BAD_PAGE);
            dueWithoutChange("receive(2, 0, " + bad + ")", x -> x.receive(2, 0, bad), OolMessagePorts.BAD_PAGE);
        }
        dueWithoutChange("two pages at 7", x -> x.receive(2, 1, 7), OolMessagePorts.BAD_PAGE);
        dueWithoutChange("three pages at 6", x -> x.receive(2, 0, 6), OolMessagePorts.BAD_PAGE);
        dueWithoutChange("three pages at 7", x -> x.receive(2, 0, 7), OolMessagePorts.BAD_PAGE);
        for (int at = 1; at <= 4; at++) {
            int bad = at;
            dueWithoutChange("three pages on mapped ones at " + at, x -> x.receive(2, 0, bad), OolMessagePorts.MAPPED);
        }
    }

    // Promise 7: "A refused call leaves the message where it is."
    private static void refusedReceiveLeavesTheMessage() {
        OolMessagePorts x = busyObject();
        int[] refusedAt = {-1, 8, 6, 3};
        for (int at : refusedAt) {
            due("receive(2, 0, " + at + ") is refused", x.receive(2, FULL_PORT, at) < 0, true);
            due("waiting after it", x.waiting(FULL_PORT), 3);
            due("send after it", x.send(1, FULL_PORT, 9, 0), OolMessagePorts.PORT_FULL);
            due("lastWord after it", x.lastWord(2), 43);
        }
        due("receive of the message that was refused", x.receive(2, FULL_PORT, 5), 3);
        due("its word", x.lastWord(2), 52);
        due("its first word of memory", x.read(2, 20), 212);
        due("its last word of memory", x.read(2, 31), 223);
        due("receive of the next one", x.receive(2, FULL_PORT, 0), 1);
        due("its word", x.lastWord(2), 53);
        due("receive of the one after that", x.receive(2, FULL_PORT, 1), 2);
        due("its word", x.lastWord(2), 54);
        due("receive when no more is there", x.receive(2, FULL_PORT, 0), OolMessagePorts.PORT_EMPTY);
    }

    // Promise 8: "BAD_NUMBER"
    private static void refusedDrain() {
        for (int bad : BAD_NUMBERS) {
            dueWithoutChange("drain(" + bad + ")", x -> x.drain(bad), OolMessagePorts.BAD_NUMBER);
        }
    }

    // Promise 9: "BAD_NUMBER"
    private static void refusedSnapshot() {
        for (int bad : BAD_NUMBERS) {
            dueWithoutChange("snapshot(" + bad + ")", x -> x.snapshot(bad), OolMessagePorts.BAD_NUMBER);
        }
    }

    // Promise 10: "BAD_NUMBER; no snapshot: NO_SNAPSHOT"
    private static void refusedRollBack() {
        for (int bad : BAD_NUMBERS) {
            dueWithoutChange("rollBack(" + bad + ")", x -> x.rollBack(bad), OolMessagePorts.BAD_NUMBER);
        }
        dueWithoutChange("rollBack(1)", x -> x.rollBack(1), OolMessagePorts.NO_SNAPSHOT);
    }

    // Promise 11: "BAD_NUMBER"
    private static void refusedExit() {
        for (int bad : BAD_NUMBERS) {
            dueWithoutChange("exit(" + bad + ")", x -> x.exit(bad), OolMessagePorts.BAD_NUMBER);
        }
    }

    // "The calls below change nothing that any call answers."
    private static void looksChangeNothing() {
        for (int bad : BAD_NUMBERS) {
            dueWithoutChange("read(" + bad + ", 0)", x -> x.read(bad, 0), 0);
            dueWithoutChange("mapped(" + bad + ", 0)", x -> x.mapped(bad, 0) ? 1 : 0, 0);
            dueWithoutChange("lastWord(" + bad + ")", x -> x.lastWord(bad), 0);
            dueWithoutChange("waiting(" + bad + ")", x -> x.waiting(bad), OolMessagePorts.BAD_NUMBER);
        }
        for (int bad : BAD_ADDRESSES) {
            dueWithoutChange("read(1, " + bad + ")", x -> x.read(1, bad), 0);
        }
        for (int bad : BAD_PAGES) {
            dueWithoutChange("mapped(1, " + bad + ")", x -> x.mapped(1, bad) ? 1 : 0, 0);
        }
        dueWithoutChange("read of a mapped page", x -> x.read(0, 5), -5);
        dueWithoutChange("read of an unmapped page", x -> x.read(0, 12), 0);
        dueWithoutChange("mapped", x -> x.mapped(0, 7) ? 1 : 0, 1);
        dueWithoutChange("not mapped", x -> x.mapped(0, 6) ? 1 : 0, 0);
        dueWithoutChange("lastWord", x -> x.lastWord(0), 51);
        dueWithoutChange("waiting, full", x -> x.waiting(FULL_PORT), 3);
        dueWithoutChange("waiting, empty", x -> x.waiting(EMPTY_PORT), 0);
    }

    // "In every call: a process or port number not in 0 to 2 is BAD_NUMBER, tested first"
    private static void numberIsTestedFirst() {
        for (int number : BAD_NUMBERS) {
            for (int page : BAD_PAGES) {
                OolMessagePorts x = new OolMessagePorts();
                due("map, both bad", x.map(number, page), OolMessagePorts.BAD_NUMBER);
                due("unmap, both bad", x.unmap(number, page), OolMessagePorts.BAD_NUMBER);
                due("copy, all bad", x.copy(number, page, page), OolMessagePorts.BAD_NUMBER);
                due("receive, process and page bad", x.receive(number, 0, page), OolMessagePorts.BAD_NUMBER);
                due("receive, port and page bad", x.receive(0, number, page), OolMessagePorts.BAD_NUMBER);
            }
            for (int address : BAD_ADDRESSES) {
                OolMessagePorts x = new OolMessagePorts();
                due("write, both bad", x.write(number, address, 1), OolMessagePorts.BAD_NUMBER);
            }
        }
    }

    // Promise 16. Each of these three makes every choice of faults and waits for the one that is named first.
    private static void orderOfCopy() {
        for (int faults = 0; faults < 16; faults++) {
            boolean badProcess = (faults & 1) != 0;
            boolean badFrom = (faults & 2) != 0;
            boolean badTo = (faults & 4) != 0;
            boolean notMapped = (faults & 8) != 0;
            for (int bad = 0; bad < 4; bad++) {
                OolMessagePorts x = new OolMessagePorts();
                mapFilled(x, 0, notMapped ? 2 : 0, notMapped ? 6 : 8, 100);
                int process = badProcess ? BAD_NUMBERS[bad] : 0;
                int from = badFrom ? BAD_PAGES[bad] : 1;
                int to = badTo ? BAD_PAGES[bad] : 2;
                int want = badProcess ? OolMessagePorts.BAD_NUMBER
                        : badFrom || badTo ? OolMessagePorts.BAD_PAGE
                        : notMapped ? OolMessagePorts.NOT_MAPPED
                        : 8;
                due("copy(" + process + ", " + from + ", " + to + "), faults " + faults,
                        x.copy(process, from, to), want);
            }
        }
    }

    private static void orderOfSend() {
        for (int faults = 0; faults < 32; faults++) {
            boolean badProcess = (faults & 1) != 0;
            boolean badPort = (faults & 2) != 0;
            boolean full = (faults & 4) != 0;
            boolean badPage = (faults & 8) != 0;
            boolean notMapped = (faults & 16) != 0;
            for (int bad = 0; bad < 4; bad++) {
                OolMessagePorts x = new OolMessagePorts();
                for (int n = 0; n < (full ? 9 : 6); n++) {
                    x.send(0, n % 3, n, 0);
                }
                if (!notMapped) {
                    mapFilled(x, 0, 0, 8, 100);
                }
                int process = badProcess ? BAD_NUMBERS[bad] : 0;
                int port = badPort ? BAD_NUMBERS[bad] : bad % 3;
                int sent = badPage ? pages(7, 2 + bad % 2) : pages(6, 2);
                int want = badProcess || badPort ? OolMessagePorts.BAD_NUMBER
                        : full ? OolMessagePorts.PORT_FULL
                        : badPage ? OolMessagePorts.BAD_PAGE
                        : notMapped ? OolMessagePorts.NOT_MAPPED
                        : 3;
                due("send(" + process + ", " + port + ", 9, " + sent + "), faults " + faults,
                        x.send(process, port, 9, sent), want);
            }
        }
    }

    private static void orderOfReceive() {
        int[] badAt = {-1, 8, Integer.MIN_VALUE, Integer.MAX_VALUE, 6, 7};
        for (int faults = 0; faults < 32; faults++) {
            boolean badProcess = (faults & 1) != 0;
            boolean badPort = (faults & 2) != 0;
            boolean empty = (faults & 4) != 0;
            boolean badPage = (faults & 8) != 0;
            boolean mapped = (faults & 16) != 0;
            for (int bad = 0; bad < 6; bad++) {
                OolMessagePorts x = new OolMessagePorts();
                mapFilled(x, 1, 0, 3, 100);
                for (int n = 0; n < (empty ? 0 : 3); n++) {
                    x.send(1, n, n, pages(0, 3));
                }
                if (mapped) {
                    mapFilled(x, 0, 0, 8, 200);
                }
                int process = badProcess ? BAD_NUMBERS[bad] : 0;
                int port = badPort ? BAD_NUMBERS[bad] : bad % 3;
                int at = badPage ? badAt[bad] : 5;
                int want = badProcess || badPort ? OolMessagePorts.BAD_NUMBER
                        : empty ? OolMessagePorts.PORT_EMPTY
                        : badPage ? OolMessagePorts.BAD_PAGE
                        : mapped ? OolMessagePorts.MAPPED
                        : 3;
                due("receive(" + process + ", " + port + ", " + at + "), faults " + faults,
                        x.receive(process, port, at), want);
            }
        }
    }
}
