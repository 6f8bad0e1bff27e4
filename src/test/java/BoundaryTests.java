// A method for each sentence of the document that names a boundary case; the sentence stands above it.
// What a refused call leaves as it was, and the order of the refusals, is in RefusalTests.
public final class BoundaryTests {
    private static final int MIN = Integer.MIN_VALUE;
    private static final int MAX = Integer.MAX_VALUE;
    private static final int[] BAD_NUMBERS = {-1, 3, MIN, MAX};
    private static final int[] BAD_PAGES = {-1, 8, MIN, MAX};
    private static final int[] BAD_ADDRESSES = {-1, 32, MIN, MAX};
    private static final int[] ANY_INTS = {MIN, MIN + 1, -8, -1, 0, 1, MAX - 1, MAX};

    private static int wrong = 0;

    public static void main(String[] args) {
        termsAddressLiesInPage();
        termsOnlyMappedPagesHaveWords();
        termsPortHoldsThreeOldestFirst();
        termsMessageNeverChanges();
        termsSnapshotNeverChanges();
        termsEveryProcessAndPortNumber();
        promise1NewObject();
        promise2MapFirstAndLastPage();
        promise2MapBadPage();
        promise2MapMapped();
        promise2MapClearsWords();
        promise3UnmapFirstAndLastPage();
        promise3UnmapBadPage();
        promise3UnmapNotMapped();
        promise4WriteFirstAndLastAddress();
        promise4WriteBadAddress();
        promise4WriteNotMapped();
        promise4WriteAnyInt();
        promise5CopyFirstAndLastPage();
        promise5CopyBadPage();
        promise5CopyNotMapped();
        promise5CopyCountsPages();
        promise5CopyToItself();
        promise5CopyGoesItsOwnWay();
        promise6SendAnyWord();
        promise6SendFull();
        promise6SendFirstAndCount();
        promise6SendOneNotMapped();
        promise6SendNoPages();
        promise6SendOtherBits();
        promise7ReceiveEmpty();
        promise7ReceiveBadPage();
        promise7ReceiveNoPagesBadPage();
        promise7ReceiveTogetherAboveEight();
        promise7ReceiveOneMapped();
        promise7ReceiveNoPagesOnMapped();
        promise7ReceiveAfterWrapAround();
        promise8DrainEmptyToFull();
        promise8DrainAfterWrapAround();
        promise9SnapshotEmptyToFull();
        promise9SnapshotInsteadOfOlder();
        promise10RollBackNoSnapshot();
        promise10RollBackEmptyToFull();
        promise10RollBackAgain();
        promise10LastWordStays();
        promise11ExitEmptyToFull();
        promise11ExitEndsSnapshotAndWord();
        promise11ExitMessagesStay();
        promise12ReadOutOfRange();
        promise12ReadNotMapped();
        promise13MappedOutOfRange();
        promise14LastWordOutOfRange();
        promise15WaitingOutOfRange();
        promise15WaitingEmptyToFull();
        limitOf512Calls();
        System.out.println(wrong == 0 ? "all boundary cases hold" : wrong + " answers are not as due");
        if (wrong != 0) {
            System.exit(1);
        }
    }

    private static void due(String what, int got, int want) {
        if (got != want) {
            wrong++;
            System.out.println(what + " answered " + got + ", due is " + want);
        }
    }

    private static void due(String what, boolean got, boolean want) {
        due(what, got ? 1 : 0, want ? 1 : 0);
    }

    private static int pages(int first, int count) {
        return first | count << 3;
    }

    // The word at address a of each page that is mapped here becomes base + a.
    private static void mapFilled(OolMessagePorts x, int process, int first, int count, int base) {
        for (int page = first; page < first + count; page++) {
            x.map(process, page);
            for (int address = 4 * page; address < 4 * page + 4; address++) {
                x.write(process, address, base + address);
            }
        }
    }

    // A process with all its pages, the word at address a being 100 + a.
    private static OolMessagePorts withAllPages(int process) {
        OolMessagePorts x = new OolMessagePorts();
        mapFilled(x, process, 0, 8, 100);
        return x;
    }

    private static void duePage(String what, OolMessagePorts x, int process, int page, int firstWord) {
        due(what + ", mapped", x.mapped(process, page), true);
        for (int i = 0; i < 4; i++) {
            due(what + ", word " + i, x.read(process, 4 * page + i), firstWord + i);
        }
    }

    private static void dueZeroPage(String what, OolMessagePorts x, int process, int page) {
        for (int i = 0; i < 4; i++) {
            due(what + ", word " + i, x.read(process, 4 * page + i), 0);
        }
    }

    private static void dueMappedOnly(String what, OolMessagePorts x, int process, int first, int count) {
        for (int page = 0; page < 8; page++) {
            due(what + ", page " + page, x.mapped(process, page), page >= first && page < first + count);
        }
    }

    // "the word at address x (0 to 31) lies in page x / 4"
    private static void termsAddressLiesInPage() {
        for (int process = 0; process < 3; process++) {
            for (int page = 0; page < 8; page++) {
                OolMessagePorts x = new OolMessagePorts();
                x.map(process, page);
                for (int address = 0; address < 32; address++) {
                    boolean inside = address >= 4 * page && address <= 4 * page + 3;
                    due("write(" + process + ", " + address + ") with page " + page, x.write(process, address, 7),
                            inside ? page : OolMessagePorts.NOT_MAPPED);
                    due("read(" + process + ", " + address + ") with page " + page, x.read(process, address),
                            inside ? 7 : 0);
                }
            }
        }
    }

    // "A page is MAPPED or not; only mapped pages have words."
    private static void termsOnlyMappedPagesHaveWords() {
        OolMessagePorts x = withAllPages(1);
        for (int page = 0; page < 8; page += 7) {
            x.unmap(1, page);
            dueZeroPage("an unmapped page", x, 1, page);
            x.map(1, page);
            dueZeroPage("a page that was unmapped and is mapped again", x, 1, page);
        }
        duePage("the page beside", x, 1, 1, 104);
        duePage("the page beside", x, 1, 6, 124);
    }

    // "A port holds at most three messages, oldest first."
    private static void termsPortHoldsThreeOldestFirst() {
        for (int port = 0; port < 3; port++) {
            OolMessagePorts x = new OolMessagePorts();
            for (int start = 0; start < 7; start++) {
                for (int n = 1; n <= 3; n++) {
                    due("send " + n, x.send(0, port, 10 * start + n, 0), n);
                }
                due("send 4", x.send(0, port, 99, 0), OolMessagePorts.PORT_FULL);
                for (int n = 1; n <= 3; n++) {
                    due("receive " + n, x.receive(1, port, 0), 0);
                    due("receive " + n + ", word", x.lastWord(1), 10 * start + n);
                }
                due("receive 4", x.receive(1, port, 0), OolMessagePorts.PORT_EMPTY);
                // One more message in and out: the next three start at another place of the ring.
                x.send(0, port, 0, 0);
                x.receive(1, port, 0);
            }
        }
    }

    // "WHAT IS IN A MESSAGE .. NEVER CHANGES: it holds the words as they were when it was made, whatever is written
    // later by anybody."
    private static void termsMessageNeverChanges() {
        OolMessagePorts x = withAllPages(0);
        for (int port = 0; port < 3; port++) {
            x.send(0, port, 5, pages(5, 3));
        }
        x.receive(1, 0, 0);
        for (int i = 0; i < 12; i++) {
            x.write(0, 20 + i, -1);
            x.write(1, i, -2);
        }
        x.receive(2, 1, 3);
        x.copy(2, 4, 5);
        for (int page = 0; page < 3; page++) {
            due("written by the one who took another", x.read(1, 4 * page), -2);
            due("written by the sender", x.read(0, 20 + 4 * page), -1);
        }
        duePage("taken after the writes", x, 2, 3, 120);
        duePage("taken after the writes", x, 2, 4, 124);
        x.exit(0);
        x.exit(1);
        x.exit(2);
        due("the third", x.receive(0, 2, 5), 3);
        for (int page = 5; page < 8; page++) {
            duePage("the third", x, 0, page, 100 + 4 * page);
        }
    }

    // "WHAT IS IN A .. SNAPSHOT NEVER CHANGES"
    private static void termsSnapshotNeverChanges() {
        OolMessagePorts x = withAllPages(2);
        x.snapshot(2);
        for (int round = 0; round < 2; round++) {
            x.write(2, 0, -1);
            x.copy(2, 0, 1);
            x.unmap(2, 7);
            x.send(2, 0, 0, pages(0, 1));
            x.receive(2, 0, 7);
            x.write(2, 31, -3);
            due("rollBack", x.rollBack(2), 8);
            for (int page = 0; page < 8; page++) {
                duePage("rollBack", x, 2, page, 100 + 4 * page);
            }
        }
    }

    // "a process or port number not in 0 to 2 is BAD_NUMBER, tested first (the process before the port)"
    private static void termsEveryProcessAndPortNumber() {
        for (int bad : BAD_NUMBERS) {
            OolMessagePorts x = new OolMessagePorts();
            due("map(" + bad + ")", x.map(bad, 0), OolMessagePorts.BAD_NUMBER);
            due("unmap(" + bad + ")", x.unmap(bad, 0), OolMessagePorts.BAD_NUMBER);
            due("write(" + bad + ")", x.write(bad, 0, 1), OolMessagePorts.BAD_NUMBER);
            due("copy(" + bad + ")", x.copy(bad, 0, 0), OolMessagePorts.BAD_NUMBER);
            due("send(" + bad + ", 0)", x.send(bad, 0, 1, 0), OolMessagePorts.BAD_NUMBER);
            due("send(0, " + bad + ")", x.send(0, bad, 1, 0), OolMessagePorts.BAD_NUMBER);
            due("send, both " + bad, x.send(bad, bad, 1, 0), OolMessagePorts.BAD_NUMBER);
            due("receive(" + bad + ", 0)", x.receive(bad, 0, 0), OolMessagePorts.BAD_NUMBER);
            due("receive(0, " + bad + ")", x.receive(0, bad, 0), OolMessagePorts.BAD_NUMBER);
            due("receive, both " + bad, x.receive(bad, bad, 0), OolMessagePorts.BAD_NUMBER);
            due("drain(" + bad + ")", x.drain(bad), OolMessagePorts.BAD_NUMBER);
            due("snapshot(" + bad + ")", x.snapshot(bad), OolMessagePorts.BAD_NUMBER);
            due("rollBack(" + bad + ")", x.rollBack(bad), OolMessagePorts.BAD_NUMBER);
            due("exit(" + bad + ")", x.exit(bad), OolMessagePorts.BAD_NUMBER);
        }
        for (int good = 0; good < 3; good++) {
            OolMessagePorts x = new OolMessagePorts();
            due("map(" + good + ")", x.map(good, 0), 1);
            due("write(" + good + ")", x.write(good, 0, 1), 0);
            due("copy(" + good + ")", x.copy(good, 0, 1), 2);
            due("unmap(" + good + ")", x.unmap(good, 0), 1);
            due("send(" + good + ")", x.send(good, good, 1, 0), 1);
            due("receive(" + good + ")", x.receive(good, good, 0), 0);
            due("drain(" + good + ")", x.drain(good), 0);
            due("snapshot(" + good + ")", x.snapshot(good), 1);
            due("rollBack(" + good + ")", x.rollBack(good), 1);
            due("exit(" + good + ")", x.exit(good), 1);
        }
    }

    // "No page is mapped, no messages, no snapshots; every process's last word is 0."
    private static void promise1NewObject() {
        OolMessagePorts x = new OolMessagePorts();
        for (int n = 0; n < 3; n++) {
            dueMappedOnly("new", x, n, 0, 0);
            due("new: waiting", x.waiting(n), 0);
            due("new: drain", x.drain(n), 0);
            due("new: receive", x.receive(n, n, 0), OolMessagePorts.PORT_EMPTY);
            due("new: rollBack", x.rollBack(n), OolMessagePorts.NO_SNAPSHOT);
            due("new: lastWord", x.lastWord(n), 0);
            due("new: snapshot", x.snapshot(n), 0);
            due("new: exit", x.exit(n), 0);
        }
    }

    // "Maps a page .. Else answers how many pages of the process are mapped.": from none to all
    private static void promise2MapFirstAndLastPage() {
        for (int process = 0; process < 3; process++) {
            OolMessagePorts x = new OolMessagePorts();
            due("map page 7", x.map(process, 7), 1);
            dueMappedOnly("map page 7", x, process, 7, 1);
            due("map page 0", x.map(process, 0), 2);
            for (int page = 1; page < 7; page++) {
                due("map page " + page, x.map(process, page), page + 2);
            }
            dueMappedOnly("map all", x, process, 0, 8);
            dueMappedOnly("map all, another process", x, (process + 1) % 3, 0, 0);
            dueMappedOnly("map all, another process", x, (process + 2) % 3, 0, 0);
        }
    }

    // "page not in 0 to 7: BAD_PAGE"
    private static void promise2MapBadPage() {
        for (int bad : BAD_PAGES) {
            for (int process = 0; process < 3; process++) {
                OolMessagePorts x = new OolMessagePorts();
                due("map page " + bad, x.map(process, bad), OolMessagePorts.BAD_PAGE);
                due("map page " + bad + ", then exit", x.exit(process), 0);
            }
        }
    }

    // "it is mapped: MAPPED"
    private static void promise2MapMapped() {
        OolMessagePorts x = withAllPages(2);
        for (int page = 0; page < 8; page++) {
            due("map page " + page + " again", x.map(2, page), OolMessagePorts.MAPPED);
            duePage("map page " + page + " again", x, 2, page, 100 + 4 * page);
        }
        due("map of another process's page", x.map(1, 0), 1);
    }

    // "Maps a page, with four words 0.": whatever way it was unmapped, and whatever its words had been
    private static void promise2MapClearsWords() {
        OolMessagePorts x = withAllPages(0);
        x.unmap(0, 7);
        x.map(0, 7);
        dueZeroPage("map after unmap", x, 0, 7);
        x.exit(0);
        x.map(0, 0);
        dueZeroPage("map after exit", x, 0, 0);
        x.exit(0);
        x.snapshot(0);
        mapFilled(x, 0, 3, 1, 100);
        x.rollBack(0);
        x.map(0, 3);
        dueZeroPage("map after rollBack", x, 0, 3);
        x.unmap(0, 3);
        mapFilled(x, 1, 4, 1, 500);
        x.send(1, 0, 0, pages(4, 1));
        x.receive(0, 0, 3);
        duePage("receive", x, 0, 3, 516);
        x.unmap(0, 3);
        x.map(0, 3);
        dueZeroPage("map after unmap of a received page", x, 0, 3);
        mapFilled(x, 2, 4, 1, 600);
        x.copy(2, 4, 5);
        x.unmap(2, 5);
        x.map(2, 5);
        dueZeroPage("map after unmap of a copied page", x, 2, 5);
        duePage("the page it was copied from", x, 2, 4, 616);
    }

    // "Unmaps a page .. Else answers how many pages of the process are mapped.": from all to none
    private static void promise3UnmapFirstAndLastPage() {
        for (int process = 0; process < 3; process++) {
            OolMessagePorts x = withAllPages(process);
            due("unmap page 0", x.unmap(process, 0), 7);
            dueMappedOnly("unmap page 0", x, process, 1, 7);
            due("unmap page 7", x.unmap(process, 7), 6);
            dueMappedOnly("unmap page 7", x, process, 1, 6);
            for (int page = 1; page < 7; page++) {
                due("unmap page " + page, x.unmap(process, page), 6 - page);
            }
            dueMappedOnly("unmap all", x, process, 0, 0);
        }
    }

    // "page not in 0 to 7: BAD_PAGE", even where the neighbour in the other processes is mapped
    private static void promise3UnmapBadPage() {
        for (int bad : BAD_PAGES) {
            for (int process = 0; process < 3; process++) {
                OolMessagePorts x = new OolMessagePorts();
                for (int n = 0; n < 3; n++) {
                    x.map(n, 0);
                    x.map(n, 7);
                }
                due("unmap page " + bad, x.unmap(process, bad), OolMessagePorts.BAD_PAGE);
                for (int n = 0; n < 3; n++) {
                    due("unmap page " + bad + ", then exit", x.exit(n), 2);
                }
            }
        }
    }

    // "it is not mapped: NOT_MAPPED"
    private static void promise3UnmapNotMapped() {
        for (int page = 0; page < 8; page++) {
            OolMessagePorts x = withAllPages(0);
            due("unmap page " + page, x.unmap(0, page), 7);
            due("unmap page " + page + " again", x.unmap(0, page), OolMessagePorts.NOT_MAPPED);
            due("unmap of another process's page", x.unmap(1, page), OolMessagePorts.NOT_MAPPED);
        }
    }

    // "Else answers the page's number.": the first and the last word of each page
    private static void promise4WriteFirstAndLastAddress() {
        for (int process = 0; process < 3; process++) {
            OolMessagePorts x = withAllPages(process);
            for (int page = 0; page < 8; page++) {
                due("write, first word", x.write(process, 4 * page, 1), page);
                due("write, last word", x.write(process, 4 * page + 3, 2), page);
                due("read, first word", x.read(process, 4 * page), 1);
                due("read, second word", x.read(process, 4 * page + 1), 100 + 4 * page + 1);
                due("read, third word", x.read(process, 4 * page + 2), 100 + 4 * page + 2);
                due("read, last word", x.read(process, 4 * page + 3), 2);
            }
        }
    }

    // "address not in 0 to 31: BAD_PAGE": -1 / 4 is 0, and yet it is not in page 0
    private static void promise4WriteBadAddress() {
        for (int bad : new int[] {-1, -3, -4, 32, 35, MIN, MAX}) {
            for (int process = 0; process < 3; process++) {
                OolMessagePorts x = withAllPages(process);
                due("write at " + bad, x.write(process, bad, 1), OolMessagePorts.BAD_PAGE);
                due("write at " + bad + " without pages", x.write((process + 1) % 3, bad, 1),
                        OolMessagePorts.BAD_PAGE);
            }
        }
    }

    // "its page is not mapped: NOT_MAPPED"
    private static void promise4WriteNotMapped() {
        for (int page = 0; page < 8; page++) {
            OolMessagePorts x = withAllPages(1);
            x.unmap(1, page);
            due("write, first word", x.write(1, 4 * page, 1), OolMessagePorts.NOT_MAPPED);
            due("write, last word", x.write(1, 4 * page + 3, 1), OolMessagePorts.NOT_MAPPED);
            due("write in another process", x.write(0, 4 * page, 1), OolMessagePorts.NOT_MAPPED);
            x.map(1, page);
            dueZeroPage("mapped after the refused writes", x, 1, page);
        }
    }

    // "Writes a word (any int)."
    private static void promise4WriteAnyInt() {
        OolMessagePorts x = withAllPages(2);
        for (int value : ANY_INTS) {
            due("write of " + value, x.write(2, 31, value), 7);
            due("read of " + value, x.read(2, 31), value);
            due("write of " + value, x.write(2, 0, value), 0);
            due("read of " + value, x.read(2, 0), value);
        }
    }

    // "The process makes its page 'to' hold the same four words as its page 'from'"
    private static void promise5CopyFirstAndLastPage() {
        for (int process = 0; process < 3; process++) {
            OolMessagePorts x = new OolMessagePorts();
            mapFilled(x, process, 0, 1, 100);
            due("copy of page 0 to 7", x.copy(process, 0, 7), 2);
            duePage("copy of page 0 to 7", x, process, 7, 100);
            duePage("page 0 stays", x, process, 0, 100);
            x.unmap(process, 0);
            due("copy of page 7 to 0", x.copy(process, 7, 0), 2);
            duePage("copy of page 7 to 0", x, process, 0, 100);
            duePage("page 7 stays", x, process, 7, 100);
        }
    }

    // "from or to not in 0 to 7: BAD_PAGE"
    private static void promise5CopyBadPage() {
        for (int bad : BAD_PAGES) {
            for (int process = 0; process < 3; process++) {
                OolMessagePorts x = withAllPages(process);
                due("copy from " + bad, x.copy(process, bad, 0), OolMessagePorts.BAD_PAGE);
                due("copy from " + bad, x.copy(process, bad, 7), OolMessagePorts.BAD_PAGE);
                due("copy to " + bad, x.copy(process, 0, bad), OolMessagePorts.BAD_PAGE);
                due("copy to " + bad, x.copy(process, 7, bad), OolMessagePorts.BAD_PAGE);
                due("copy from and to " + bad, x.copy(process, bad, bad), OolMessagePorts.BAD_PAGE);
            }
        }
    }

    // "from is not mapped: NOT_MAPPED"
    private static void promise5CopyNotMapped() {
        for (int from = 0; from < 8; from++) {
            OolMessagePorts x = withAllPages(0);
            x.unmap(0, from);
            int to = 7 - from;
            due("copy to a mapped page", x.copy(0, from, to), OolMessagePorts.NOT_MAPPED);
            duePage("copy to a mapped page", x, 0, to, 100 + 4 * to);
            due("copy to itself", x.copy(0, from, from), OolMessagePorts.NOT_MAPPED);
            due("copy of another process's page", x.copy(1, to, from), OolMessagePorts.NOT_MAPPED);
            due("the pages after all that", x.exit(0), 7);
        }
    }

    // "Else page to is mapped if it was not, its old words are gone if it was .., and the call answers how many pages
    // of the process are mapped."
    private static void promise5CopyCountsPages() {
        OolMessagePorts x = new OolMessagePorts();
        mapFilled(x, 1, 0, 1, 100);
        for (int to = 1; to < 8; to++) {
            due("copy to an unmapped page", x.copy(1, 0, to), to + 1);
            due("copy to it again", x.copy(1, 0, to), to + 1);
            due("map of it", x.map(1, to), OolMessagePorts.MAPPED);
            duePage("copy to an unmapped page", x, 1, to, 100);
        }
        for (int i = 0; i < 4; i++) {
            x.write(1, 28 + i, 300 + i);
        }
        due("copy to a mapped page, all being mapped", x.copy(1, 7, 0), 8);
        duePage("its old words are gone", x, 1, 0, 300);
    }

    // "(from == to changes nothing)"
    private static void promise5CopyToItself() {
        for (int page = 0; page < 8; page++) {
            OolMessagePorts x = withAllPages(2);
            due("copy to itself, all being mapped", x.copy(2, page, page), 8);
            for (int same = 0; same < 8; same++) {
                duePage("copy to itself", x, 2, same, 100 + 4 * same);
            }
            OolMessagePorts y = new OolMessagePorts();
            y.map(2, page);
            due("copy to itself, the one page", y.copy(2, page, page), 1);
            dueMappedOnly("copy to itself, the one page", y, 2, page, 1);
        }
    }

    // "from then on each goes its own way"
    private static void promise5CopyGoesItsOwnWay() {
        OolMessagePorts x = withAllPages(0);
        x.copy(0, 0, 1);
        x.copy(0, 1, 2);
        x.write(0, 4, -1);
        duePage("the page copied from", x, 0, 0, 100);
        duePage("the page copied to", x, 0, 2, 100);
        x.write(0, 0, -2);
        x.unmap(0, 1);
        duePage("the page copied to, its source unmapped", x, 0, 2, 100);
        due("the page copied from", x.read(0, 0), -2);
    }

    // "Sends a message with this inline word (any int)"
    private static void promise6SendAnyWord() {
        OolMessagePorts x = new OolMessagePorts();
        for (int word : ANY_INTS) {
            due("send of " + word, x.send(0, 2, word, 0), 1);
            due("receive of " + word, x.receive(1, 2, 0), 0);
            due("lastWord", x.lastWord(1), word);
        }
    }

    // "the port has three messages: PORT_FULL"
    private static void promise6SendFull() {
        for (int port = 0; port < 3; port++) {
            OolMessagePorts x = withAllPages(0);
            for (int n = 1; n <= 3; n++) {
                due("send " + n, x.send(0, port, n, pages(n, 3)), n);
            }
            due("send 4", x.send(0, port, 4, pages(0, 3)), OolMessagePorts.PORT_FULL);
            due("send 4 by another process", x.send(1, port, 4, 0), OolMessagePorts.PORT_FULL);
            due("another port", x.send(0, (port + 1) % 3, 5, 0), 1);
            due("a third port", x.send(0, (port + 2) % 3, 6, 0), 1);
            due("one is taken", x.receive(1, port, 0), 3);
            due("send after that", x.send(0, port, 7, 0), 3);
            due("send when it is full again", x.send(0, port, 8, 0), OolMessagePorts.PORT_FULL);
        }
    }

    // "count not in 0 to 3, or first not in 0 to 7, or first + count above 8: BAD_PAGE"
    private static void promise6SendFirstAndCount() {
        for (int first = 0; first < 8; first++) {
            for (int count = 0; count <= 3; count++) {
                OolMessagePorts x = withAllPages(1);
                boolean fits = first + count <= 8;
                due("send of " + count + " from " + first, x.send(1, 0, 9, pages(first, count)),
                        fits ? 1 : OolMessagePorts.BAD_PAGE);
                due("the same", x.receive(2, 0, 1), fits ? count : OolMessagePorts.PORT_EMPTY);
                dueMappedOnly("the same", x, 2, 1, fits ? count : 0);
                for (int i = 0; fits && i < count; i++) {
                    duePage("the same", x, 2, 1 + i, 100 + 4 * (first + i));
                }
                due("the pages stay mapped", x.exit(1), 8);
            }
        }
    }

    // "one of the pages is not mapped: NOT_MAPPED"
    private static void promise6SendOneNotMapped() {
        for (int hole = 0; hole < 8; hole++) {
            OolMessagePorts x = withAllPages(2);
            x.unmap(2, hole);
            for (int first = 0; first < 8; first++) {
                for (int count = 1; count <= 3 && first + count <= 8; count++) {
                    boolean over = hole >= first && hole < first + count;
                    due("send of " + count + " from " + first + " without page " + hole,
                            x.send(2, 1, 0, pages(first, count)), over ? OolMessagePorts.NOT_MAPPED : 1);
                    x.drain(1);
                }
            }
            due("send of another process's page", x.send(1, 1, 0, pages(7 - hole, 1)), OolMessagePorts.NOT_MAPPED);
        }
    }

    // "0 to 3 pages of words": none is sent from any page, be it mapped or not
    private static void promise6SendNoPages() {
        for (int first = 0; first < 8; first++) {
            OolMessagePorts x = new OolMessagePorts();
            due("send of no page from " + first, x.send(0, 0, 5, pages(first, 0)), 1);
            due("receive of no page", x.receive(0, 0, 7), 0);
            due("its word", x.lastWord(0), 5);
            dueMappedOnly("receive of no page", x, 0, 0, 0);
        }
    }

    // "first = pages & 7, count = (pages >> 3) & 3; its other bits are not looked at"
    private static void promise6SendOtherBits() {
        int[] others = {32, 64, 1 << 30, MIN, ~31};
        for (int other : others) {
            OolMessagePorts x = withAllPages(0);
            due("send of no page", x.send(0, 0, 0, other), 1);
            due("receive of no page", x.receive(1, 0, 0), 0);
            due("send of pages 5 to 7", x.send(0, 0, 0, other | pages(5, 3)), 1);
            due("receive of pages 5 to 7", x.receive(1, 0, 0), 3);
            duePage("receive of page 5", x, 1, 0, 120);
            duePage("receive of page 7", x, 1, 2, 128);
            due("send of pages 6 to 8", x.send(0, 0, 0, other | pages(6, 3)), OolMessagePorts.BAD_PAGE);
        }
        OolMessagePorts x = withAllPages(0);
        due("send, pages -1", x.send(0, 0, 0, -1), OolMessagePorts.BAD_PAGE);
        due("send, pages the greatest int", x.send(0, 0, 0, MAX), OolMessagePorts.BAD_PAGE);
        due("send, pages the least int", x.send(0, 0, 0, MIN), 1);
        due("send, pages -8: three from page 0", x.send(0, 0, 0, -8), 2);
        due("send, pages 8: one from page 0", x.send(0, 0, 0, 8), 3);
        due("receive, none", x.receive(1, 0, 0), 0);
        due("receive, three", x.receive(1, 0, 0), 3);
        due("receive, one", x.receive(1, 0, 3), 1);
    }

    // "the port has no message: PORT_EMPTY"
    private static void promise7ReceiveEmpty() {
        for (int port = 0; port < 3; port++) {
            OolMessagePorts x = new OolMessagePorts();
            x.send(0, (port + 1) % 3, 1, 0);
            x.send(0, (port + 2) % 3, 1, 0);
            due("receive, none was sent", x.receive(0, port, 0), OolMessagePorts.PORT_EMPTY);
            x.send(0, port, 1, 0);
            due("receive of the one", x.receive(0, port, 0), 0);
            due("receive, it was taken", x.receive(0, port, 0), OolMessagePorts.PORT_EMPTY);
            x.send(0, port, 1, 0);
            x.drain(port);
            due("receive, it was dropped", x.receive(0, port, 0), OolMessagePorts.PORT_EMPTY);
        }
    }

    // "at not in 0 to 7": at + count wraps around for the greatest int
    private static void promise7ReceiveBadPage() {
        for (int bad : new int[] {-1, -2, -3, 8, MIN, MAX, MAX - 2}) {
            for (int count = 1; count <= 3; count++) {
                OolMessagePorts x = withAllPages(0);
                x.send(0, 0, 5, pages(0, count));
                due("receive of " + count + " at " + bad, x.receive(1, 0, bad), OolMessagePorts.BAD_PAGE);
                due("the message is there", x.waiting(0), 1);
            }
        }
    }

    // "(even for a message without pages)"
    private static void promise7ReceiveNoPagesBadPage() {
        for (int bad : BAD_PAGES) {
            OolMessagePorts x = new OolMessagePorts();
            x.send(0, 0, 5, 0);
            due("receive of no page at " + bad, x.receive(1, 0, bad), OolMessagePorts.BAD_PAGE);
            due("the message is there", x.waiting(0), 1);
            due("the last word", x.lastWord(1), 0);
        }
        for (int at = 0; at < 8; at++) {
            OolMessagePorts x = new OolMessagePorts();
            x.send(0, 0, 5, 0);
            due("receive of no page at " + at, x.receive(1, 0, at), 0);
            dueMappedOnly("receive of no page at " + at, x, 1, 0, 0);
        }
    }

    // "or at and the number of the message's pages together above 8: BAD_PAGE"
    private static void promise7ReceiveTogetherAboveEight() {
        for (int count = 1; count <= 3; count++) {
            for (int at = 0; at < 8; at++) {
                OolMessagePorts x = withAllPages(0);
                x.send(0, 0, 5, pages(2, count));
                boolean fits = at + count <= 8;
                due("receive of " + count + " at " + at, x.receive(1, 0, at), fits ? count : OolMessagePorts.BAD_PAGE);
                dueMappedOnly("receive of " + count + " at " + at, x, 1, at, fits ? count : 0);
                for (int i = 0; fits && i < count; i++) {
                    duePage("receive of " + count + " at " + at, x, 1, at + i, 108 + 4 * i);
                }
                dueMappedOnly("the next process", x, 2, 0, 0);
            }
        }
    }

    // "one of those pages is mapped: MAPPED"
    private static void promise7ReceiveOneMapped() {
        for (int count = 1; count <= 3; count++) {
            for (int at = 0; at + count <= 8; at++) {
                for (int page = 0; page < 8; page++) {
                    OolMessagePorts x = withAllPages(0);
                    x.send(0, 0, 5, pages(0, count));
                    mapFilled(x, 1, page, 1, 300);
                    boolean over = page >= at && page < at + count;
                    due("receive of " + count + " at " + at + " with page " + page, x.receive(1, 0, at),
                            over ? OolMessagePorts.MAPPED : count);
                    duePage("the page that was mapped", x, 1, page, 300 + 4 * page);
                    due("all pages", x.snapshot(1), over ? 1 : count + 1);
                }
            }
        }
        OolMessagePorts x = withAllPages(0);
        x.send(0, 0, 5, pages(0, 1));
        due("receive on the sender's own page", x.receive(0, 0, 0), OolMessagePorts.MAPPED);
    }

    // "one of those pages": a message without pages is taken at any page, be it mapped or not
    private static void promise7ReceiveNoPagesOnMapped() {
        OolMessagePorts x = withAllPages(1);
        for (int at = 0; at < 8; at++) {
            x.send(0, 0, 60 + at, 0);
            due("receive of no page at the mapped page " + at, x.receive(1, 0, at), 0);
            due("its word", x.lastWord(1), 60 + at);
            duePage("the mapped page", x, 1, at, 100 + 4 * at);
        }
    }

    // "The process takes the port's oldest message": with one, two and three waiting, for many times the port's size
    private static void promise7ReceiveAfterWrapAround() {
        for (int held = 1; held <= 3; held++) {
            OolMessagePorts x = new OolMessagePorts();
            x.map(0, 6);
            for (int n = 1; n <= 20; n++) {
                x.write(0, 27, 1000 + n);
                due("send " + n, x.send(0, 1, n, pages(6, 1)), n < held ? n : held);
                if (n >= held) {
                    int oldest = n - held + 1;
                    due("receive", x.receive(2, 1, 0), 1);
                    due("the oldest one's word", x.lastWord(2), oldest);
                    due("the oldest one's page", x.read(2, 3), 1000 + oldest);
                    x.unmap(2, 0);
                }
            }
            due("what is left", x.waiting(1), held - 1);
        }
    }

    // "Drops all messages of a port. BAD_NUMBER; else answers how many it had."
    private static void promise8DrainEmptyToFull() {
        for (int port = 0; port < 3; port++) {
            for (int count = 0; count <= 3; count++) {
                OolMessagePorts x = withAllPages(0);
                for (int n = 0; n < count; n++) {
                    x.send(0, port, 1, pages(0, 3));
                }
                x.send(0, (port + 1) % 3, 2, 0);
                x.send(0, (port + 2) % 3, 3, 0);
                due("drain of " + count, x.drain(port), count);
                due("waiting", x.waiting(port), 0);
                due("receive", x.receive(1, port, 0), OolMessagePorts.PORT_EMPTY);
                due("drain again", x.drain(port), 0);
                due("another port", x.waiting((port + 1) % 3), 1);
                due("a third port", x.waiting((port + 2) % 3), 1);
                for (int n = 1; n <= 3; n++) {
                    due("send after drain", x.send(0, port, n, 0), n);
                }
                due("send to the full port", x.send(0, port, 4, 0), OolMessagePorts.PORT_FULL);
            }
        }
        for (int bad : BAD_NUMBERS) {
            OolMessagePorts x = new OolMessagePorts();
            due("drain of port " + bad, x.drain(bad), OolMessagePorts.BAD_NUMBER);
        }
    }

    // "Drops all messages of a port.": wherever the oldest one lies
    private static void promise8DrainAfterWrapAround() {
        for (int taken = 0; taken < 4; taken++) {
            OolMessagePorts x = new OolMessagePorts();
            for (int n = 0; n < taken; n++) {
                x.send(0, 2, 9, 0);
                x.receive(0, 2, 0);
            }
            x.send(0, 2, 7, 0);
            x.send(0, 2, 8, 0);
            due("drain", x.drain(2), 2);
            for (int n = 1; n <= 3; n++) {
                x.send(0, 2, n, 0);
            }
            for (int n = 1; n <= 3; n++) {
                due("receive after drain", x.receive(1, 2, 0), 0);
                due("its word", x.lastWord(1), n);
            }
            due("receive at the end", x.receive(1, 2, 0), OolMessagePorts.PORT_EMPTY);
        }
    }

    // "Keeps the process's memory as it is .. else answers how many pages are mapped."
    private static void promise9SnapshotEmptyToFull() {
        for (int process = 0; process < 3; process++) {
            for (int count = 0; count <= 8; count++) {
                OolMessagePorts x = new OolMessagePorts();
                mapFilled(x, process, 8 - count, count, 100);
                due("snapshot of " + count, x.snapshot(process), count);
                dueMappedOnly("snapshot of " + count, x, process, 8 - count, count);
                due("the next process", x.rollBack((process + 1) % 3), OolMessagePorts.NO_SNAPSHOT);
            }
        }
    }

    // "as its snapshot, instead of an older one"
    private static void promise9SnapshotInsteadOfOlder() {
        OolMessagePorts x = withAllPages(1);
        due("snapshot of all", x.snapshot(1), 8);
        for (int page = 0; page < 8; page++) {
            x.unmap(1, page);
        }
        due("snapshot of none", x.snapshot(1), 0);
        mapFilled(x, 1, 0, 1, 300);
        due("rollBack to none", x.rollBack(1), 0);
        dueMappedOnly("rollBack to none", x, 1, 0, 0);
        mapFilled(x, 1, 7, 1, 500);
        due("snapshot of page 7", x.snapshot(1), 1);
        x.unmap(1, 7);
        due("rollBack to page 7", x.rollBack(1), 1);
        dueMappedOnly("rollBack to page 7", x, 1, 7, 1);
        duePage("rollBack to page 7", x, 1, 7, 528);
    }

    // "no snapshot: NO_SNAPSHOT"
    private static void promise10RollBackNoSnapshot() {
        for (int process = 0; process < 3; process++) {
            OolMessagePorts x = withAllPages(process);
            x.snapshot((process + 1) % 3);
            x.snapshot((process + 2) % 3);
            due("rollBack, never taken", x.rollBack(process), OolMessagePorts.NO_SNAPSHOT);
            dueMappedOnly("rollBack, never taken", x, process, 0, 8);
            x.snapshot(process);
            x.exit(process);
            due("rollBack, gone by exit", x.rollBack(process), OolMessagePorts.NO_SNAPSHOT);
        }
    }

    // "the same pages mapped with the same words .. else answers how many pages are mapped"
    private static void promise10RollBackEmptyToFull() {
        for (int process = 0; process < 3; process++) {
            for (int count = 0; count <= 8; count++) {
                OolMessagePorts x = new OolMessagePorts();
                mapFilled(x, process, 0, count, 100);
                x.snapshot(process);
                for (int page = 0; page < 8; page++) {
                    x.unmap(process, page);
                }
                mapFilled(x, process, 1, 7, 300);
                due("rollBack to " + count, x.rollBack(process), count);
                dueMappedOnly("rollBack to " + count, x, process, 0, count);
                for (int page = 0; page < count; page++) {
                    duePage("rollBack to " + count, x, process, page, 100 + 4 * page);
                }
            }
        }
    }

    // "The snapshot stays and can be taken again."
    private static void promise10RollBackAgain() {
        OolMessagePorts x = new OolMessagePorts();
        mapFilled(x, 0, 0, 2, 100);
        x.snapshot(0);
        for (int round = 0; round < 4; round++) {
            for (int address = 0; address < 8; address++) {
                x.write(0, address, -round);
            }
            due("rollBack", x.rollBack(0), 2);
            duePage("rollBack", x, 0, 0, 100);
            duePage("rollBack", x, 0, 1, 104);
            due("rollBack at once again", x.rollBack(0), 2);
        }
    }

    // "The last word doesn't change."
    private static void promise10LastWordStays() {
        OolMessagePorts x = new OolMessagePorts();
        x.send(0, 0, 5, 0);
        x.send(0, 0, 6, 0);
        x.receive(1, 0, 0);
        x.snapshot(1);
        x.receive(1, 0, 0);
        x.rollBack(1);
        due("lastWord after rollBack", x.lastWord(1), 6);
    }

    // "all its pages are unmapped .. else answers how many pages it had mapped"
    private static void promise11ExitEmptyToFull() {
        for (int process = 0; process < 3; process++) {
            for (int count = 0; count <= 8; count++) {
                OolMessagePorts x = new OolMessagePorts();
                for (int n = 0; n < 3; n++) {
                    mapFilled(x, n, 0, n == process ? count : 8, 100);
                }
                due("exit of " + count, x.exit(process), count);
                dueMappedOnly("exit of " + count, x, process, 0, 0);
                due("exit again", x.exit(process), 0);
                due("the next process", x.snapshot((process + 1) % 3), 8);
                due("the third process", x.snapshot((process + 2) % 3), 8);
                due("map after exit", x.map(process, 7), 1);
            }
        }
    }

    // "its snapshot is gone, its last word is 0"
    private static void promise11ExitEndsSnapshotAndWord() {
        for (int process = 0; process < 3; process++) {
            OolMessagePorts x = withAllPages(process);
            for (int n = 0; n < 3; n++) {
                x.send(0, n, 60 + n, 0);
                x.receive(n, n, 0);
                x.snapshot(n);
            }
            x.exit(process);
            for (int n = 0; n < 3; n++) {
                due("lastWord " + n + " after exit", x.lastWord(n), n == process ? 0 : 60 + n);
                due("rollBack " + n + " after exit", x.rollBack(n), n == process ? OolMessagePorts.NO_SNAPSHOT : 0);
            }
        }
    }

    // "Messages it sent stay."
    private static void promise11ExitMessagesStay() {
        OolMessagePorts x = withAllPages(0);
        for (int port = 0; port < 3; port++) {
            for (int n = 0; n < 3; n++) {
                x.send(0, port, 10 * port + n, pages(n, 3));
            }
        }
        x.exit(0);
        mapFilled(x, 0, 0, 8, 500);
        for (int port = 0; port < 3; port++) {
            due("waiting after exit", x.waiting(port), 3);
            due("send after exit", x.send(0, port, 0, 0), OolMessagePorts.PORT_FULL);
            for (int n = 0; n < 3; n++) {
                due("receive after exit", x.receive(1, port, 5), 3);
                due("its word", x.lastWord(1), 10 * port + n);
                duePage("its first page", x, 1, 5, 100 + 4 * n);
                duePage("its last page", x, 1, 7, 100 + 4 * (n + 2));
                x.exit(1);
            }
        }
    }

    // "0 if the process number or the address is out of range": the words beside are not 0
    private static void promise12ReadOutOfRange() {
        OolMessagePorts x = new OolMessagePorts();
        for (int process = 0; process < 3; process++) {
            mapFilled(x, process, 0, 1, 100);
            mapFilled(x, process, 7, 1, 100);
        }
        for (int process = 0; process < 3; process++) {
            due("read at 0", x.read(process, 0), 100);
            due("read at 31", x.read(process, 31), 131);
            for (int bad : BAD_ADDRESSES) {
                due("read at " + bad, x.read(process, bad), 0);
            }
        }
        for (int bad : BAD_NUMBERS) {
            due("read of process " + bad, x.read(bad, 0), 0);
            due("read of process " + bad, x.read(bad, 31), 0);
            for (int address : BAD_ADDRESSES) {
                due("read of process " + bad + " at " + address, x.read(bad, address), 0);
            }
        }
        due("read of process -1 past its end", x.read(-1, 32), 0);
        due("read of process 3 before its start", x.read(3, -1), 0);
    }

    // "or the page is not mapped"
    private static void promise12ReadNotMapped() {
        for (int page = 0; page < 8; page++) {
            OolMessagePorts x = withAllPages(1);
            x.unmap(1, page);
            for (int address = 0; address < 32; address++) {
                due("read at " + address + " without page " + page, x.read(1, address),
                        address / 4 == page ? 0 : 100 + address);
            }
        }
    }

    // "(false if the process number or the page is out of range)": the pages beside are mapped
    private static void promise13MappedOutOfRange() {
        OolMessagePorts x = new OolMessagePorts();
        for (int process = 0; process < 3; process++) {
            x.map(process, 0);
            x.map(process, 7);
        }
        for (int process = 0; process < 3; process++) {
            due("mapped, page 0", x.mapped(process, 0), true);
            due("mapped, page 1", x.mapped(process, 1), false);
            due("mapped, page 6", x.mapped(process, 6), false);
            due("mapped, page 7", x.mapped(process, 7), true);
            for (int bad : BAD_PAGES) {
                due("mapped, page " + bad, x.mapped(process, bad), false);
            }
        }
        for (int bad : BAD_NUMBERS) {
            due("mapped, process " + bad, x.mapped(bad, 0), false);
            due("mapped, process " + bad, x.mapped(bad, 7), false);
            for (int page : BAD_PAGES) {
                due("mapped, process " + bad + ", page " + page, x.mapped(bad, page), false);
            }
        }
        due("mapped, process -1 past its end", x.mapped(-1, 8), false);
        due("mapped, process 3 before its start", x.mapped(3, -1), false);
    }

    // "0 if the number is out of range"
    private static void promise14LastWordOutOfRange() {
        OolMessagePorts x = new OolMessagePorts();
        for (int process = 0; process < 3; process++) {
            x.send(process, process, -60 - process, 0);
            x.receive(process, process, 7);
        }
        for (int process = 0; process < 3; process++) {
            due("lastWord of " + process, x.lastWord(process), -60 - process);
        }
        for (int bad : BAD_NUMBERS) {
            due("lastWord of " + bad, x.lastWord(bad), 0);
        }
    }

    // "BAD_NUMBER if there is no such port"
    private static void promise15WaitingOutOfRange() {
        OolMessagePorts x = new OolMessagePorts();
        for (int round = 0; round < 2; round++) {
            for (int bad : BAD_NUMBERS) {
                due("waiting at port " + bad, x.waiting(bad), OolMessagePorts.BAD_NUMBER);
            }
            for (int n = 0; n < 9; n++) {
                x.send(0, n % 3, n, 0);
            }
        }
    }

    // "How many messages the port has"
    private static void promise15WaitingEmptyToFull() {
        for (int port = 0; port < 3; port++) {
            OolMessagePorts x = new OolMessagePorts();
            for (int n = 0; n <= 3; n++) {
                due("waiting, filling", x.waiting(port), n);
                x.send(1, port, n, 0);
            }
            due("waiting after a refused send", x.waiting(port), 3);
            for (int n = 3; n >= 0; n--) {
                due("waiting, emptying", x.waiting(port), n);
                x.receive(1, port, 0);
            }
            due("waiting after a refused receive", x.waiting(port), 0);
            due("waiting, the next port", x.waiting((port + 1) % 3), 0);
            due("waiting, the third port", x.waiting((port + 2) % 3), 0);
        }
    }

    // "An object is used for at most 512 calls after it has been made": the 512th is answered like the first, and
    // nothing that was given back is used up
    private static void limitOf512Calls() {
        OolMessagePorts x = new OolMessagePorts();
        for (int round = 0; round < 128; round++) {
            due("round " + round + ": map", x.map(0, 7), 1);
            due("round " + round + ": send", x.send(0, 0, round, pages(7, 1)), 1);
            due("round " + round + ": receive", x.receive(0, 0, 6), 1);
            due("round " + round + ": exit", x.exit(0), 2);
        }
        OolMessagePorts y = new OolMessagePorts();
        for (int round = 0; round < 102; round++) {
            due("round " + round + ": map", y.map(1, 0), 1);
            due("round " + round + ": copy", y.copy(1, 0, 7), 2);
            due("round " + round + ": snapshot", y.snapshot(1), 2);
            due("round " + round + ": rollBack", y.rollBack(1), 2);
            due("round " + round + ": exit", y.exit(1), 2);
        }
        OolMessagePorts z = new OolMessagePorts();
        for (int page = 0; page < 3; page++) {
            z.map(2, page);
        }
        for (int round = 0; round < 127; round++) {
            for (int n = 1; n <= 3; n++) {
                due("round " + round + ": send", z.send(2, round % 3, n, pages(0, 3)), n);
            }
            due("round " + round + ": drain", z.drain(round % 3), 3);
        }
    }
}
