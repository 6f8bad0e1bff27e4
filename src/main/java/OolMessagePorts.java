public final class OolMessagePorts {
    public static final int BAD_NUMBER = -1;
    public static final int BAD_PAGE = -2;
    public static final int MAPPED = -3;
    public static final int NOT_MAPPED = -4;
    public static final int PORT_FULL = -5;
    public static final int PORT_EMPTY = -6;
    public static final int NO_SNAPSHOT = -7;

    private static final int PROCESSES = 3;
    private static final int PORTS = 3;
    private static final int PAGES = 8;
    private static final int PAGE_WORDS = 4;
    private static final int MEMORY_WORDS = PAGES * PAGE_WORDS;
    private static final int PORT_MESSAGES = 3;
    private static final int MESSAGE_WORDS = 3 * PAGE_WORDS;

    private static final int ALL_PAGES = PROCESSES * PAGES;
    private static final int ALL_WORDS = PROCESSES * MEMORY_WORDS;
    private static final int ALL_MESSAGES = PORTS * PORT_MESSAGES;
    private static final int ALL_MESSAGE_WORDS = ALL_MESSAGES * MESSAGE_WORDS;

    // Messages and snapshots own their words: nothing is shared with a process,
    // so no later write can reach what they hold.
    private final boolean[] pageMapped = new boolean[ALL_PAGES];
    private final int[] words = new int[ALL_WORDS];
    private final int[] lastWords = new int[PROCESSES];

    private final boolean[] snapshotTaken = new boolean[PROCESSES];
    private final boolean[] snapshotMapped = new boolean[ALL_PAGES];
    private final int[] snapshotWords = new int[ALL_WORDS];

    // Each port's slots are a ring that starts at its oldest message.
    private final int[] oldest = new int[PORTS];
    private final int[] messageCount = new int[PORTS];
    private final int[] inlineWord = new int[ALL_MESSAGES];
    private final int[] messagePages = new int[ALL_MESSAGES];
    private final int[] messageWords = new int[ALL_MESSAGE_WORDS];

    public OolMessagePorts() {
    }

    public int map(int process, int page) {
        if (!isProcess(process)) {
            return BAD_NUMBER;
        }
        if (!isPage(page)) {
            return BAD_PAGE;
        }
        if (pageMapped[pageIndex(process, page)]) {
            return MAPPED;
        }
        pageMapped[pageIndex(process, page)] = true;
        clearPage(process, page);
        return countMapped(process);
    }

    public int unmap(int process, int page) {
        if (!isProcess(process)) {
            return BAD_NUMBER;
        }
        if (!isPage(page)) {
            return BAD_PAGE;
        }
        if (!pageMapped[pageIndex(process, page)]) {
            return NOT_MAPPED;
        }
        pageMapped[pageIndex(process, page)] = false;
        return countMapped(process);
    }

    public int write(int process, int address, int value) {
        if (!isProcess(process)) {
            return BAD_NUMBER;
        }
        if (!isAddress(address)) {
            return BAD_PAGE;
        }
        int page = address / PAGE_WORDS;
        if (!pageMapped[pageIndex(process, page)]) {
            return NOT_MAPPED;
        }
        words[process * MEMORY_WORDS + address] = value;
        return page;
    }

    public int copy(int process, int from, int to) {
        if (!isProcess(process)) {
            return BAD_NUMBER;
        }
        if (!isPage(from) || !isPage(to)) {
            return BAD_PAGE;
        }
        if (!pageMapped[pageIndex(process, from)]) {
            return NOT_MAPPED;
        }
        int source = wordIndex(process, from);
        int target = wordIndex(process, to);
        copyWords(words, source, words, target, PAGE_WORDS);
        pageMapped[pageIndex(process, to)] = true;
        return countMapped(process);
    }

    public int send(int process, int port, int word, int pages) {
        if (!isProcess(process) || !isPort(port)) {
            return BAD_NUMBER;
        }
        if (messageCount[port] >= PORT_MESSAGES) {
            return PORT_FULL;
        }
        // The masks keep first in 0 to 7 and count in 0 to 3, so only their sum can be bad.
        int first = pages & 7;
        int count = (pages >> 3) & 3;
        if (first + count > PAGES) {
            return BAD_PAGE;
        }
        if (countMappedFrom(process, first, count) != count) {
            return NOT_MAPPED;
        }
        int slot = slotIndex(port, messageCount[port]);
        int source = wordIndex(process, first);
        copyWords(words, source, messageWords, slot * MESSAGE_WORDS, count * PAGE_WORDS);
        inlineWord[slot] = word;
        messagePages[slot] = count;
        messageCount[port]++;
        return messageCount[port];
    }

    public int receive(int process, int port, int at) {
        if (!isProcess(process) || !isPort(port)) {
            return BAD_NUMBER;
        }
        if (messageCount[port] == 0) {
            return PORT_EMPTY;
        }
        int slot = slotIndex(port, 0);
        int count = messagePages[slot];
        if (!isPage(at) || at + count > PAGES) {
            return BAD_PAGE;
        }
        if (countMappedFrom(process, at, count) != 0) {
            return MAPPED;
        }
        int target = wordIndex(process, at);
        copyWords(messageWords, slot * MESSAGE_WORDS, words, target, count * PAGE_WORDS);
        mapPages(process, at, count);
        lastWords[process] = inlineWord[slot];
        dropOldest(port);
        return count;
    }

    public int drain(int port) {
        if (!isPort(port)) {
            return BAD_NUMBER;
        }
        int dropped = messageCount[port];
        messageCount[port] = 0;
        return dropped;
    }

    public int snapshot(int process) {
        if (!isProcess(process)) {
            return BAD_NUMBER;
        }
        copyMemory(process, pageMapped, words, snapshotMapped, snapshotWords);
        snapshotTaken[process] = true;
        return countMapped(process);
    }

    public int rollBack(int process) {
        if (!isProcess(process)) {
            return BAD_NUMBER;
        }
        if (!snapshotTaken[process]) {
            return NO_SNAPSHOT;
        }
        copyMemory(process, snapshotMapped, snapshotWords, pageMapped, words);
        return countMapped(process);
    }

    public int exit(int process) {
        if (!isProcess(process)) {
            return BAD_NUMBER;
        }
        int had = countMapped(process);
        unmapAll(process);
        snapshotTaken[process] = false;
        lastWords[process] = 0;
        return had;
    }

    public int read(int process, int address) {
        if (!isProcess(process) || !isAddress(address)) {
            return 0;
        }
        if (!pageMapped[pageIndex(process, address / PAGE_WORDS)]) {
            return 0;
        }
        return words[process * MEMORY_WORDS + address];
    }

    public boolean mapped(int process, int page) {
        return isProcess(process) && isPage(page) && pageMapped[pageIndex(process, page)];
    }

    public int lastWord(int process) {
        return isProcess(process) ? lastWords[process] : 0;
    }

    public int waiting(int port) {
        return isPort(port) ? messageCount[port] : BAD_NUMBER;
    }

    private static boolean isProcess(int process) {
        return process >= 0 && process < PROCESSES;
    }

    private static boolean isPort(int port) {
        return port >= 0 && port < PORTS;
    }

    private static boolean isPage(int page) {
        return page >= 0 && page < PAGES;
    }

    private static boolean isAddress(int address) {
        return address >= 0 && address < MEMORY_WORDS;
    }

    private static int pageIndex(int process, int page) {
        return process * PAGES + page;
    }

    private static int wordIndex(int process, int page) {
        return process * MEMORY_WORDS + page * PAGE_WORDS;
    }

    private int slotIndex(int port, int age) {
        return port * PORT_MESSAGES + (oldest[port] + age) % PORT_MESSAGES;
    }

    private int countMapped(int process) {
        return countMappedFrom(process, 0, PAGES);
    }

    private int countMappedFrom(int process, int first, int count) {
        int found = 0;
        for (int page = first; page < first + count; page++) {
            if (pageMapped[pageIndex(process, page)]) {
                found++;
            }
        }
        return found;
    }

    private void mapPages(int process, int first, int count) {
        for (int page = first; page < first + count; page++) {
            pageMapped[pageIndex(process, page)] = true;
        }
    }

    private void unmapAll(int process) {
        for (int page = 0; page < PAGES; page++) {
            pageMapped[pageIndex(process, page)] = false;
        }
    }

    // An unmapped page keeps its stale words, so a page that is mapped anew must be cleared.
    private void clearPage(int process, int page) {
        int start = wordIndex(process, page);
        for (int i = 0; i < PAGE_WORDS; i++) {
            words[start + i] = 0;
        }
    }

    private void dropOldest(int port) {
        oldest[port] = (oldest[port] + 1) % PORT_MESSAGES;
        messageCount[port]--;
    }

    private static void copyWords(int[] source, int from, int[] target, int to, int count) {
        for (int i = 0; i < count; i++) {
            target[to + i] = source[from + i];
        }
    }

    private static void copyMemory(int process, boolean[] fromMapped, int[] fromWords,
            boolean[] toMapped, int[] toWords) {
        for (int page = 0; page < PAGES; page++) {
            int index = pageIndex(process, page);
            toMapped[index] = fromMapped[index];
        }
        int start = wordIndex(process, 0);
        copyWords(fromWords, start, toWords, start, MEMORY_WORDS);
    }
}
