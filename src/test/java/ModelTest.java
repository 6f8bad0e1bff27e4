import java.util.ArrayDeque;
import java.util.ArrayList;
import java.util.Deque;
import java.util.List;
import java.util.Map;
import java.util.TreeMap;

// Runs of 512 calls, made by a fixed rule, on the class and on a model that keeps every page as an
// unchanging list of four words. The two must answer alike.
public final class ModelTest {
    private static final int RUNS = 2000;
    private static final int CALLS = 512;
    private static final String[] NAMES = {"map", "unmap", "write", "copy", "send", "receive", "drain",
        "snapshot", "rollBack", "exit", "read", "mapped", "lastWord", "waiting"};
    // How often each call of NAMES is made; rare ones would wipe out what the others build up.
    private static final int[] WEIGHTS = {14, 5, 14, 8, 14, 14, 1, 3, 3, 1, 16, 4, 3, 2};

    private static long seed;

    public static void main(String[] args) {
        for (int run = 0; run < RUNS; run++) {
            seed = run;
            if (!runAgrees(run)) {
                System.exit(1);
            }
        }
        System.out.println(RUNS + " runs agree with the model");
    }

    private static boolean runAgrees(int run) {
        OolMessagePorts x = new OolMessagePorts();
        Model model = new Model();
        List<String> log = new ArrayList<>();
        boolean wild = run % 4 == 3;
        for (int n = 0; n < CALLS; n++) {
            String name = pickName();
            int[] a = {number(wild), second(name, wild), third(name, wild), pick(64) - 16};
            int got = onClass(x, name, a);
            int want = onModel(model, name, a);
            log.add(name + "(" + a[0] + ", " + a[1] + ", " + a[2] + ", " + a[3] + ") = " + got);
            if (got != want) {
                System.out.println("run " + run + ", due is " + want + " at the end of\n" + String.join("\n", log));
                return false;
            }
        }
        return true;
    }

    // A linear congruential rule, so that every run of this test makes the same calls.
    private static int pick(int bound) {
        seed = seed * 6364136223846793005L + 1442695040888963407L;
        return (int) ((seed >>> 33) % bound);
    }

    private static String pickName() {
        int total = 0;
        for (int weight : WEIGHTS) {
            total += weight;
        }
        int left = pick(total);
        int at = 0;
        while (left >= WEIGHTS[at]) {
            left -= WEIGHTS[at];
            at++;
        }
        return NAMES[at];
    }

    private static int odd() {
        int[] odd = {-1, 3, 8, 32, Integer.MIN_VALUE, Integer.MAX_VALUE};
        return odd[pick(odd.length)];
    }

    private static int number(boolean wild) {
        return wild && pick(10) == 0 ? odd() : pick(3);
    }

    private static int second(String name, boolean wild) {
        if (wild && pick(10) == 0) {
            return odd();
        }
        return switch (name) {
            case "write", "read" -> pick(32);
            case "send", "receive" -> pick(3);
            default -> pick(8);
        };
    }

    private static int third(String name, boolean wild) {
        if (wild && pick(10) == 0) {
            return odd();
        }
        return name.equals("copy") || name.equals("receive") ? pick(8) : pick(1000) - 100;
    }

    private static int onClass(OolMessagePorts x, String name, int[] a) {
        return switch (name) {
            case "map" -> x.map(a[0], a[1]);
            case "unmap" -> x.unmap(a[0], a[1]);
            case "write" -> x.write(a[0], a[1], a[2]);
            case "copy" -> x.copy(a[0], a[1], a[2]);
            case "send" -> x.send(a[0], a[1], a[2], a[3]);
            case "receive" -> x.receive(a[0], a[1], a[2]);
            case "drain" -> x.drain(a[0]);
            case "snapshot" -> x.snapshot(a[0]);
            case "rollBack" -> x.rollBack(a[0]);
            case "exit" -> x.exit(a[0]);
            case "read" -> x.read(a[0], a[1]);
            case "mapped" -> x.mapped(a[0], a[1]) ? 1 : 0;
            case "lastWord" -> x.lastWord(a[0]);
            default -> x.waiting(a[0]);
        };
    }

    private static int onModel(Model model, String name, int[] a) {
        boolean known = a[0] >= 0 && a[0] <= 2;
        if (!known) {
            return name.equals("read") || name.equals("mapped") || name.equals("lastWord") ? 0 : -1;
        }
        return switch (name) {
            case "map" -> model.map(a[0], a[1]);
            case "unmap" -> model.unmap(a[0], a[1]);
            case "write" -> model.write(a[0], a[1], a[2]);
            case "copy" -> model.copy(a[0], a[1], a[2]);
            case "send" -> model.send(a[0], a[1], a[2], a[3]);
            case "receive" -> model.receive(a[0], a[1], a[2]);
            case "drain" -> model.drain(a[0]);
            case "snapshot" -> model.snapshot(a[0]);
            case "rollBack" -> model.rollBack(a[0]);
            case "exit" -> model.exit(a[0]);
            case "read" -> model.read(a[0], a[1]);
            case "mapped" -> model.memory.get(a[0]).containsKey(a[1]) ? 1 : 0;
            case "lastWord" -> model.last[a[0]];
            default -> model.ports.get(a[0]).size();
        };
    }

    private record Message(int word, List<List<Integer>> pages) {
    }

    // Every process number, and the port number of drain and waiting, is good when it gets here.
    private static final class Model {
        final List<Map<Integer, List<Integer>>> memory = new ArrayList<>();
        final List<Deque<Message>> ports = new ArrayList<>();
        final Map<Integer, Map<Integer, List<Integer>>> snapshots = new TreeMap<>();
        final int[] last = new int[3];

        Model() {
            for (int n = 0; n < 3; n++) {
                memory.add(new TreeMap<>());
                ports.add(new ArrayDeque<>());
            }
        }

        int map(int process, int page) {
            if (page < 0 || page > 7) {
                return -2;
            }
            if (memory.get(process).putIfAbsent(page, List.of(0, 0, 0, 0)) != null) {
                return -3;
            }
            return memory.get(process).size();
        }

        int unmap(int process, int page) {
            if (page < 0 || page > 7) {
                return -2;
            }
            return memory.get(process).remove(page) == null ? -4 : memory.get(process).size();
        }

        int write(int process, int address, int value) {
            if (address < 0 || address > 31) {
                return -2;
            }
            List<Integer> old = memory.get(process).get(address / 4);
            if (old == null) {
                return -4;
            }
            List<Integer> page = new ArrayList<>(old);
            page.set(address % 4, value);
            memory.get(process).put(address / 4, List.copyOf(page));
            return address / 4;
        }

        int copy(int process, int from, int to) {
            if (from < 0 || from > 7 || to < 0 || to > 7) {
                return -2;
            }
            List<Integer> page = memory.get(process).get(from);
            if (page == null) {
                return -4;
            }
            memory.get(process).put(to, page);
            return memory.get(process).size();
        }

        int send(int process, int port, int word, int pages) {
            if (port < 0 || port > 2) {
                return -1;
            }
            if (ports.get(port).size() == 3) {
                return -5;
            }
            int first = pages & 7;
            int count = (pages >> 3) & 3;
            if (first + count > 8) {
                return -2;
            }
            List<List<Integer>> sent = new ArrayList<>();
            for (int i = 0; i < count; i++) {
                if (!memory.get(process).containsKey(first + i)) {
                    return -4;
                }
                sent.add(memory.get(process).get(first + i));
            }
            ports.get(port).addLast(new Message(word, sent));
            return ports.get(port).size();
        }

        int receive(int process, int port, int at) {
            if (port < 0 || port > 2) {
                return -1;
            }
            Message message = ports.get(port).peekFirst();
            if (message == null) {
                return -6;
            }
            int count = message.pages().size();
            if (at < 0 || at > 7 || at + count > 8) {
                return -2;
            }
            for (int i = 0; i < count; i++) {
                if (memory.get(process).containsKey(at + i)) {
                    return -3;
                }
            }
            for (int i = 0; i < count; i++) {
                memory.get(process).put(at + i, message.pages().get(i));
            }
            last[process] = message.word();
            ports.get(port).removeFirst();
            return count;
        }

        int drain(int port) {
            int had = ports.get(port).size();
            ports.get(port).clear();
            return had;
        }

        int snapshot(int process) {
            snapshots.put(process, new TreeMap<>(memory.get(process)));
            return memory.get(process).size();
        }

        int rollBack(int process) {
            if (!snapshots.containsKey(process)) {
                return -7;
            }
            memory.set(process, new TreeMap<>(snapshots.get(process)));
            return memory.get(process).size();
        }

        int exit(int process) {
            int had = memory.get(process).size();
            memory.get(process).clear();
            snapshots.remove(process);
            last[process] = 0;
            return had;
        }

        int read(int process, int address) {
            if (address < 0 || address > 31) {
                return 0;
            }
            List<Integer> page = memory.get(process).get(address / 4);
            return page == null ? 0 : page.get(address % 4);
        }
    }
}
