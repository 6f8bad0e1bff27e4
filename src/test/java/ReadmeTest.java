// What README.md tells its reader holds: change the two together.
public final class ReadmeTest {
    private static int wrong = 0;

    public static void main(String[] args) {
        theExample();
        looksDoNotRefuse();
        aNegativeWordIsNoRefusal();
        System.out.println(wrong == 0 ? "README.md holds" : wrong + " answers are not as due");
        if (wrong != 0) {
            System.exit(1);
        }
    }

    private static void due(String what, int got, int want) {
        if (got != want) {
            wrong++;
            System.out.println(what + " answered " + got + ", due is " + want);
        }
    }

    private static void theExample() {
        OolMessagePorts ports = new OolMessagePorts();
        due("map(0, 2)", ports.map(0, 2), 1);
        due("write(0, 9, 42)", ports.write(0, 9, 42), 2);
        due("send(0, 1, 77, 10)", ports.send(0, 1, 77, 10), 1);
        due("write(0, 9, 43)", ports.write(0, 9, 43), 2);
        due("receive(1, 1, 5)", ports.receive(1, 1, 5), 1);
        due("read(1, 21)", ports.read(1, 21), 42);
        due("lastWord(1)", ports.lastWord(1), 77);
        due("snapshot(1)", ports.snapshot(1), 1);
        due("copy(1, 5, 6)", ports.copy(1, 5, 6), 2);
        due("write(1, 21, 44)", ports.write(1, 21, 44), 5);
        due("rollBack(1)", ports.rollBack(1), 1);
        due("read(1, 21)", ports.read(1, 21), 42);
        due("receive(1, 1, 0)", ports.receive(1, 1, 0), -6);
    }

    private static void looksDoNotRefuse() {
        OolMessagePorts ports = new OolMessagePorts();
        due("read(3, 0)", ports.read(3, 0), 0);
        due("read(0, 32)", ports.read(0, 32), 0);
        due("read(0, 0) of an unmapped page", ports.read(0, 0), 0);
        due("mapped(3, 0)", ports.mapped(3, 0) ? 1 : 0, 0);
        due("mapped(0, 8)", ports.mapped(0, 8) ? 1 : 0, 0);
        due("lastWord(3)", ports.lastWord(3), 0);
        due("waiting(3)", ports.waiting(3), -1);
    }

    private static void aNegativeWordIsNoRefusal() {
        OolMessagePorts ports = new OolMessagePorts();
        due("map(0, 0)", ports.map(0, 0), 1);
        due("write(0, 0, -1)", ports.write(0, 0, -1), 0);
        due("read(0, 0)", ports.read(0, 0), -1);
        due("send(0, 0, -4, 0)", ports.send(0, 0, -4, 0), 1);
        due("receive(0, 0, 0)", ports.receive(0, 0, 0), 0);
        due("lastWord(0)", ports.lastWord(0), -4);
    }
}
