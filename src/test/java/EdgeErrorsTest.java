/** The order in which the error codes are checked, where more than one applies. */
public final class EdgeErrorsTest {
    private static final Edges edges = new Edges("EdgeErrorsTest");
    private static final Run NEW = Run.of();

    public static void main(String[] args) {
        edges.sentence("The error codes of a method are listed in the order in which they are checked, and the first "
            + "one that applies is returned.");
        ofNewThings();
        ofOtherActions();
        ofTheText();
        ofQueries();
        edges.end();
    }

    private static void ofNewThings() {
        Run full = NEW.times(5, "sender(0, 5)").times(4, "machine(0, 5, 5)").times(8, "lamp(0, 0, 0)");
        edges.refused(NEW, "sender(6, 0)", Edges.NO_SUCH);
        edges.refused(full, "sender(-1, 10)", Edges.NO_SUCH);
        edges.refused(full, "sender(6, 5)", Edges.NO_SUCH);
        edges.refused(full, "sender(0, 10)", Edges.BAD_VALUE);
        edges.refused(full, "sender(5, 9)", Edges.TOO_MANY);
        edges.refused(NEW, "machine(6, 0, 5)", Edges.NO_SUCH);
        edges.refused(NEW, "machine(6, 5, 1)", Edges.NO_SUCH);
        edges.refused(full, "machine(-1, 10, 21)", Edges.NO_SUCH);
        edges.refused(full, "machine(6, 5, 5)", Edges.NO_SUCH);
        edges.refused(full, "machine(0, 0, 5)", Edges.BAD_VALUE);
        edges.refused(full, "machine(0, 5, 21)", Edges.BAD_VALUE);
        edges.refused(full, "machine(5, 9, 20)", Edges.TOO_MANY);
        edges.refused(NEW, "lamp(6, 4, 0)", Edges.NO_SUCH);
        edges.refused(NEW, "lamp(6, 0, 4)", Edges.NO_SUCH);
        edges.refused(full, "lamp(-1, -1, -1)", Edges.NO_SUCH);
        edges.refused(full, "lamp(6, 0, 0)", Edges.NO_SUCH);
        edges.refused(full, "lamp(0, 4, 0)", Edges.BAD_VALUE);
        edges.refused(full, "lamp(0, 0, 4)", Edges.BAD_VALUE);
        edges.refused(full, "lamp(5, 3, 3)", Edges.TOO_MANY);
    }

    private static void ofOtherActions() {
        Run fullQueue = Run.of("sender(0, 5)").times(6, "say(0, 9)");
        edges.refused(NEW, "remove(3, 0)", Edges.BAD_VALUE);
        edges.refused(NEW, "remove(-1, 9)", Edges.BAD_VALUE);
        edges.refused(NEW, "say(0, 32)", Edges.NO_SUCH);
        edges.refused(fullQueue, "say(1, 32)", Edges.NO_SUCH);
        edges.refused(fullQueue, "say(1, 9)", Edges.NO_SUCH);
        edges.refused(fullQueue, "say(0, 32)", Edges.BAD_VALUE);
        edges.refused(fullQueue, "say(0, -1)", Edges.BAD_VALUE);
        edges.refused(fullQueue, "say(0, 31)", Edges.TOO_MANY);
        edges.refused(NEW, "set(4, 10)", Edges.NO_SUCH);
        edges.refused(NEW, "set(-1, -1)", Edges.NO_SUCH);
    }

    private static void ofTheText() {
        Run full = NEW.times(80, "append(65)");
        edges.refused(full, "append(31)", Edges.BAD_VALUE);
        edges.refused(full, "append(127)", Edges.BAD_VALUE);
        edges.refused(full, "append(126)", Edges.TOO_MANY);
    }

    private static void ofQueries() {
        edges.refused(NEW, "senderOf(0, 7)", Edges.NO_SUCH);
        edges.refused(NEW, "senderOf(5, -1)", Edges.NO_SUCH);
        edges.refused(NEW, "queued(0, -1)", Edges.NO_SUCH);
        edges.refused(NEW, "machineOf(0, 4)", Edges.NO_SUCH);
        edges.refused(NEW, "machineOf(4, -1)", Edges.NO_SUCH);
        edges.refused(NEW, "lampOf(0, 5)", Edges.NO_SUCH);
        edges.refused(NEW, "lampOf(8, -1)", Edges.NO_SUCH);
        edges.refused(NEW, "receiver(6, 5)", Edges.NO_SUCH);
        edges.refused(NEW, "receiver(-1, -1)", Edges.NO_SUCH);
        edges.refused(NEW, "frame(32, 14)", Edges.BAD_VALUE);
        edges.refused(NEW, "loss(6, 6)", Edges.NO_SUCH);
        edges.refused(NEW, "levelIn(0, 401)", Edges.NO_SUCH);
        edges.refused(NEW, "levelIn(8, -1)", Edges.NO_SUCH);
    }
}
