/** The boundary cases of promises 14 to 16, of actions and history, and of the 512 calls of an object. */
public final class EdgeHistoryTest {
    private static final Edges edges = new Edges("EdgeHistoryTest");
    private static final Run NEW = Run.of();
    /** There are things of each kind, a text, and four states in the history. */
    private static final Run BUSY = NEW.and("sender(0, 9)", "sender(4, 7)", "machine(4, 5, 20)", "lamp(0, 0, 0)",
        "lamp(3, 0, 1)", "set(3, 3)").type("0:A0A1A+,1:C2D!,t70,t21,1:B^").and("perform()");
    /** The same, with a snapshot of it and one state in the history. */
    private static final Run SHORT = BUSY.and("save()").times(4, "undo()").and("restore()");
    private static final String[] ACTIONS = {
        "sender(5, 1)", "machine(5, 1, 2)", "lamp(5, 3, 3)", "remove(0, 0)", "remove(1, 0)", "remove(2, 1)",
        "say(0, 31)", "run(0, false)", "set(0, 0)", "set(1, 0)", "set(2, 1)", "set(3, 1)", "pass(1)", "pass(99)",
        "perform()", "restore()"
    };

    public static void main(String[] args) {
        fourStates();
        fifthState();
        undoneStates();
        undoOfNothing();
        eachActionIsRecorded();
        actionsThatChangeNothing();
        errorsAreNotRecorded();
        othersAreNoActions();
        whatIsNotPartOfTheState();
        allOfTheState();
        numbersGivenAgain();
        noSnapshot();
        snapshotReplaced();
        snapshotRemains();
        timeOfTheSnapshot();
        last512Calls();
        edges.end();
    }

    private static void fourStates() {
        edges.sentence("The history holds at most 4 states");
        for (int actions = 0; actions <= 6; actions++) {
            edges.is(NEW.times(actions, "pass(1)"), "count(11)", Math.min(actions, 4));
        }
        edges.is(NEW.times(4, "pass(1)").and("undo()", "undo()", "undo()"), "undo()", 0);
        edges.is(NEW.times(4, "pass(1)").times(4, "undo()"), "count(0)", 0);
    }

    private static void fifthState() {
        edges.sentence("when a fifth state is recorded, the oldest one is dropped");
        Run five = NEW.times(5, "pass(1)");
        for (int undone = 0; undone <= 4; undone++) {
            edges.is(five.times(undone, "undo()"), "count(0)", 5 - undone);
            edges.is(five.times(undone, "undo()"), "undo()", undone < 4 ? 3 - undone : Edges.NONE);
        }
        edges.is(five.times(5, "undo()"), "count(0)", 1);
        Run again = five.and("undo()", "undo()").times(3, "pass(10)");
        edges.is(again, "count(11)", 4);
        edges.is(again.times(4, "undo()"), "count(0)", 2);
        edges.is(again.times(4, "undo()"), "undo()", Edges.NONE);
        edges.is(NEW.times(100, "pass(1)").times(4, "undo()"), "count(0)", 96);
        edges.is(NEW.times(100, "pass(1)").times(4, "undo()"), "undo()", Edges.NONE);
    }

    private static void undoneStates() {
        edges.sentence("Returns the number of states that are left in the history");
        for (int actions = 1; actions <= 5; actions++) {
            edges.is(NEW.times(actions, "pass(1)"), "undo()", Math.min(actions, 4) - 1);
            edges.is(NEW.times(actions, "pass(1)").and("undo()"), "count(11)", Math.min(actions, 4) - 1);
        }
    }

    private static void undoOfNothing() {
        edges.sentence("NONE if the history is empty.");
        edges.is(NEW, "undo()", Edges.NONE);
        edges.unchanged(NEW, "undo()");
        edges.is(NEW.and("pass(5)", "undo()"), "undo()", Edges.NONE);
        Run empty = BUSY.times(4, "pass(9)").times(4, "undo()");
        edges.is(empty, "undo()", Edges.NONE);
        edges.unchanged(empty, "undo()");
        edges.unchanged(empty, "undo()", "undo()");
    }

    private static void eachActionIsRecorded() {
        edges.sentence("Each action that returns no error code records the state before it in the history");
        for (String action : ACTIONS) {
            edges.is(SHORT.and(action), "count(11)", 2);
            edges.unchanged(SHORT, action, "undo()");
            edges.unchanged(SHORT, action, "pass(1)", "undo()", "undo()");
            edges.is(BUSY.and("save()", action), "count(11)", 4);
            edges.is(BUSY.and("save()", action), "undo()", 3);
        }
    }

    private static void actionsThatChangeNothing() {
        edges.sentence("even if the action changes nothing");
        Run same = NEW.and("machine(0, 9, 5)", "save()");
        for (String action : new String[] {
            "run(0, true)", "set(0, 6)", "set(1, 5)", "set(2, 4)", "set(3, 2)", "restore()"
        }) {
            edges.is(same.and(action), "count(11)", 2);
            edges.unchanged(same, action, "undo()");
            edges.is(same.and(action, action), "count(11)", 3);
        }
        Run script = same.type("0:A0");
        edges.is(script, "perform()", 0);
        edges.is(script.and("perform()"), "count(11)", 2);
        edges.unchanged(script, "perform()", "undo()");
    }

    private static void errorsAreNotRecorded() {
        edges.sentence("A method that returns an error code changes nothing.");
        Run full = NEW.times(5, "sender(0, 9)").times(4, "machine(0, 4, 7)").times(8, "lamp(0, 0, 0)")
            .times(6, "say(0, 9)").type("0:A0,");
        edges.is(full, "count(11)", 4);
        edges.refused(full, "sender(0, 9)", Edges.TOO_MANY);
        edges.refused(full, "machine(0, 4, 7)", Edges.TOO_MANY);
        edges.refused(full, "lamp(0, 0, 0)", Edges.TOO_MANY);
        edges.refused(full, "remove(0, 5)", Edges.NO_SUCH);
        edges.refused(full, "say(0, 9)", Edges.TOO_MANY);
        edges.refused(full, "run(4, true)", Edges.NO_SUCH);
        edges.refused(full, "set(3, 0)", Edges.BAD_VALUE);
        edges.refused(full, "pass(0)", Edges.BAD_VALUE);
        edges.refused(full, "pass(100)", Edges.BAD_VALUE);
        edges.refused(full, "perform()", -105);
        edges.refused(full, "restore()", Edges.NOT_POSSIBLE);
    }

    private static void othersAreNoActions() {
        edges.sentence("The actions are sender, machine, lamp, remove, say, run (a machine), set, pass, perform and "
            + "restore.");
        Run two = NEW.and("pass(3)", "pass(4)");
        for (String other : new String[] {
            "append(116)", "clearText()", "fault()", "save()", "count(0)", "total(0)", "receiver(0, 0)",
            "frame(0, 0)", "loss(0, 0)", "silentIn()", "freshness()"
        }) {
            edges.is(two.and(other), "count(11)", 2);
            edges.is(two.and(other, "undo()"), "count(0)", 3);
        }
        edges.is(two.and("undo()"), "count(11)", 1);
        for (String query : new String[] {
            "senderOf(0, 3)", "queued(0, 0)", "machineOf(0, 3)", "lampOf(0, 3)", "receiver(0, 1)", "frame(31, 13)",
            "loss(0, 5)", "count(0)", "total(0)", "fault()", "silentIn()", "levelIn(0, 400)", "levelIn(1, 0)",
            "freshness()"
        }) {
            edges.unchanged(BUSY, query);
            edges.unchanged(SHORT.and("pass(59)"), query);
        }
    }

    private static void whatIsNotPartOfTheState() {
        edges.sentence("The text, the snapshot and the history itself are not part of the state.");
        Run typed = NEW.and("pass(3)", "save()", "pass(4)").type("t7");
        edges.is(typed.and("undo()"), "count(12)", 2);
        edges.is(typed.and("undo()"), "fault()", Edges.NONE);
        edges.is(typed.and("undo()", "undo()"), "restore()", 3);
        edges.is(typed.and("restore()"), "count(12)", 2);
        edges.is(typed.and("restore()"), "count(11)", 3);
        edges.is(typed.and("restore()", "undo()"), "count(0)", 7);
        edges.is(typed.and("clearText()", "restore()"), "count(12)", 0);
        edges.is(typed.and("undo()", "undo()", "restore()"), "count(11)", 1);
        edges.is(BUSY.and("save()", "pass(1)", "restore()", "pass(2)"), "restore()", 91);
        edges.is(NEW.and("save()", "pass(3)", "undo()", "pass(5)"), "restore()", 0);
        edges.is(NEW.and("pass(3)", "save()", "undo()"), "restore()", 3);
    }

    private static void allOfTheState() {
        edges.sentence("The state consists of the wires with their receivers, the senders, machines and lamps, the "
            + "settings, the time, and the numbers that total returns.");
        String[] others = {"set(0, 1)", "remove(0, 0)", "sender(3, 4)", "pass(50)"};
        for (int beats = 1; beats <= 60; beats++) {
            Run then = SHORT.and(Edges.with("pass(#)", beats));
            edges.unchanged(then, others[beats % 4], "undo()");
            Run saved = then.and("save()");
            // Behind four more actions the history holds nothing of what was before the snapshot came back.
            edges.same(saved.times(4, "pass(1)"), saved.and(others).and("restore()").times(4, "pass(1)"));
        }
    }

    private static void numbersGivenAgain() {
        edges.sentence("Restores the latest state of the history, with things whose numbers were given again");
        edges.unchanged(SHORT, "remove(0, 1)", "sender(3, 4)", "undo()", "undo()");
        edges.unchanged(SHORT, "remove(1, 0)", "machine(3, 3, 9)", "undo()", "undo()");
        edges.unchanged(SHORT, "remove(2, 1)", "lamp(5, 3, 2)", "undo()", "undo()");
        Run saved = SHORT.and("pass(1)", "save()");
        Run others = saved.and("remove(0, 1)", "sender(3, 4)", "remove(1, 0)", "machine(3, 3, 9)", "remove(2, 1)",
            "lamp(5, 3, 2)", "restore()");
        edges.same(saved.times(4, "pass(1)"), others.times(4, "pass(1)"));
    }

    private static void noSnapshot() {
        edges.sentence("NOT_POSSIBLE if there is no snapshot.");
        edges.refused(NEW, "restore()", Edges.NOT_POSSIBLE);
        edges.refused(NEW.and("sender(0, 9)", "pass(5)"), "restore()", Edges.NOT_POSSIBLE);
        edges.refused(NEW.and("pass(5)", "undo()"), "restore()", Edges.NOT_POSSIBLE);
        edges.is(NEW.and("save()"), "restore()", 0);
    }

    private static void snapshotReplaced() {
        edges.sentence("Takes a snapshot of the state, which replaces the previous snapshot. This is not an action.");
        Run twice = NEW.and("pass(3)", "save()", "pass(4)", "save()", "pass(5)");
        edges.is(twice, "restore()", 7);
        edges.is(twice.and("undo()", "undo()"), "restore()", 7);
        edges.is(twice, "count(11)", 3);
        edges.is(NEW, "save()", 0);
        edges.is(NEW.and("pass(99)"), "save()", 99);
        edges.is(NEW.and("pass(99)", "save()"), "save()", 99);
    }

    private static void snapshotRemains() {
        edges.sentence("Restores the state of the snapshot. The snapshot remains.");
        Run saved = NEW.and("sender(0, 9)", "say(0, 3)", "pass(5)", "save()", "pass(6)");
        edges.is(saved.and("restore()"), "restore()", 5);
        edges.is(saved.and("restore()", "pass(7)"), "restore()", 5);
        edges.is(saved.and("restore()", "pass(7)", "restore()"), "senderOf(0, 3)", 5);
        edges.is(saved.and("restore()", "remove(0, 0)", "restore()"), "senderOf(0, 3)", 5);
        edges.is(saved.and("restore()", "undo()"), "senderOf(0, 3)", 11);
    }

    private static void timeOfTheSnapshot() {
        edges.sentence("restore: Returns the time");
        edges.is(NEW.and("save()", "pass(9)"), "restore()", 0);
        edges.is(NEW.and("save()", "pass(9)", "restore()"), "count(0)", 0);
        edges.is(NEW.and("pass(9)", "save()", "undo()"), "restore()", 9);
        edges.is(NEW.and("pass(9)", "save()", "undo()", "restore()"), "count(0)", 9);
    }

    private static void last512Calls() {
        edges.sentence("An object is used for at most 512 calls after it has been made");
        edges.is(NEW.times(511, "pass(99)"), "count(0)", 511 * 99);
        edges.is(NEW.times(511, "pass(99)"), "undo()", 3);
        String longest = "t99,".repeat(19) + "t99";
        edges.is(NEW.type(longest).times(432, "perform()"), "count(0)", 432 * 20 * 99);
        Run full = NEW.times(5, "sender(0, 9)").times(4, "machine(0, 9, 2)").times(8, "lamp(0, 0, 0)").and("say(0, 0)");
        edges.is(full.times(493, "silentIn()"), "silentIn()", Edges.NONE);
        edges.is(full.times(493, "levelIn(7, 400)"), "levelIn(7, 400)", 0);
        edges.is(NEW.and("save()").times(510, "restore()"), "restore()", 0);
    }
}
