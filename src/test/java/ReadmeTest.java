/** The examples of README.md answer what README.md says. */
public final class ReadmeTest {
    private static final Due due = new Due("ReadmeTest");

    public static void main(String[] args) {
        MainsWords mains = new MainsWords();
        words(mains);
        whatWouldBeAndWhatWas(mains);
        script();
        due.end();
    }

    private static void words(MainsWords mains) {
        due.is("sender(0, 9)", mains.sender(0, 9), 0);
        due.is("lamp(3, 0, 1)", mains.lamp(3, 0, 1), 0);
        due.is("say A1", mains.say(0, 1), 1);
        due.is("say A+", mains.say(0, 4), 2);
        due.is("silentIn()", mains.silentIn(), 68);
        due.is("pass(68)", mains.pass(68), 4);
        due.is("the lamp's level", mains.lampOf(0, 3), 9);
    }

    private static void whatWouldBeAndWhatWas(MainsWords mains) {
        due.is("save()", mains.save(), 68);
        due.is("set(COPIES, 3)", mains.set(MainsWords.COPIES, 3), 2);
        due.is("machine(0, 9, 2)", mains.machine(0, 9, 2), 0);
        due.is("say A2", mains.say(0, 2), 1);
        due.is("silentIn() behind the noise", mains.silentIn(), MainsWords.NONE);
        due.is("levelIn(0, 400)", mains.levelIn(0, 400), 9);
        due.is("undo()", mains.undo(), 3);
        due.is("the word is gone", mains.count(5), 0);
        due.is("restore()", mains.restore(), 68);
        due.is("without the machine", mains.count(2), 0);
        due.is("with two copies again", mains.count(10), 2);
    }

    private static void script() {
        MainsWords mains = new MainsWords();
        mains.sender(0, 9);
        mains.lamp(3, 0, 1);
        Calls.type(mains, "0:A1A+,t68");
        due.is("fault()", mains.fault(), MainsWords.NONE);
        due.is("perform()", mains.perform(), 3);
        due.is("the lamp's level by the script", mains.lampOf(0, 3), 9);
    }
}
