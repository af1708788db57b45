import java.lang.reflect.InvocationTargetException;
import java.lang.reflect.Method;
import java.util.ArrayList;
import java.util.Arrays;
import java.util.List;

/**
 * Calls in their order, written as in "say(0, 31)". Each question makes them on a new object before it is asked, so
 * that no question disturbs another one and no object comes beyond its 512th call.
 */
final class Run {
    static final int MOST_CALLS = 512;
    /** What is done before all is looked at, to bring to light what no query tells by itself. */
    private static final String[][] PROBES = {
        {}, {"pass(99)"}, {"perform()"}, {"restore()"}, {"undo()"}, {"undo()", "undo()"},
        {"undo()", "undo()", "undo()"}, {"undo()", "undo()", "undo()", "undo()"},
    };

    private final List<String> calls;

    private Run(List<String> calls) {
        this.calls = calls;
    }

    static Run of(String... calls) {
        return new Run(List.of(calls));
    }

    Run and(String... more) {
        List<String> all = new ArrayList<>(calls);
        all.addAll(Arrays.asList(more));
        return new Run(all);
    }

    Run times(int times, String... more) {
        Run longer = this;
        for (int i = 0; i < times; i++) {
            longer = longer.and(more);
        }
        return longer;
    }

    Run type(String text) {
        Run longer = this;
        for (char sign : text.toCharArray()) {
            longer = longer.and("append(" + (int) sign + ")");
        }
        return longer;
    }

    /** The answer to this call behind the others, none of which may be refused. */
    String answer(String call) {
        return made().make(call);
    }

    /** What these calls, refused or not, would change; an empty text if all is the same with and without them. */
    String changeBy(String... these) {
        return differenceTo(this, these);
    }

    /** What is another thing behind the calls of the other run and these, or an empty text. */
    String differenceTo(Run other, String... these) {
        for (String[] probe : PROBES) {
            String here = made().seenBehind(probe);
            Made there = other.made();
            for (String call : these) {
                there.make(call);
            }
            String seenThere = there.seenBehind(probe);
            if (!seenThere.equals(here)) {
                return "behind " + Arrays.toString(probe) + " " + firstDifference(seenThere, here);
            }
        }
        return "";
    }

    private static String firstDifference(String one, String other) {
        String[] lines = one.split("\n");
        String[] others = other.split("\n");
        int line = 0;
        while (lines[line].equals(others[line])) {
            line++;
        }
        return lines[line] + " instead of " + others[line];
    }

    private Made made() {
        Made made = new Made();
        for (String call : calls) {
            if (isRefusal(made.make(call))) {
                throw new IllegalStateException(call + " was refused among " + calls);
            }
        }
        return made;
    }

    static boolean isRefusal(String answer) {
        List<String> codes = List.of("-1", "-2", "-3", "-4");
        return codes.contains(answer) || answer.startsWith("-1") && answer.length() == 4;
    }

    /** An object that counts its calls. */
    private static final class Made {
        private final MainsWords x = new MainsWords();
        private int calls = 0;

        String make(String call) {
            calls++;
            if (calls > MOST_CALLS) {
                throw new IllegalStateException("a call behind the 512th one: " + call);
            }
            int open = call.indexOf('(');
            String inside = call.substring(open + 1, call.length() - 1);
            String[] written = inside.isEmpty() ? new String[0] : inside.split(", ");
            for (Method method : MainsWords.class.getDeclaredMethods()) {
                if (method.getName().equals(call.substring(0, open)) && method.getParameterCount() == written.length) {
                    return invoke(method, written, call);
                }
            }
            throw new IllegalStateException("there is no call " + call);
        }

        private String invoke(Method method, String[] written, String call) {
            Object[] given = new Object[written.length];
            for (int i = 0; i < given.length; i++) {
                boolean isNumber = method.getParameterTypes()[i] == int.class;
                given[i] = isNumber ? (Object) Integer.valueOf(written[i]) : (Object) Boolean.valueOf(written[i]);
            }
            try {
                return String.valueOf(method.invoke(x, given));
            } catch (InvocationTargetException thrown) {
                return "threw " + thrown.getCause();
            } catch (IllegalAccessException closed) {
                throw new IllegalStateException(call + " is not public", closed);
            }
        }

        private String seenBehind(String[] probe) {
            StringBuilder seen = new StringBuilder();
            for (String call : probe) {
                seen.append(call).append(' ').append(make(call)).append('\n');
            }
            seeEach(seen, "senderOf", 5, 7);
            seeEach(seen, "machineOf", 4, 4);
            seeEach(seen, "lampOf", 8, 5);
            seeEach(seen, "receiver", 6, 5);
            for (int number = 0; number < 5; number++) {
                String word = "";
                for (int place = 0; place < 7 && !word.startsWith("-"); place++) {
                    word = make("queued(" + number + ", " + place + ")");
                    seen.append(word).append(' ');
                }
            }
            seeEach(seen, "count", 13);
            seeEach(seen, "total", 5);
            return seen.append(make("fault()")).append(' ').append(make("silentIn()")).append(' ')
                .append(make("freshness()")).toString();
        }

        private void seeEach(StringBuilder seen, String query, int numbers, int whats) {
            for (int number = 0; number < numbers; number++) {
                String answer = "";
                seen.append(query).append(' ').append(number).append(": ");
                for (int what = 0; what < whats && !answer.equals("-1"); what++) {
                    answer = make(query + "(" + number + ", " + what + ")");
                    seen.append(answer).append(' ');
                }
            }
            seen.append('\n');
        }

        private void seeEach(StringBuilder seen, String query, int whats) {
            seen.append(query).append(": ");
            for (int what = 0; what < whats; what++) {
                seen.append(make(query + "(" + what + ")")).append(' ');
            }
            seen.append('\n');
        }
    }
}
