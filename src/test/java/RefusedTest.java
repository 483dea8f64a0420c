import java.util.ArrayList;
import java.util.Arrays;
import java.util.List;

/**
 * Each call with each edge of its arguments, in states that are edges themselves: it answers as the oracle does, and leaves
 * all as the oracle has it; what is refused leaves all as it was.
 */
public final class RefusedTest {
    private static final Checks C = new Checks();
    private static final int MIN = Integer.MIN_VALUE, MAX = Integer.MAX_VALUE;

    /** By states: what is called ahead; a row of letters behind 'text' is told, one behind 'write' is written alone. */
    private static final String[][] STATES = {
        {},
        {"rise", "keep 1", "write table"},
        {"text knight 1 1;king 1 1;squire 9 9", "tell 1 3"},
        {"text table 3", "write peace"},
        {"text table 8;mourning 7", "keep 0", "keep 1", "rise"},
        {"text table 3;knight 1 1;knight 1 1;enemies 0 1", "sit 0 2", "sit 1 0", "write peace;"},
        {"text table 4;gold 1 5;meek 2 4;kin 3 7;knight 5 7;squire 4 1;king 0 0;peril 1 3;meant 0;enemies 1 2", "tell 0 0",
            "sit 0 1", "sit 1 2", "sit 2 0", "keep 0", "feast", "sit 1 1", "seen 0 1 0 0", "seen 0 1 1 1"},
        {"text table 5;mourning 4;peril 3 4;king 9 9;knight 9 0;squire 0 9;knight 4 4", "sit 0 4", "sit 1 3", "feast",
            "keep 1", "tell 2 2", "sit 2 2", "sit 3 1", "feast", "sit 2 0", "seen 1 3 0 1"},
        {"text table 8;knight 1 1;squire 2 2;king 3 3;knight 4 4;knight 5 5;knight 6 6;peril 7 7;meant 5", "sit 5 7", "sit 0 0",
            "sit 1 1", "sit 2 2", "sit 3 3", "sit 4 4", "keep 0", "rise", "rise", "rise"},
        {"text table 6;squire 0 0;squire 9 9;enemies 0 1;peril 5 1", "sit 0 5", "sit 1 0", "feast", "sit 0 2", "sit 1 3",
            "feast", "tell 0 1", "sit 0 0", "sit 1 1", "feast", "seen 0 0 3 0", "seen 0 1 0 1", "seen 0 1 0 1",
            "seen 1 1 1 0", "seen 1 1 2 0", "seen 0 0 0 0", "seen 0 2 0 0", "seen 0 3 0 0", "keep 1"},
        {"text table 3;mourning 0;mourning 1;mourning 2;king 1 1;king 2 2", "sit 0 0", "sit 1 1", "feast", "keep 0", "rise"},
    };
    /** A call, and for each of its arguments the kind of edges that it has. */
    private static final String[] CALLS = {"write letter", "erase", "fault", "table", "seat seat what", "knight knight what",
        "as knight what", "seatAs seat what", "sit knight seat", "rise", "tell knight what", "feast", "undo", "keep two",
        "back two", "seatings", "seatOf knight", "moved", "knows what", "judge what", "seen knight seat day two", "forget",
        "worlds what", "safest knight two", "quests knight seat many tenths two", "lent seat", "count what"};

    public static void main(String[] args) {
        C.sentence(0, "Refused, and nothing changes: UNKNOWN (no such SEAT, KNIGHT; one and himself, where two are asked), OUTSIDE "
            + "(another number is not as told), NOT (not now: as told), FULL: the first of these that fits.");
        for (String[] state : STATES) {
            inState(state);
        }
        fullText();
        C.end();
    }

    private static void inState(String[] state) {
        List<String> refused = new ArrayList<>();
        Oracle of = in(new Oracle(), state);
        for (String call : CALLS) {
            for (String asked : withEdges(of, call)) {
                Oracle o = in(new Oracle(), state);
                long due = call(o, asked);
                if (due <= PerilSeat.UNKNOWN) {
                    refused.add(asked);
                } else {
                    PerilSeat x = in(new PerilSeat(), state);
                    C.due(asked + " behind " + Arrays.toString(state), call(x, asked), due);
                    C.due("later, " + asked + " behind " + Arrays.toString(state), Calls.everything(x), Calls.everything(o));
                }
            }
        }
        // What is refused changes nothing, so many such calls can be asked of one object.
        for (int from = 0; from < refused.size(); from += 20) {
            refusedTogether(state, refused.subList(from, Math.min(refused.size(), from + 20)));
        }
    }

    private static void refusedTogether(String[] state, List<String> refused) {
        PerilSeat x = in(new PerilSeat(), state);
        Oracle o = in(new Oracle(), state);
        for (String asked : refused) {
            C.due(asked + " behind " + Arrays.toString(state), call(x, asked), call(o, asked));
        }
        C.due("later, " + refused + " behind " + Arrays.toString(state), Calls.everything(x),
            Calls.everything(in(new PerilSeat(), state)));
    }

    private static void fullText() {
        String[] state = {"write " + " ".repeat(160)};
        for (int letter : new int[] {MIN, -1, 0, 32, 255, 256, MAX}) {
            refusedTogether(state, List.of("write " + letter));
        }
    }

    private static <T> T in(T x, String[] state) {
        for (String call : state) {
            String rest = call.substring(call.indexOf(' ') + 1);
            if (call.startsWith("text ") || call.startsWith("write ")) {
                for (char letter : rest.toCharArray()) {
                    Calls.answer(x, "write", letter);
                }
            }
            if (call.startsWith("text ")) {
                Calls.answer(x, "table");
            } else if (!call.startsWith("write ")) {
                call(x, call);
            }
        }
        return x;
    }

    private static long call(Object x, String call) {
        String[] words = call.split(" ");
        int[] arguments = new int[words.length - 1];
        for (int i = 0; i < arguments.length; i++) {
            arguments[i] = Integer.parseInt(words[i + 1]);
        }
        return Calls.answer(x, words[0], arguments);
    }

    /** The call with all its edges, each with each. */
    private static List<String> withEdges(Oracle of, String call) {
        String[] words = call.split(" ");
        List<String> all = List.of(words[0]);
        for (int i = 1; i < words.length; i++) {
            List<String> longer = new ArrayList<>();
            for (String shorter : all) {
                for (int edge : edges(of, words[i], words.length > 4)) {
                    longer.add(shorter + " " + edge);
                }
            }
            all = longer;
        }
        return all;
    }

    private static int[] edges(Oracle of, String kind, boolean few) {
        int seats = of.count(0);
        int knights = of.count(1);
        switch (kind) {
            case "seat": return few ? new int[] {-1, 0, seats - 1, seats} : new int[] {MIN, -1, 0, 1, seats - 1, seats, 8, MAX};
            case "knight":
                return few ? new int[] {-1, 0, knights - 1, knights} : new int[] {MIN, -1, 0, 1, knights - 1, knights, 6, MAX};
            case "day": return new int[] {-1, 0, of.count(2), of.count(2) + 1};
            case "letter": return new int[] {MIN, -1, 0, ' ', ';', '3', 'e', 255, 256, MAX};
            case "two": return few ? new int[] {-1, 0, 1, 2} : new int[] {MIN, -1, 0, 1, 2, MAX};
            case "many": return new int[] {-1, 0, 8, 9};
            case "tenths": return new int[] {-1, 0, 3, 10, 11};
            default: return new int[] {MIN, -1, 0, 1, 2, 3, 4, 5, 6, 7, 8, 9, 10, MAX};
        }
    }
}
