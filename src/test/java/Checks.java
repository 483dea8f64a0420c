import java.util.function.Consumer;
import java.util.function.ToLongFunction;

/** What the tests share: tells each call whose answer is not the one that is due, and ends with 1 if there was one. */
final class Checks {
    private int wrong;
    private int asked;
    private int askedAhead;
    private String sentence = "";

    void due(String call, long got, long want) {
        due(call, String.valueOf(got), String.valueOf(want));
    }

    void due(String call, String got, String want) {
        asked++;
        if (!got.equals(want)) {
            wrong++;
            System.out.println(sentence + call + " answered " + got + ", due is " + want);
        }
    }

    /**
     * What is asked from here on tests this sentence of the document, in its words: of that promise, or, by 0, of what
     * stands ahead of the promises. SentencesTest sees to it that no sentence of the document is left out.
     */
    void sentence(int promise, String words) {
        closeSentence();
        sentence = promise + " \"" + words + "\": ";
        askedAhead = asked;
    }

    private void closeSentence() {
        if (!sentence.isEmpty() && asked == askedAhead) {
            wrong++;
            System.out.println(sentence + "nothing was asked");
        }
    }

    /** The call is refused so, and nothing changes: all is answered later as by an object that it was not asked of. */
    void refused(String call, Consumer<PerilSeat> ahead, ToLongFunction<PerilSeat> asking, long want) {
        PerilSeat x = new PerilSeat();
        ahead.accept(x);
        due(call, asking.applyAsLong(x), want);
        PerilSeat other = new PerilSeat();
        ahead.accept(other);
        due(call + ", what is answered later,", Calls.everything(x), Calls.everything(other));
    }

    void end() {
        closeSentence();
        System.out.println(asked + " answers looked at, " + wrong + " not as due");
        if (wrong != 0) {
            System.exit(1);
        }
    }

    /** Writes the whole text behind what THE TEXT has already. */
    static void write(PerilSeat x, String text) {
        for (int i = 0; i < text.length(); i++) {
            x.write(text.charAt(i));
        }
    }

    /** The fault of this text; THE TEXT is empty afterwards. */
    static int fault(PerilSeat x, String text) {
        x.erase();
        write(x, text);
        int fault = x.fault();
        x.erase();
        return fault;
    }

    /** What table() answers to this text. */
    static int table(PerilSeat x, String text) {
        x.erase();
        write(x, text);
        return x.table();
    }

    /** A new object to which these texts were told, each without a fault. */
    static PerilSeat told(String... texts) {
        PerilSeat x = new PerilSeat();
        for (String text : texts) {
            if (table(x, text) < 1) {
                throw new IllegalStateException("a test's own text has a fault: " + text);
            }
        }
        return x;
    }

    /** All that can be asked without any change, so that 'nothing changes' can be tested. */
    static String state(PerilSeat x) {
        StringBuilder all = new StringBuilder();
        for (int what = 0; what <= 9; what++) {
            all.append(x.count(what)).append(' ');
        }
        all.append(x.fault());
        for (int seat = 0; seat < x.count(0); seat++) {
            all.append(" |");
            for (int what = 0; what <= 3; what++) {
                all.append(' ').append(x.seat(seat, what));
            }
        }
        for (int knight = 0; knight < x.count(1); knight++) {
            all.append(" #");
            for (int what = 0; what <= 6; what++) {
                all.append(' ').append(x.knight(knight, what));
            }
            all.append(' ').append(x.seatOf(knight));
            all.append(' ').append(x.safest(knight, 1));
        }
        all.append(" @ ").append(x.seatings()).append(' ').append(x.moved());
        for (int news = 0; news <= 3; news++) {
            all.append(' ').append(x.knows(news));
        }
        for (int what = 0; what <= 2; what++) {
            all.append(' ').append(x.worlds(what));
        }
        return all.append(' ').append(x.judge(0)).append(' ').append(x.judge(1)).toString();
    }
}
