import java.util.ArrayList;
import java.util.List;

/** What the tests of single sentences share: each check is told with the sentence of the document that it stands for. */
abstract class Sentences {
    static final int NO_SUCH = -1, BAD_VALUE = -2, BAD_TEXT = -3, TOO_MANY = -4, NOT_POSSIBLE = -5, NONE = -6;
    static final int TAKES = 0, BONUS = 1;
    static final int PASS = 1 << 20;

    interface Call {
        long on(PoisonPiles x);
    }

    interface Making {
        PoisonPiles made();
    }

    private final Checks checks;
    private final Document document;
    private String sentence = "";
    private int answersAhead;

    Sentences(Checks checks, Document document) {
        this.checks = checks;
        this.document = document;
    }

    abstract void run();

    /** The checks that follow, up to the next sentence, stand for these words of the document. */
    void sentence(String section, String words) {
        closeSentence();
        checks.that("the document says in " + section + ": " + words, document.quote(section, words));
        sentence = section + ", \"" + words + "\": ";
        answersAhead = checks.answers();
    }

    void closeSentence() {
        if (!sentence.isEmpty()) checks.that(sentence + "has a check", checks.answers() > answersAhead);
    }

    void due(String call, long got, long want) {
        checks.due(sentence + call, got, want);
    }

    void same(String what, List<Long> got, List<Long> want) {
        int differs = -1;
        for (int i = 0; i < want.size() && differs < 0; i++) {
            if (i >= got.size() || !got.get(i).equals(want.get(i))) differs = i;
        }
        due(what + ": the first answer that differs", got.size() == want.size() ? differs : -2, -1);
    }

    /** Piles are given as texts: "31" three tokens of worth 1, "31!" the same, poisoned. */
    static PoisonPiles piles(String... piles) {
        PoisonPiles x = new PoisonPiles();
        for (String pile : piles) {
            x.pile(pile.charAt(0) - '0', pile.charAt(1) - '0', pile.endsWith("!") ? 1 : 0);
        }
        return x;
    }

    static PoisonPiles piles(int takes, String... piles) {
        PoisonPiles x = piles(piles);
        x.set(TAKES, takes);
        return x;
    }

    static long number(String text) {
        long number = 0;
        for (char c : text.toCharArray()) {
            number = number << 8 | c;
        }
        return number;
    }

    static PoisonPiles put(PoisonPiles x, String text) {
        for (int i = 0; i < text.length(); i += 8) {
            x.put(number(text.substring(i, Math.min(text.length(), i + 8))));
        }
        return x;
    }

    static PoisonPiles pad(String text) {
        return put(new PoisonPiles(), text);
    }

    static int carryOut(PoisonPiles x, String text) {
        x.wipe();
        return put(x, text).carryOut();
    }

    /** The player 0 took the last poisoned token; the player 1 is to move, with tokens that could be taken. */
    static PoisonPiles poisonEnded() {
        PoisonPiles x = piles("12!", "51");
        x.take(0, 1);
        return x;
    }

    /** The player 1 is to move, and can't. */
    static PoisonPiles stuck() {
        PoisonPiles x = piles("31");
        x.take(0, 1);
        x.set(TAKES, 16);
        return x;
    }

    /** All but the pad: what undo() and restore() bring back. */
    static List<Long> look(PoisonPiles x) {
        List<Long> answers = new ArrayList<>();
        for (int what = 0; what <= 8; what++) answers.add((long) x.count(what));
        for (int pile = 0; pile < 4; pile++) {
            for (int what = 0; what <= 3; what++) answers.add((long) x.ofPile(pile, what));
        }
        for (int player = 0; player < 2; player++) {
            for (int what = 0; what <= 1; what++) answers.add((long) x.ofPlayer(player, what));
        }
        answers.add((long) x.moves());
        return answers;
    }

    /** Everything that calls can tell of an object, also its history and slots; it is used up by that. */
    static List<Long> trace(PoisonPiles x) {
        List<Long> answers = look(x);
        Call[] calls = {PoisonPiles::won, PoisonPiles::winning, PoisonPiles::value, PoisonPiles::best, y -> y.grundy(7),
            y -> y.period(0), y -> y.drawn(20, 5), y -> y.ofPlayer(0, 2), y -> y.count(10), y -> y.count(9), PoisonPiles::fault,
            y -> y.put('3'), PoisonPiles::fault, PoisonPiles::carryOut};
        for (Call call : calls) answers.add(call.on(x));
        answers.addAll(look(x));
        for (int i = 0; i < 7; i++) {
            answers.add((long) x.undo());
            answers.addAll(look(x));
        }
        for (int slot = 0; slot < 2; slot++) {
            answers.add((long) x.restore(slot));
            answers.addAll(look(x));
        }
        return answers;
    }

    /** The call answers that, and nothing can be told apart from what it were without the call. */
    void changesNothing(String what, Making making, Call call, long want) {
        PoisonPiles x = making.made();
        due(what, call.on(x), want);
        same("behind " + what, trace(x), trace(making.made()));
    }

    void changesNothing(String what, Making making, Call call) {
        changesNothing(what, making, call, call.on(making.made()));
    }

    /** The call records one state, the one before it. */
    void isChange(String what, PoisonPiles x, Call call) {
        List<Long> before = look(x);
        int undoable = x.count(10);
        long answer = call.on(x);
        due(what + " is no error", answer < 0 ? answer : 0, 0);
        due(what + " can be undone, count(10)", x.count(10), undoable + 1);
        due("undo() of " + what, x.undo(), undoable);
        same("undo() of " + what, look(x), before);
    }
}
