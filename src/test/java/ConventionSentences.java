/** The document's "CONVENTIONS": its error codes, their order, and that a refused call changes nothing. */
final class ConventionSentences extends Sentences {
    private static final String EIGHTY = "+1;".repeat(26) + "+1";

    ConventionSentences(Checks checks, Document document) {
        super(checks, document);
    }

    @Override void run() {
        errorCodes();
        firstErrorThatApplies();
        refusedInPlay();
        refusedWhenFull();
        refusedWhenOver();
        refusedWhenNew();
        none();
        numberedFromZero();
        bitMasks();
        closeSentence();
    }

    private void errorCodes() {
        sentence("Terms", "CONVENTIONS. A method that fails returns one of the error codes NO_SUCH (-1), BAD_VALUE (-2), "
            + "BAD_TEXT (-3), TOO_MANY (-4) and NOT_POSSIBLE (-5)");
        due("take() from no pile", new PoisonPiles().take(0, 1), -1);
        due("grundy(201)", new PoisonPiles().grundy(201), -2);
        due("carryOut() of an empty pad", new PoisonPiles().carryOut(), -3);
        due("a fifth pile", full().pile(1, 1, 0), -4);
        due("undo() of nothing", new PoisonPiles().undo(), -5);
    }

    private void firstErrorThatApplies() {
        sentence("Terms", "it names its errors in the order in which they are checked, and the first one that applies is "
            + "returned.");
        int[][] badPiles = {{-1, 0, 0}, {6, 0, 0}, {0, -1, 0}, {0, 10, 0}, {0, 0, -1}, {0, 0, 2}};
        for (int[] bad : badPiles) {
            due("pile() out of range among 4 piles", full().pile(bad[0], bad[1], bad[2]), BAD_VALUE);
        }
        for (int tokens : new int[] {-1, 0, 1, 5, 6}) {
            due("take(2, " + tokens + ") when over", poisonEnded().take(2, tokens), NO_SUCH);
            due("take(-1, " + tokens + ") when stuck", stuck().take(-1, tokens), NO_SUCH);
        }
        for (PoisonPiles over : new PoisonPiles[] {poisonEnded(), stuck(), new PoisonPiles()}) {
            due("play(0) when over", over.play(0), BAD_VALUE);
            due("play(41) when over", over.play(41), BAD_VALUE);
            due("drawn(0, 0) when over", over.drawn(0, 0), BAD_VALUE);
            due("drawn(201, 0) when over", over.drawn(201, 0), BAD_VALUE);
            due("drawn(1, -1) when over", over.drawn(1, -1), BAD_VALUE);
            due("drawn(1, 65537) when over", over.drawn(1, 65537), BAD_VALUE);
        }
        due("ofPile(1, 5) of one pile", piles("31").ofPile(1, 5), NO_SUCH);
        due("ofPile(-1, -1)", piles("31").ofPile(-1, -1), NO_SUCH);
        due("ofPlayer(2, 3)", new PoisonPiles().ofPlayer(2, 3), NO_SUCH);
        due("ofPlayer(-1, -1)", new PoisonPiles().ofPlayer(-1, -1), NO_SUCH);
        for (long bad : new long[] {0, 32, 127, -1, (long) 'p' << 16 | 'p'}) {
            due("put(" + bad + ") to a full pad", pad(EIGHTY).put(bad), BAD_VALUE);
        }
        due("restore(2) with nothing saved", new PoisonPiles().restore(2), BAD_VALUE);
        due("restore(-1) with nothing saved", new PoisonPiles().restore(-1), BAD_VALUE);
    }

    /** A pass is ahead; the pad has a fault; a slot is filled; the history is full. */
    private static PoisonPiles inPlay() {
        PoisonPiles x = piles("31", "52!", "09");
        x.set(BONUS, 20);
        x.passes(1, 2);
        x.take(1, 1);
        x.save(0);
        x.take(1, 1);
        x.take(0, 2);
        x.pass();
        return put(x, "+5w");
    }

    private void refusedInPlay() {
        sentence("Terms", "A call that returns an error changes nothing.");
        changesNothing("set(-1, 5)", ConventionSentences::inPlay, x -> x.set(-1, 5), BAD_VALUE);
        changesNothing("set(2, 5)", ConventionSentences::inPlay, x -> x.set(2, 5), BAD_VALUE);
        changesNothing("set(0, 0)", ConventionSentences::inPlay, x -> x.set(0, 0), BAD_VALUE);
        changesNothing("set(0, 32)", ConventionSentences::inPlay, x -> x.set(0, 32), BAD_VALUE);
        changesNothing("set(1, -1)", ConventionSentences::inPlay, x -> x.set(1, -1), BAD_VALUE);
        changesNothing("set(1, 100)", ConventionSentences::inPlay, x -> x.set(1, 100), BAD_VALUE);
        changesNothing("pile(6, 1, 0)", ConventionSentences::inPlay, x -> x.pile(6, 1, 0), BAD_VALUE);
        changesNothing("pile(1, 10, 0)", ConventionSentences::inPlay, x -> x.pile(1, 10, 0), BAD_VALUE);
        changesNothing("pile(1, 1, 2)", ConventionSentences::inPlay, x -> x.pile(1, 1, 2), BAD_VALUE);
        changesNothing("passes(0, 3)", ConventionSentences::inPlay, x -> x.passes(0, 3), BAD_VALUE);
        changesNothing("passes(3, 0)", ConventionSentences::inPlay, x -> x.passes(3, 0), BAD_VALUE);
        changesNothing("take(3, 1)", ConventionSentences::inPlay, x -> x.take(3, 1), NO_SUCH);
        changesNothing("take(-1, 1)", ConventionSentences::inPlay, x -> x.take(-1, 1), NO_SUCH);
        changesNothing("take(0, 2)", ConventionSentences::inPlay, x -> x.take(0, 2), NOT_POSSIBLE);
        changesNothing("take(1, 0)", ConventionSentences::inPlay, x -> x.take(1, 0), NOT_POSSIBLE);
        changesNothing("take(1, 4)", ConventionSentences::inPlay, x -> x.take(1, 4), NOT_POSSIBLE);
        changesNothing("take(2, 1)", ConventionSentences::inPlay, x -> x.take(2, 1), NOT_POSSIBLE);
        changesNothing("pass()", ConventionSentences::inPlay, PoisonPiles::pass, NOT_POSSIBLE);
        changesNothing("play(0)", ConventionSentences::inPlay, x -> x.play(0), BAD_VALUE);
        changesNothing("play(41)", ConventionSentences::inPlay, x -> x.play(41), BAD_VALUE);
        changesNothing("ofPile(3, 0)", ConventionSentences::inPlay, x -> x.ofPile(3, 0), NO_SUCH);
        changesNothing("ofPile(0, 5)", ConventionSentences::inPlay, x -> x.ofPile(0, 5), BAD_VALUE);
        changesNothing("ofPlayer(2, 0)", ConventionSentences::inPlay, x -> x.ofPlayer(2, 0), NO_SUCH);
        changesNothing("ofPlayer(0, 3)", ConventionSentences::inPlay, x -> x.ofPlayer(0, 3), BAD_VALUE);
        changesNothing("count(11)", ConventionSentences::inPlay, x -> x.count(11), BAD_VALUE);
        changesNothing("grundy(201)", ConventionSentences::inPlay, x -> x.grundy(201), BAD_VALUE);
        changesNothing("period(2)", ConventionSentences::inPlay, x -> x.period(2), BAD_VALUE);
        changesNothing("drawn(201, 0)", ConventionSentences::inPlay, x -> x.drawn(201, 0), BAD_VALUE);
        changesNothing("put(0)", ConventionSentences::inPlay, x -> x.put(0), BAD_VALUE);
        changesNothing("put() of a bad one behind good ones", ConventionSentences::inPlay, x -> x.put(number("+1; ")), BAD_VALUE);
        changesNothing("put() of a bad one ahead of good ones", ConventionSentences::inPlay, x -> x.put(number(" ;+1")), BAD_VALUE);
        changesNothing("carryOut() of a fault", ConventionSentences::inPlay, PoisonPiles::carryOut, BAD_TEXT);
        changesNothing("save(2)", ConventionSentences::inPlay, x -> x.save(2), BAD_VALUE);
        changesNothing("save(-1)", ConventionSentences::inPlay, x -> x.save(-1), BAD_VALUE);
        changesNothing("restore(2)", ConventionSentences::inPlay, x -> x.restore(2), BAD_VALUE);
        changesNothing("restore(1) with nothing saved", ConventionSentences::inPlay, x -> x.restore(1), NOT_POSSIBLE);
    }

    private static PoisonPiles full() {
        PoisonPiles x = piles("31", "01", "21!", "11");
        x.save(1);
        return put(x, EIGHTY);
    }

    private void refusedWhenFull() {
        sentence("Terms", "A call that returns an error changes nothing.");
        changesNothing("a fifth pile", ConventionSentences::full, x -> x.pile(1, 1, 0), TOO_MANY);
        changesNothing("an 81st character", ConventionSentences::full, x -> x.put('p'), TOO_MANY);
        changesNothing("an 81st to an 88th character", ConventionSentences::full, x -> x.put(number("pppppppp")), TOO_MANY);
        Making almost = () -> put(piles("31"), "p;".repeat(38) + "+5;");
        changesNothing("two characters where one fits", almost, x -> x.put(number("+1")), TOO_MANY);
    }

    private void refusedWhenOver() {
        sentence("Terms", "A call that returns an error changes nothing.");
        for (Making over : new Making[] {Sentences::poisonEnded, Sentences::stuck}) {
            changesNothing("take() when over", over, x -> x.take(0, 1), NOT_POSSIBLE);
            changesNothing("pass() when over", over, PoisonPiles::pass, NOT_POSSIBLE);
            changesNothing("play() when over", over, x -> x.play(1), NOT_POSSIBLE);
            changesNothing("won() when over", over, PoisonPiles::won, NOT_POSSIBLE);
            changesNothing("winning() when over", over, PoisonPiles::winning, NOT_POSSIBLE);
            changesNothing("value() when over", over, PoisonPiles::value, NOT_POSSIBLE);
            changesNothing("best() when over", over, PoisonPiles::best, NOT_POSSIBLE);
            changesNothing("drawn() when over", over, x -> x.drawn(1, 0), NOT_POSSIBLE);
        }
    }

    private void refusedWhenNew() {
        sentence("Terms", "A call that returns an error changes nothing.");
        changesNothing("undo() of nothing", PoisonPiles::new, PoisonPiles::undo, NOT_POSSIBLE);
        changesNothing("carryOut() of an empty pad", PoisonPiles::new, PoisonPiles::carryOut, BAD_TEXT);
        changesNothing("restore() of nothing", PoisonPiles::new, x -> x.restore(0), NOT_POSSIBLE);
        changesNothing("take() from no pile", PoisonPiles::new, x -> x.take(0, 1), NO_SUCH);
    }

    private void none() {
        sentence("Terms", "NONE (-6) is not an error; it is returned only if no error applies.");
        PoisonPiles x = put(piles("31"), "+1");
        due("the winner before the end, count(4)", x.count(4), -6);
        due("the fault of a whole text", x.fault(), -6);
        due("carryOut() of it", x.carryOut(), 1);
        due("count(-1) before the end", x.count(-1), BAD_VALUE);
        due("count(11) before the end", x.count(11), BAD_VALUE);
        due("period(2)", x.period(2), BAD_VALUE);
    }

    private void numberedFromZero() {
        sentence("Terms", "Everything is numbered from 0.");
        PoisonPiles x = new PoisonPiles();
        due("the first pile", x.pile(1, 3, 0), 0);
        due("the first setting", x.set(0, 1), 7);
        due("the first player moves", x.count(2), 0);
        due("the first move, best()", x.best(), 0);
        due("the first move as a set", x.moves(), 1);
        due("the first slot", x.save(0), 1);
        due("the first character's index", put(x, "?").fault(), 0);
        due("take() from the first pile", x.take(0, 1), 3);
        due("the first player's gains", x.ofPlayer(0, 0), 3);
    }

    private void bitMasks() {
        sentence("Terms", "Sets of moves and takes are bit masks.");
        PoisonPiles x = piles("11", "01", "21", "01");
        x.passes(1, 0);
        due("moves()", x.moves(), 1 | 1 << 10 | 1 << 11 | 1 << 20);
        due("takes of one and three", x.set(TAKES, 1 | 1 << 2), 7);
        due("moves() then", x.moves(), 1 | 1 << 10 | 1 << 20);
        due("winning()", piles("21", "11").winning(), 1);
    }
}
