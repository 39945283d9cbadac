/** The document's "Terms": Settings, Game, Values, Single piles. */
final class TermSentences extends Sentences {
    TermSentences(Checks checks, Document document) {
        super(checks, document);
    }

    @Override void run() {
        firstSettings();
        rangeOfTakes();
        takesAsASet();
        rangeOfBonus();
        bonusIsPaid();
        upToFourPiles();
        pilesInTheirOrder();
        tokensOfPiles();
        worthOfTokens();
        poisonedOrNot();
        emptyPilesStay();
        twoPlayers();
        passesOfPlayers();
        gainsAtFirst();
        toMoveAtFirst();
        takesThatAreMoves();
        takesGain();
        passNeedsAPass();
        passNotBehindAPass();
        passNeedsAToken();
        passTakesAPass();
        overByPoison();
        overWithoutAMove();
        lostForWhoIsToMove();
        overAsSoonAsItIsSo();
        poisonEndStays();
        otherIsToMoveAllTheSame();
        bonusAsItIsWhenAsked();
        forTheWinAlone();
        forTheDifference();
        movesAreNumbered();
        grundyValues();
        closeSentence();
    }

    // ---- Settings

    private void firstSettings() {
        sentence("Settings", "(In parentheses: range; first value.)");
        PoisonPiles x = new PoisonPiles();
        due("TAKES at first", x.count(7), 7);
        due("BONUS at first", x.count(8), 10);
        due("set(TAKES) tells the first value", x.set(TAKES, 1), 7);
        due("set(BONUS) tells the first value", x.set(BONUS, 1), 10);
    }

    private void rangeOfTakes() {
        sentence("Settings", "TAKES (1 to 31; 7)");
        PoisonPiles x = new PoisonPiles();
        due("too small", x.set(TAKES, 0), BAD_VALUE);
        due("below 0", x.set(TAKES, -1), BAD_VALUE);
        due("too large", x.set(TAKES, 32), BAD_VALUE);
        due("too large by a wrap-around of bits", x.set(TAKES, 256 + 7), BAD_VALUE);
        due("the least", x.set(TAKES, 1), 7);
        due("the greatest", x.set(TAKES, 31), 1);
        due("is kept", x.count(7), 31);
    }

    private void takesAsASet() {
        sentence("Settings", "the takes that are allowed, as a set, the bit 0 for one token, up to the bit 4 for five");
        for (int takes = 1; takes <= 31; takes++) {
            due("moves() by " + takes, piles(takes, "51").moves(), takes);
            for (int tokens = 1; tokens <= 5; tokens++) {
                int want = (takes >> tokens - 1 & 1) == 1 ? tokens : NOT_POSSIBLE;
                due("take(0, " + tokens + ") by " + takes, piles(takes, "51").take(0, tokens), want);
            }
        }
    }

    private void rangeOfBonus() {
        sentence("Settings", "BONUS (0 to 99; 10)");
        PoisonPiles x = new PoisonPiles();
        due("too small", x.set(BONUS, -1), BAD_VALUE);
        due("too large", x.set(BONUS, 100), BAD_VALUE);
        due("the least", x.set(BONUS, 0), 10);
        due("the greatest", x.set(BONUS, 99), 0);
        due("is kept", x.count(8), 99);
    }

    private void bonusIsPaid() {
        sentence("Settings", "coins that the loser pays to the winner.");
        for (int bonus : new int[] {0, 1, 10, 99}) {
            PoisonPiles x = piles("12");
            x.set(BONUS, bonus);
            x.take(0, 1);
            due("the winner's, with BONUS " + bonus, x.ofPlayer(0, 2), 102 + bonus);
            due("the loser's, with BONUS " + bonus, x.ofPlayer(1, 2), 100 - bonus);
        }
    }

    // ---- Game

    private void upToFourPiles() {
        sentence("Game", "There are up to 4 piles");
        PoisonPiles x = piles("11", "11", "11");
        due("the fourth", x.pile(1, 1, 0), 3);
        due("the fifth", x.pile(1, 1, 0), TOO_MANY);
        due("four of them", x.count(0), 4);
        due("a fifth by a text", carryOut(x, "+1"), 0);
        due("empty ones count", piles("01", "01", "01", "01").pile(5, 1, 0), TOO_MANY);
        x.undo();
        x.undo();
        due("a place is free behind undo()", x.pile(2, 2, 0), 3);
        due("it is that pile then", x.ofPile(3, 1), 2);
    }

    private void pilesInTheirOrder() {
        sentence("Game", "numbered in the order in which they came");
        PoisonPiles x = new PoisonPiles();
        for (int i = 0; i < 4; i++) {
            due("pile " + i, x.pile(i + 1, 9 - i, i % 2), i);
        }
        for (int i = 0; i < 4; i++) {
            due("tokens of " + i, x.ofPile(i, 0), i + 1);
            due("worth of " + i, x.ofPile(i, 1), 9 - i);
            due("poison of " + i, x.ofPile(i, 2), i % 2);
        }
    }

    private void tokensOfPiles() {
        sentence("Game", "each of 0 to 5 tokens");
        PoisonPiles x = new PoisonPiles();
        due("too few", x.pile(-1, 1, 0), BAD_VALUE);
        due("too many", x.pile(6, 1, 0), BAD_VALUE);
        due("the fewest", x.pile(0, 1, 0), 0);
        due("they are there", x.ofPile(0, 0), 0);
        due("the most", x.pile(5, 1, 0), 1);
        due("they are there", x.ofPile(1, 0), 5);
    }

    private void worthOfTokens() {
        sentence("Game", "with a worth (0 to 9 coins) of each token");
        PoisonPiles x = piles(31, "50", "59");
        due("worth below 0", x.pile(1, -1, 0), BAD_VALUE);
        due("worth above 9", x.pile(1, 10, 0), BAD_VALUE);
        due("five tokens of 0", x.take(0, 5), 0);
        due("five tokens of 9", x.take(1, 5), 45);
        due("gains", x.ofPlayer(0, 0), 0);
        due("gains", x.ofPlayer(1, 0), 45);
    }

    private void poisonedOrNot() {
        sentence("Game", "poisoned or not.");
        PoisonPiles x = piles("11", "11!", "11");
        due("the last token of one that is not, then over", over(x, 0), 0);
        due("the last token of a poisoned one, then over", over(x, 1), 1);
    }

    private static int over(PoisonPiles x, int pile) {
        x.take(pile, 1);
        return x.count(3);
    }

    private void emptyPilesStay() {
        sentence("Game", "(An empty pile stays.)");
        PoisonPiles x = piles("24", "31", "01");
        x.take(0, 2);
        due("piles", x.count(0), 3);
        due("its tokens", x.ofPile(0, 0), 0);
        due("its worth", x.ofPile(0, 1), 4);
        due("the tokens with which it came", x.ofPile(0, 3), 2);
        due("the next pile has its number", x.ofPile(1, 0), 3);
        due("a take is no move, but there is such a pile", x.take(0, 1), NOT_POSSIBLE);
        due("one that came empty", x.take(2, 1), NOT_POSSIBLE);
        due("moves()", x.moves(), 7 << 5);
        due("a new pile has a new number", x.pile(1, 1, 0), 3);
        due("no place is free", x.pile(1, 1, 0), TOO_MANY);
    }

    private void twoPlayers() {
        sentence("Game", "There are the players 0 and 1");
        PoisonPiles x = piles("32");
        due("player 0", x.ofPlayer(0, 0), 0);
        due("player 1", x.ofPlayer(1, 0), 0);
        due("player 2", x.ofPlayer(2, 0), NO_SUCH);
        due("player -1", x.ofPlayer(-1, 0), NO_SUCH);
        for (int move = 0; move < 3; move++) {
            due("to move behind " + move + " moves", x.count(2), move % 2);
            x.take(0, 1);
        }
    }

    private void passesOfPlayers() {
        sentence("Game", "each with 0 to 2 passes");
        PoisonPiles x = new PoisonPiles();
        due("passes at first", x.ofPlayer(0, 1) + x.ofPlayer(1, 1), 0);
        due("too many", x.passes(3, 0), BAD_VALUE);
        due("too many", x.passes(0, 3), BAD_VALUE);
        due("too few", x.passes(-1, 0), BAD_VALUE);
        due("too few", x.passes(0, -1), BAD_VALUE);
        due("the most", x.passes(2, 2), 0);
        due("the fewest", x.passes(0, 0), 4);
    }

    private void gainsAtFirst() {
        sentence("Game", "and with gains (0 at first)");
        PoisonPiles x = piles("39");
        due("player 0", x.ofPlayer(0, 0), 0);
        due("player 1", x.ofPlayer(1, 0), 0);
        due("in all and 100", x.ofPlayer(0, 2), 100);
    }

    private void toMoveAtFirst() {
        sentence("Game", "one of them is to move (0 at first).");
        due("without piles", new PoisonPiles().count(2), 0);
        PoisonPiles x = piles("39");
        due("with a pile", x.count(2), 0);
        x.take(0, 1);
        due("player 0 took", x.ofPlayer(0, 0), 9);
        due("then player 1", x.count(2), 1);
    }

    private void takesThatAreMoves() {
        sentence("Game", "A move is to take from one pile: so many tokens as are allowed and are there");
        due("allowed, but not there", piles("21").take(0, 3), NOT_POSSIBLE);
        due("there, but not allowed", piles("51").take(0, 4), NOT_POSSIBLE);
        due("all that are there", piles("31").take(0, 3), 3);
        due("all five", piles(31, "51").take(0, 5), 5);
        due("none", piles("31", "31").take(0, 0), NOT_POSSIBLE);
        due("none of the second pile, not all of the first", piles(31, "51", "51").take(1, 0), NOT_POSSIBLE);
        due("less than none", piles("31").take(0, -1), NOT_POSSIBLE);
        due("six, not one of the next pile", piles(31, "51", "51").take(0, 6), NOT_POSSIBLE);
        PoisonPiles four = piles(31, "51", "51", "51", "51");
        four.passes(2, 2);
        due("six of the last pile, not a pass", four.take(3, 6), NOT_POSSIBLE);
        due("33, by a wrap-around one", piles(31, "51").take(0, 33), NOT_POSSIBLE);
        due("2^31 - 1", piles(31, "51").take(0, Integer.MAX_VALUE), NOT_POSSIBLE);
        due("-2^31", piles(31, "51").take(0, Integer.MIN_VALUE), NOT_POSSIBLE);
        due("moves() of few tokens", piles(31, "01", "11", "31").moves(), 1 << 5 | 7 << 10);
    }

    private void takesGain() {
        sentence("Game", "the player gains their worth.");
        PoisonPiles x = piles("32", "57");
        due("3 of 2", x.take(0, 3), 6);
        due("2 of 7", x.take(1, 2), 14);
        due("1 of 7", x.take(1, 1), 7);
        due("player 0", x.ofPlayer(0, 0), 13);
        due("player 1", x.ofPlayer(1, 0), 14);
        PoisonPiles poisoned = piles("23!");
        due("poisoned tokens too", poisoned.take(0, 2), 6);
        due("also at the end", poisoned.ofPlayer(0, 0), 6);
    }

    private void passNeedsAPass() {
        sentence("Game", "Or it is to pass, if the player has a pass");
        PoisonPiles x = piles("51");
        x.passes(0, 2);
        due("only the other one has", x.pass(), NOT_POSSIBLE);
        due("moves()", x.moves(), 7);
        x.take(0, 1);
        due("the player 1 has", x.moves(), 7 | PASS);
        due("passes", x.pass(), 1);
        due("the player 0 has none", x.pass(), NOT_POSSIBLE);
    }

    private void passNotBehindAPass() {
        sentence("Game", "the move ahead was not a pass");
        PoisonPiles x = piles("51");
        x.passes(2, 2);
        due("the first move may be one", x.pass(), 1);
        due("not behind a pass", x.pass(), NOT_POSSIBLE);
        due("moves()", x.moves(), 7);
        x.set(BONUS, 1);
        x.pile(5, 1, 0);
        x.passes(2, 2);
        due("also behind other changes", x.pass(), NOT_POSSIBLE);
        x.take(0, 1);
        due("but behind a take", x.pass(), 1);
        x.begin();
        due("and behind begin()", x.pass(), 0);
    }

    private void passNeedsAToken() {
        sentence("Game", "and there is a token in some pile");
        PoisonPiles x = piles("01", "01", "01", "01");
        x.passes(2, 2);
        due("no token", x.pass(), NOT_POSSIBLE);
        due("moves()", x.moves(), 0);
        PoisonPiles none = new PoisonPiles();
        none.passes(2, 2);
        due("no pile", none.pass(), NOT_POSSIBLE);
        PoisonPiles last = piles(16, "01", "01", "01", "11");
        last.passes(2, 2);
        due("a token in the last pile, though no take is allowed", last.moves(), PASS);
        due("pass()", last.pass(), 1);
        PoisonPiles taken = piles("11");
        taken.passes(2, 2);
        taken.take(0, 1);
        due("the last token is taken", taken.pass(), NOT_POSSIBLE);
    }

    private void passTakesAPass() {
        sentence("Game", "it takes one pass.");
        PoisonPiles x = piles("51");
        x.passes(2, 2);
        x.pass();
        due("of who passes", x.ofPlayer(0, 1), 1);
        due("not of the other one", x.ofPlayer(1, 1), 2);
        x.take(0, 1);
        due("the last one", x.pass(), 0);
        due("tokens stay", x.count(1), 4);
        due("gains stay", x.ofPlayer(0, 0), 0);
    }

    private void overByPoison() {
        sentence("Game", "Behind a move the game is over if it took the last token of a poisoned pile (who took it loses)");
        PoisonPiles x = piles("32!", "51", "01!");
        x.passes(2, 2);
        x.take(0, 2);
        due("all but the last one", x.count(3), 0);
        x.pass();
        due("a pass", x.count(3), 0);
        x.take(0, 1);
        due("the last one", x.count(3), 1);
        due("the winner is the other one", x.count(4), 1);
        PoisonPiles atOnce = piles("31!", "51");
        atOnce.take(0, 3);
        due("with all of them", atOnce.count(4), 1);
        PoisonPiles second = piles("31", "11!");
        second.take(0, 1);
        second.take(1, 1);
        due("the player 1 took it", second.count(4), 0);
        PoisonPiles alone = piles("11!");
        alone.take(0, 1);
        due("who took it loses, though the other one has no move", alone.count(4), 1);
        due("a poisoned pile that came empty ends nothing", piles("01!", "11").count(3), 0);
    }

    private void overWithoutAMove() {
        sentence("Game", ", otherwise if the other player, who is to move then, has no move: that one loses.");
        PoisonPiles x = piles("11", "11");
        x.take(0, 1);
        due("a token is left", x.count(3), 0);
        due("no winner yet", x.count(4), NONE);
        x.take(1, 1);
        due("none is left", x.count(3), 1);
        due("who took the last one wins", x.count(4), 1);
        PoisonPiles passed = piles(16, "21");
        passed.passes(1, 2);
        passed.pass();
        due("behind a pass no pass is a move", passed.count(3), 1);
        due("who passed wins", passed.count(4), 0);
        PoisonPiles saved = piles(4, "51");
        saved.passes(0, 1);
        saved.take(0, 3);
        due("a pass is a move", saved.count(3), 0);
        saved.pass();
        due("then the player 0 has none", saved.count(4), 1);
    }

    private void lostForWhoIsToMove() {
        sentence("Game", "So a game without any token, or with takes that are all too great, and without a pass, is lost for who "
            + "is to move");
        due("without any pile", new PoisonPiles().count(4), 1);
        due("without any token", piles("01", "01").count(4), 1);
        due("with takes that are all too great", piles(16, "41", "11").count(4), 1);
        due("with a take that is just small enough", piles(16, "41", "51").count(4), NONE);
        PoisonPiles x = piles(16, "41");
        x.passes(0, 2);
        due("a pass of the other one does not help", x.count(4), 1);
        x.passes(1, 0);
        due("an own one does", x.count(4), NONE);
        PoisonPiles empty = piles("01");
        empty.passes(2, 2);
        due("passes without any token", empty.count(4), 1);
        due("lost for the player 1", stuck().count(4), 0);
    }

    private void overAsSoonAsItIsSo() {
        sentence("Game", "it is over as soon as it is so, whatever made it so.");
        PoisonPiles x = piles("21");
        due("not yet", x.count(3), 0);
        x.set(TAKES, 4);
        due("by set()", x.count(3), 1);
        x.pile(3, 1, 0);
        due("no more, by pile()", x.count(3), 0);
        x.undo();
        due("by undo()", x.count(3), 1);
        x.save(0);
        x.passes(1, 0);
        due("no more, by passes()", x.count(3), 0);
        x.passes(0, 1);
        due("by passes()", x.count(3), 1);
        x.set(TAKES, 2);
        due("no more, by set()", x.count(3), 0);
        x.restore(0);
        due("by restore()", x.count(3), 1);
        PoisonPiles second = piles("31");
        second.take(0, 1);
        second.set(TAKES, 8);
        second.passes(0, 1);
        due("the player 1 has a pass", second.count(3), 0);
        second.begin();
        due("by begin()", second.count(3), 1);
        due("the player 0 loses", second.count(4), 1);
        due("by take()", over(piles("11"), 0), 1);
        due("no move is left then", piles("01").moves(), 0);
        PoisonPiles played = piles("21");
        played.play(1);
        due("by play()", played.count(3), 1);
        PoisonPiles text = new PoisonPiles();
        due("take() by a text", carryOut(text, "+1;-0.1"), 2);
        due("by carryOut()", text.count(3), 1);
        text.begin();
        due("no more, by begin()", text.count(3), 0);
    }

    private void poisonEndStays() {
        sentence("Game", "A game that a poisoned token ended stays over until begin()");
        PoisonPiles x = poisonEnded();
        x.pile(5, 1, 0);
        due("behind pile()", x.count(3), 1);
        x.set(TAKES, 31);
        due("behind set()", x.count(3), 1);
        x.passes(2, 2);
        due("behind passes()", x.count(3), 1);
        due("behind a text: its pile comes, its take is refused", carryOut(x, "+3;-1.1"), 1);
        due("behind carryOut()", x.count(3), 1);
        due("no moves()", x.moves(), 0);
        due("take()", x.take(1, 1), NOT_POSSIBLE);
        due("pass()", x.pass(), NOT_POSSIBLE);
        due("the winner stays", x.count(4), 1);
        x.save(0);
        due("begin()", x.begin(), 14);
        due("then it goes on", x.count(3), 0);
        x.restore(0);
        due("it was saved as it was", x.count(4), 1);
        x.undo();
        due("undo() of restore()", x.count(3), 0);
        x.undo();
        due("undo() of begin()", x.count(4), 1);
    }

    private void otherIsToMoveAllTheSame() {
        sentence("Game", "the other player is to move all the same.");
        PoisonPiles x = poisonEnded();
        due("the player 1 is to move", x.count(2), 1);
        due("a move was made", x.count(5), 1);
        PoisonPiles second = piles("51", "11!");
        second.take(0, 1);
        second.take(1, 1);
        due("the player 0 is to move", second.count(2), 0);
    }

    private void bonusAsItIsWhenAsked() {
        sentence("Game", "At the end the loser pays BONUS, as it is when that is asked for, to the winner.");
        PoisonPiles x = piles("12", "51!");
        x.set(BONUS, 30);
        x.take(0, 1);
        due("nothing before the end", x.ofPlayer(0, 2), 102);
        due("nothing before the end", x.ofPlayer(1, 2), 100);
        x.take(1, 3);
        x.take(1, 2);
        due("the loser, by poison", x.ofPlayer(0, 2), 74);
        due("the winner", x.ofPlayer(1, 2), 133);
        x.set(BONUS, 0);
        due("the loser, with BONUS 0", x.ofPlayer(0, 2), 104);
        x.set(BONUS, 99);
        due("the loser, with BONUS 99", x.ofPlayer(0, 2), 5);
        due("the winner, with BONUS 99", x.ofPlayer(1, 2), 202);
        due("gains stay without it", x.ofPlayer(1, 0), 3);
        x.begin();
        due("nothing any more", x.ofPlayer(1, 2), 100);
    }

    // ---- Values

    private void forTheWinAlone() {
        sentence("Values", "Each player can play for the win alone: a game is won for who is to move if some move of it loses the "
            + "other one's game");
        due("5 tokens, leaving 4", piles("51").won(), 1);
        due("the only move of several", piles("51").winning(), 1);
        due("coins do not count", piles("29", "10").winning(), 1);
        sentence("Values", "(or ends it so)");
        due("all tokens at once", piles("31").winning(), 4);
        due("not by the last poisoned one", piles("31!").winning(), 2);
        due("by a pass", onlyAPass().winning(), PASS);
        sentence("Values", ", otherwise lost.");
        due("4 tokens", piles("41").won(), 0);
        due("two equal piles", piles("31", "31").won(), 0);
        due("a poisoned one alone", piles("19!").won(), 0);
        due("two poisoned ones", piles("11!", "11!").won(), 0);
    }

    private static PoisonPiles onlyAPass() {
        PoisonPiles x = piles(16, "23");
        x.passes(1, 2);
        return x;
    }

    private void forTheDifference() {
        sentence("Values", "Or each player can play for the difference: the value of a game is the greatest, over all moves, of what "
            + "is gained by the move less the value of the game behind it for the other player");
        due("one by one: 3 less 3 and 10", piles(1, "23").value(), 990);
        due("one by one: 3 less 3, and 3 and 10", piles(1, "33").value(), 1013);
        due("both at once, rather than one by one", piles("23").value(), 1016);
        PoisonPiles poor = piles("19", "10");
        poor.set(BONUS, 4);
        due("9, though that loses", poor.value(), 1005);
        sentence("Values", "(a move that ends the game: what is gained by it, and BONUS");
        due("one token of 4", piles("14").value(), 1014);
        PoisonPiles great = piles(16, "59");
        great.set(BONUS, 99);
        due("the greatest one of a pile", great.value(), 1144);
        great.set(BONUS, 0);
        due("without BONUS", great.value(), 1045);
        sentence("Values", ", or less BONUS if it is lost by that)");
        due("one poisoned token of 4", piles("14!").value(), 994);
        PoisonPiles least = piles("10!");
        least.set(BONUS, 99);
        due("the least one", least.value(), 901);
        due("it is not the other one who pays", piles("14!", "51").best(), 5);
        sentence("Values", "the value of a game that is over, as who is to move has no move, is less BONUS.");
        due("behind a pass: 0 less -10", onlyAPass().value(), 1010);
        due("behind a take: 3 less -10", piles("13").value(), 1013);
    }

    private void movesAreNumbered() {
        sentence("Values", "The moves of a game are numbered: 5 * pile + (tokens - 1) for a take");
        for (int pile = 0; pile < 4; pile++) {
            for (int tokens = 1; tokens <= 5; tokens++) {
                PoisonPiles x = new PoisonPiles();
                for (int i = 0; i < pile; i++) x.pile(0, 1, 0);
                x.pile(tokens, 1, 0);
                x.set(TAKES, 1 << tokens - 1);
                due(tokens + " of pile " + pile, x.moves(), 1 << 5 * pile + tokens - 1);
                due(tokens + " of pile " + pile + ", best()", x.best(), 5 * pile + tokens - 1);
                due(tokens + " of pile " + pile + ", winning()", x.winning(), 1 << 5 * pile + tokens - 1);
            }
        }
        sentence("Values", "20 for a pass.");
        due("moves()", onlyAPass().moves(), 1 << 20);
        due("best()", onlyAPass().best(), 20);
    }

    // ---- Single piles

    private void grundyValues() {
        sentence("Single piles", "The grundy value of a pile of n tokens, without poison and passes, is the least number from 0 on "
            + "that is none of the grundy values of the piles that are left by the allowed takes.");
        PoisonPiles x = piles(18, "51!");
        x.passes(2, 2);
        int[] ofTwoAndFive = {0, 0, 1, 1, 0, 2, 1, 0, 0, 1, 1, 0, 2, 1};
        for (int n = 0; n < ofTwoAndFive.length; n++) {
            due("grundy(" + n + ") by 2 and 5", x.grundy(n), ofTwoAndFive[n]);
        }
        due("of a poisoned pile, with passes", x.ofPile(0, 4), 2);
        x.set(TAKES, 31);
        due("an empty pile", x.grundy(0), 0);
        for (int n = 1; n <= 5; n++) {
            due("every number below is left by a take, grundy(" + n + ")", x.grundy(n), n);
        }
        due("none is left by 1 to 5", x.grundy(6), 0);
        x.set(TAKES, 16);
        due("all takes are too great", x.grundy(4), 0);
        due("one is not", x.grundy(5), 1);
    }
}
