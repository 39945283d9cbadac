/** The document's promises 1 to 19: changes, what there is, what if. */
final class PromiseSentences extends Sentences {
    PromiseSentences(Checks checks, Document document) {
        super(checks, document);
    }

    @Override void run() {
        newObject();
        set();
        pile();
        passes();
        begin();
        take();
        pass();
        play();
        ofPile();
        ofPlayer();
        count();
        countOfTheGame();
        moves();
        won();
        winning();
        value();
        best();
        grundy();
        period();
        whatIfWithPasses();
        whatIfWithPoison();
        whatIfAsTheGameIsNow();
        whatIfWithManyPoisonedTokens();
        whatIfOfNeighbours();
        whatIfOfTheLongestGame();
        drawn();
        drawnMoves();
        closeSentence();
    }

    private void newObject() {
        sentence("Promise 1", "PoisonPiles(): Creates a game without piles.");
        PoisonPiles x = new PoisonPiles();
        int[] counts = {0, 0, 0, 1, 1, 0, 0, 7, 10, 0, 0};
        for (int what = 0; what < counts.length; what++) {
            due("count(" + what + ")", x.count(what), counts[what]);
        }
        due("ofPile(0, 0)", x.ofPile(0, 0), NO_SUCH);
        due("moves()", x.moves(), 0);
        due("fault()", x.fault(), 0);
        due("undo()", x.undo(), NOT_POSSIBLE);
        due("restore(0)", x.restore(0), NOT_POSSIBLE);
        due("restore(1)", x.restore(1), NOT_POSSIBLE);
        for (int player = 0; player < 2; player++) {
            due("gains", x.ofPlayer(player, 0), 0);
            due("passes", x.ofPlayer(player, 1), 0);
        }
        PoisonPiles used = put(piles(1, "31"), "+5");
        used.save(0);
        due("objects share nothing", new PoisonPiles().count(0) + new PoisonPiles().count(9), 0);
        due("objects share nothing", new PoisonPiles().restore(0), NOT_POSSIBLE);
    }

    private void set() {
        sentence("Promise 2", "int set(int setting, int value): Changes a setting.");
        PoisonPiles x = new PoisonPiles();
        x.set(TAKES, 5);
        x.set(BONUS, 6);
        due("TAKES", x.count(7), 5);
        due("BONUS", x.count(8), 6);
        sentence("Promise 2", "This is a change.");
        isChange("set(TAKES, 1)", piles("31"), y -> y.set(TAKES, 1));
        isChange("set(BONUS, 0)", piles("31"), y -> y.set(BONUS, 0));
        isChange("set() of the same value", piles("31"), y -> y.set(BONUS, 10));
        sentence("Promise 2", "Returns the previous value;");
        due("first", x.set(TAKES, 31), 5);
        due("second", x.set(TAKES, 31), 31);
        due("BONUS is another one", x.set(BONUS, 0), 6);
        sentence("Promise 2", "BAD_VALUE if there is no such setting");
        for (int setting : new int[] {-1, 2, Integer.MIN_VALUE, Integer.MAX_VALUE}) {
            due("set(" + setting + ", 5)", x.set(setting, 5), BAD_VALUE);
        }
        sentence("Promise 2", ", or the value is out of its range.");
        due("TAKES 0", x.set(TAKES, 0), BAD_VALUE);
        due("TAKES 32, which BONUS may be", x.set(TAKES, 32), BAD_VALUE);
        due("TAKES 99", x.set(TAKES, 99), BAD_VALUE);
        due("TAKES -2^31", x.set(TAKES, Integer.MIN_VALUE), BAD_VALUE);
        due("BONUS -1", x.set(BONUS, -1), BAD_VALUE);
        due("BONUS 100", x.set(BONUS, 100), BAD_VALUE);
        due("BONUS 2^31 - 1", x.set(BONUS, Integer.MAX_VALUE), BAD_VALUE);
        due("BONUS 32, which TAKES may not be", x.set(BONUS, 32), 0);
        due("BONUS 0, which TAKES may not be", x.set(BONUS, 0), 32);
    }

    private void pile() {
        sentence("Promise 3", "int pile(int tokens, int worth, int poison): A pile comes.");
        PoisonPiles x = piles("31");
        x.take(0, 1);
        x.pile(4, 7, 1);
        due("piles", x.count(0), 2);
        due("its tokens", x.ofPile(1, 0), 4);
        due("its worth", x.ofPile(1, 1), 7);
        due("the tokens with which it came", x.ofPile(1, 3), 4);
        due("the other pile stays", x.ofPile(0, 0), 2);
        due("who is to move stays", x.count(2), 1);
        due("moves so far stay", x.count(5), 1);
        sentence("Promise 3", "This is a change.");
        isChange("pile()", piles("31"), y -> y.pile(1, 1, 1));
        isChange("pile() without tokens", new PoisonPiles(), y -> y.pile(0, 0, 0));
        outOfRangeOfPile("tokens: 0 to 5", 0, 5, (y, n) -> y.pile(n, 1, 0));
        outOfRangeOfPile("worth: 0 to 9", 0, 9, (y, n) -> y.pile(1, n, 0));
        outOfRangeOfPile("poison: 1 if it is poisoned, otherwise 0", 0, 1, (y, n) -> y.pile(1, 1, n));
        due("poison 1", piles("11!").ofPile(0, 2), 1);
        due("poison 0", piles("11").ofPile(0, 2), 0);
        sentence("Promise 3", "Returns its number;");
        for (int i = 0; i < 2; i++) {
            due("pile " + (2 + i), x.pile(0, 0, 0), 2 + i);
        }
        sentence("Promise 3", "BAD_VALUE if an argument is out of range;");
        due("all of them", new PoisonPiles().pile(6, 10, 2), BAD_VALUE);
        due("also among 4 piles", x.pile(6, 0, 0), BAD_VALUE);
        sentence("Promise 3", "TOO_MANY if there are 4 piles.");
        due("a fifth", x.pile(0, 0, 0), TOO_MANY);
        due("piles", x.count(0), 4);
    }

    private interface CallOfOne {
        int on(PoisonPiles x, int n);
    }

    private void outOfRangeOfPile(String words, int least, int greatest, CallOfOne call) {
        sentence("Promise 3", words);
        for (int n : new int[] {Integer.MIN_VALUE, least - 1, greatest + 1, Integer.MAX_VALUE}) {
            due("" + n, call.on(new PoisonPiles(), n), BAD_VALUE);
        }
        due("" + least, call.on(new PoisonPiles(), least), 0);
        due("" + greatest, call.on(new PoisonPiles(), greatest), 0);
    }

    private void passes() {
        sentence("Promise 4", "int passes(int first, int second): Gives the players passes, in place of those that they had.");
        PoisonPiles x = piles("31");
        x.passes(2, 2);
        x.passes(1, 0);
        due("the player 0 has not 3", x.ofPlayer(0, 1), 1);
        due("the player 1 has none", x.ofPlayer(1, 1), 0);
        sentence("Promise 4", "This is a change.");
        isChange("passes()", midGame(), y -> y.passes(2, 0));
        isChange("passes() as they are", piles("31"), y -> y.passes(0, 0));
        sentence("Promise 4", "first: 0 to 2, of the player 0");
        for (int first : new int[] {-1, 3, Integer.MIN_VALUE, Integer.MAX_VALUE}) {
            due("passes(" + first + ", 0)", x.passes(first, 0), BAD_VALUE);
        }
        due("passes(0, 0)", x.passes(0, 0), 1);
        due("passes(2, 0)", x.passes(2, 0), 0);
        due("the player 0 has them", x.ofPlayer(0, 1), 2);
        sentence("Promise 4", "second: 0 to 2, of the player 1");
        for (int second : new int[] {-1, 3, Integer.MIN_VALUE, Integer.MAX_VALUE}) {
            due("passes(0, " + second + ")", x.passes(0, second), BAD_VALUE);
        }
        due("passes(0, 2)", x.passes(0, 2), 2);
        due("the player 1 has them", x.ofPlayer(1, 1), 2);
        sentence("Promise 4", "Returns how many both had together;");
        due("2", x.passes(2, 2), 2);
        due("4", x.passes(1, 2), 4);
        x.pass();
        due("without one that was taken", x.passes(0, 0), 2);
        sentence("Promise 4", "BAD_VALUE if an argument is out of range.");
        due("both", x.passes(3, -1), BAD_VALUE);
        due("none came", x.ofPlayer(0, 1) + x.ofPlayer(1, 1), 0);
    }

    private static PoisonPiles midGame() {
        PoisonPiles x = piles("32", "51");
        x.passes(2, 1);
        x.take(1, 2);
        x.pass();
        return x;
    }

    private void begin() {
        sentence("Promise 5", "int begin(): Begins a game with the piles as they are now, but with the tokens with which they came "
            + "(all of them)");
        PoisonPiles x = midGame();
        x.pile(4, 3, 1);
        x.begin();
        due("piles", x.count(0), 3);
        due("pile 0", x.ofPile(0, 0), 3);
        due("pile 1", x.ofPile(1, 0), 5);
        due("pile 2, which came in the middle of a game", x.ofPile(2, 0), 4);
        due("worth stays", x.ofPile(2, 1), 3);
        due("poison stays", x.ofPile(2, 2), 1);
        due("an empty pile is full again", emptied().ofPile(0, 0), 3);
        sentence("Promise 5", ": gains are 0");
        due("of the player 0", x.ofPlayer(0, 0), 0);
        due("of the player 1", x.ofPlayer(1, 0), 0);
        sentence("Promise 5", ", the player 0 is to move");
        PoisonPiles second = piles("51");
        second.take(0, 1);
        due("the player 1 was", second.count(2), 1);
        second.begin();
        due("the player 0 is", second.count(2), 0);
        due("no moves so far", second.count(5), 0);
        sentence("Promise 5", ", no pass was ahead;");
        due("one was", midGame().count(6), 1);
        due("none was", x.count(6), 0);
        sentence("Promise 5", "passes stay as they are.");
        due("of the player 0", x.ofPlayer(0, 1), 2);
        due("of the player 1, who had one more", x.ofPlayer(1, 1), 0);
        sentence("Promise 5", "This is a change.");
        isChange("begin()", midGame(), PoisonPiles::begin);
        isChange("begin() without piles", new PoisonPiles(), PoisonPiles::begin);
        isChange("begin() behind poison", poisonEnded(), PoisonPiles::begin);
        sentence("Promise 5", "Returns how many tokens there are.");
        due("12", x.begin(), 12);
        due("none", new PoisonPiles().begin(), 0);
        due("20", piles("51", "51", "51", "51").begin(), 20);
    }

    private static PoisonPiles emptied() {
        PoisonPiles x = piles("31");
        x.take(0, 3);
        x.begin();
        return x;
    }

    private void take() {
        sentence("Promise 6", "int take(int pile, int tokens): The player to move takes tokens.");
        PoisonPiles x = piles("52", "41");
        x.take(0, 3);
        due("tokens", x.ofPile(0, 0), 2);
        due("the tokens with which it came stay", x.ofPile(0, 3), 5);
        due("the other pile stays", x.ofPile(1, 0), 4);
        due("gains", x.ofPlayer(0, 0), 6);
        due("moves so far", x.count(5), 1);
        due("to move", x.count(2), 1);
        sentence("Promise 6", "This is a change.");
        isChange("take()", piles("52"), y -> y.take(0, 2));
        isChange("take() that ends the game", piles("32"), y -> y.take(0, 3));
        isChange("take() of the last poisoned token", piles("12!", "51"), y -> y.take(0, 1));
        sentence("Promise 6", "Returns what is gained;");
        due("3 of 1", x.take(1, 3), 3);
        due("2 of 2", x.take(0, 2), 4);
        due("1 of 0", piles("50").take(0, 1), 0);
        due("5 of 9", piles(31, "59!").take(0, 5), 45);
        sentence("Promise 6", "NO_SUCH if there is no such pile;");
        for (int pile : new int[] {-1, 2, 3, 4, Integer.MIN_VALUE, Integer.MAX_VALUE, -429496729, 858993460}) {
            due("take(" + pile + ", 1)", x.take(pile, 1), NO_SUCH);
        }
        due("without piles", new PoisonPiles().take(0, 1), NO_SUCH);
        due("in a game that is over", poisonEnded().take(2, 1), NO_SUCH);
        sentence("Promise 6", "NOT_POSSIBLE if the game is over");
        due("by poison, with tokens", poisonEnded().take(1, 1), NOT_POSSIBLE);
        due("with takes that are too great", stuck().take(0, 1), NOT_POSSIBLE);
        due("with no token", piles("01").take(0, 1), NOT_POSSIBLE);
        sentence("Promise 6", ", or this move is not one of it.");
        for (int tokens : new int[] {-1, 0, 4, 5, 6, Integer.MIN_VALUE, Integer.MAX_VALUE}) {
            due("take(0, " + tokens + ") of 3", piles("31", "51").take(0, tokens), NOT_POSSIBLE);
        }
        due("not allowed", piles("51").take(0, 4), NOT_POSSIBLE);
    }

    private void pass() {
        sentence("Promise 7", "int pass(): The player to move passes.");
        PoisonPiles x = piles("31", "12");
        x.passes(2, 1);
        x.pass();
        due("to move", x.count(2), 1);
        due("a pass is ahead", x.count(6), 1);
        due("moves so far", x.count(5), 1);
        due("tokens", x.count(1), 4);
        x.take(1, 1);
        due("a take behind it", x.count(6), 0);
        sentence("Promise 7", "This is a change.");
        isChange("pass()", x, PoisonPiles::pass);
        sentence("Promise 7", "Returns how many passes are left to this player;");
        due("none", x.pass(), 0);
        x.take(0, 1);
        x.take(0, 1);
        due("none of the player 1", x.pass(), 0);
        x.passes(2, 0);
        x.take(0, 1);
        x.begin();
        due("one", x.pass(), 1);
        sentence("Promise 7", "NOT_POSSIBLE if the game is over");
        PoisonPiles ended = poisonEnded();
        ended.passes(2, 2);
        due("by poison", ended.pass(), NOT_POSSIBLE);
        due("with takes that are too great", stuck().pass(), NOT_POSSIBLE);
        due("without piles", new PoisonPiles().pass(), NOT_POSSIBLE);
        sentence("Promise 7", ", or that is no move of it.");
        due("without a pass", piles("31").pass(), NOT_POSSIBLE);
        x.passes(2, 2);
        due("behind a pass", x.pass(), NOT_POSSIBLE);
    }

    private void play() {
        sentence("Promise 8", "int play(int moves): The machine plays on for both: each time the move of best().");
        PoisonPiles x = piles("52", "41", "53!");
        x.passes(1, 1);
        PoisonPiles twin = piles("52", "41", "53!");
        twin.passes(1, 1);
        int moves = 0;
        while (twin.count(3) == 0) {
            int best = twin.best();
            if (best == 20) twin.pass(); else twin.take(best / 5, best % 5 + 1);
            moves++;
            x.play(1);
            same("behind move " + moves, look(x), look(twin));
        }
        sentence("Promise 8", "This is a change.");
        isChange("play(1)", piles("52", "41"), y -> y.play(1));
        isChange("play(40), one for all moves", piles("52", "41"), y -> y.play(40));
        sentence("Promise 8", "moves: 1 to 40");
        due("play(0)", piles("51").play(0), BAD_VALUE);
        due("play(41)", piles("51").play(41), BAD_VALUE);
        due("play(1)", piles(1, "51").play(1), 1);
        due("play(40)", piles(1, "51").play(40), 5);
        sentence("Promise 8", "Returns how many moves it plays");
        due("play(3) of 5", piles(1, "51").play(3), 3);
        due("play(5) of 5", piles(1, "51").play(5), 5);
        sentence("Promise 8", "(fewer if the game is over);");
        PoisonPiles ones = piles(1, "51");
        due("play(6) of 5", ones.play(6), 5);
        due("it is over", ones.count(3), 1);
        due("play(40) of 20", piles(1, "51", "51", "51", "51").play(40), 20);
        due("over by poison", piles(1, "11!").play(40), 1);
        sentence("Promise 8", "BAD_VALUE if moves is out of range;");
        for (int bad : new int[] {-1, 0, 41, Integer.MIN_VALUE, Integer.MAX_VALUE}) {
            due("play(" + bad + ")", piles("51").play(bad), BAD_VALUE);
            due("play(" + bad + ") when over", stuck().play(bad), BAD_VALUE);
        }
        sentence("Promise 8", "NOT_POSSIBLE if the game is over.");
        due("with no move", stuck().play(1), NOT_POSSIBLE);
        due("by poison", poisonEnded().play(40), NOT_POSSIBLE);
        due("without piles", new PoisonPiles().play(1), NOT_POSSIBLE);
    }

    private void ofPile() {
        PoisonPiles x = piles("52", "49!");
        x.take(0, 1);
        x.take(1, 2);
        int[][] want = {{4, 2, 0, 5, 0}, {2, 9, 1, 4, 2}};
        String[] words = {"int ofPile(int pile, int what): Returns something about a pile. - what: 0 its tokens", ", 1 its worth", ", 2 whether it is poisoned (1 or 0)",
            ", 3 the tokens with which it came", ", 4 its grundy value"};
        for (int what = 0; what <= 4; what++) {
            sentence("Promise 9", words[what]);
            due("of pile 0", x.ofPile(0, what), want[0][what]);
            due("of pile 1", x.ofPile(1, what), want[1][what]);
        }
        x.set(TAKES, 24);
        due("as the takes are now", x.ofPile(0, 4), 1);
        due("and of 2 tokens", x.ofPile(1, 4), 0);
        sentence("Promise 9", "Returns the number;");
        due("0 of a pile", piles("00").ofPile(0, 0), 0);
        sentence("Promise 9", "NO_SUCH if there is no such pile;");
        for (int pile : new int[] {-1, 2, 3, 4, Integer.MIN_VALUE, Integer.MAX_VALUE}) {
            due("ofPile(" + pile + ", 0)", x.ofPile(pile, 0), NO_SUCH);
            due("ofPile(" + pile + ", 5)", x.ofPile(pile, 5), NO_SUCH);
        }
        due("the last of 4", piles("11", "21", "31", "41").ofPile(3, 0), 4);
        sentence("Promise 9", "BAD_VALUE if what is out of range.");
        for (int what : new int[] {-1, 5, Integer.MIN_VALUE, Integer.MAX_VALUE}) {
            due("ofPile(0, " + what + ")", x.ofPile(0, what), BAD_VALUE);
        }
    }

    private void ofPlayer() {
        PoisonPiles x = piles("54", "12");
        x.passes(1, 2);
        x.take(0, 2);
        x.take(1, 1);
        sentence("Promise 10", "int ofPlayer(int player, int what): Returns something about a player. - what: 0 gains");
        due("of the player 0", x.ofPlayer(0, 0), 8);
        due("of the player 1", x.ofPlayer(1, 0), 2);
        sentence("Promise 10", ", 1 passes");
        due("of the player 0", x.ofPlayer(0, 1), 1);
        due("of the player 1", x.ofPlayer(1, 1), 2);
        sentence("Promise 10", ", 2 what the player has in all and 100: gains, and BONUS more or less behind the end");
        due("of the player 0, before the end", x.ofPlayer(0, 2), 108);
        due("of the player 1, before the end", x.ofPlayer(1, 2), 102);
        x.take(0, 3);
        due("of the player 0, who wins", x.ofPlayer(0, 2), 130);
        due("of the player 1, who loses", x.ofPlayer(1, 2), 92);
        due("of the loser by poison", poisonEnded().ofPlayer(0, 2), 92);
        due("of the winner by poison", poisonEnded().ofPlayer(1, 2), 110);
        due("of a loser with nothing", new PoisonPiles().ofPlayer(0, 2), 90);
        sentence("Promise 10", "Returns the number;");
        due("gains at the end", x.ofPlayer(0, 0), 20);
        sentence("Promise 10", "NO_SUCH if there is no such player;");
        for (int player : new int[] {-1, 2, Integer.MIN_VALUE, Integer.MAX_VALUE}) {
            due("ofPlayer(" + player + ", 0)", x.ofPlayer(player, 0), NO_SUCH);
            due("ofPlayer(" + player + ", 3)", x.ofPlayer(player, 3), NO_SUCH);
        }
        sentence("Promise 10", "BAD_VALUE if what is out of range.");
        for (int what : new int[] {-1, 3, Integer.MIN_VALUE, Integer.MAX_VALUE}) {
            due("ofPlayer(1, " + what + ")", x.ofPlayer(1, what), BAD_VALUE);
        }
    }

    private void count() {
        PoisonPiles x = put(midGame(), "+1");
        x.set(TAKES, 3);
        x.set(BONUS, 4);
        String[] words = {"int count(int what): Returns a number. - what: 0 piles", ", 1 tokens", ", 2 the player to move", ", 3 whether the game is over (1 or 0)",
            ", 4 the winner (NONE before the end)", ", 5 moves so far in this game", ", 6 whether the move ahead was a pass (1 or 0)",
            ", 7", ", 8 the settings", ", 9 the length of the pad", ", 10 how many changes can be undone"};
        int[] want = {2, 6, 0, 0, NONE, 2, 1, 3, 4, 2, 6};
        for (int what = 0; what <= 10; what++) {
            sentence("Promise 11", words[what]);
            due("count(" + what + ")", x.count(what), want[what]);
        }
        x.undo();
        due("count(10) behind undo()", x.count(10), 5);
        sentence("Promise 11", "Returns the number;");
        due("count(0) without piles", new PoisonPiles().count(0), 0);
        sentence("Promise 11", "BAD_VALUE if what is out of range.");
        for (int what : new int[] {-1, 11, Integer.MIN_VALUE, Integer.MAX_VALUE}) {
            due("count(" + what + ")", x.count(what), BAD_VALUE);
        }
    }

    private void countOfTheGame() {
        sentence("Promise 11", ", 3 whether the game is over (1 or 0)");
        due("over by poison", poisonEnded().count(3), 1);
        due("over with no move", stuck().count(3), 1);
        due("without piles", new PoisonPiles().count(3), 1);
        sentence("Promise 11", ", 4 the winner (NONE before the end)");
        due("by poison", poisonEnded().count(4), 1);
        due("with no move", stuck().count(4), 0);
        sentence("Promise 11", ", 5 moves so far in this game");
        PoisonPiles x = midGame();
        x.begin();
        due("behind begin()", x.count(5), 0);
        x.play(3);
        due("behind play(3)", x.count(5), 3);
        due("at the end too", poisonEnded().count(5), 1);
        sentence("Promise 11", ", 6 whether the move ahead was a pass (1 or 0)");
        PoisonPiles last = piles(16, "31");
        last.passes(1, 0);
        last.pass();
        due("also at the end", last.count(6), 1);
        last.begin();
        due("behind begin()", last.count(6), 0);
    }

    private void moves() {
        sentence("Promise 12", "int moves(): Returns the moves of the player to move.");
        PoisonPiles x = piles("51", "21!", "01", "39");
        x.passes(1, 0);
        due("moves of 0", x.moves(), 7 | 3 << 5 | 7 << 15 | PASS);
        x.take(0, 3);
        due("moves of 1", x.moves(), 3 | 3 << 5 | 7 << 15);
        sentence("Promise 12", "Returns the set");
        PoisonPiles all = piles(31, "51", "51", "51", "51");
        all.passes(1, 0);
        due("of all moves", all.moves(), (1 << 21) - 1);
        sentence("Promise 12", "(0 if the game is over).");
        PoisonPiles ended = poisonEnded();
        ended.passes(2, 2);
        due("by poison", ended.moves(), 0);
        due("with no move", stuck().moves(), 0);
        due("without piles", new PoisonPiles().moves(), 0);
    }

    private void won() {
        sentence("Promise 13", "int won(): Tells whether the game is won for who is to move, played for the win alone.");
        due("won, though the coins are lost", piles(1, "19!", "10").won(), 1);
        PoisonPiles x = piles("51");
        x.take(0, 1);
        due("lost for the player 1", x.won(), 0);
        sentence("Promise 13", "Returns 1 or 0;");
        due("1", piles("51").won(), 1);
        due("0", piles("41").won(), 0);
        sentence("Promise 13", "NOT_POSSIBLE if it is over.");
        overIsNotPossible(PoisonPiles::won);
    }

    private void overIsNotPossible(Call call) {
        due("by poison", call.on(poisonEnded()), NOT_POSSIBLE);
        due("with no move", call.on(stuck()), NOT_POSSIBLE);
        due("without piles", call.on(new PoisonPiles()), NOT_POSSIBLE);
        due("without tokens", call.on(piles("09")), NOT_POSSIBLE);
    }

    private void winning() {
        sentence("Promise 14", "int winning(): Returns the moves by which it is won.");
        due("one", piles("51").winning(), 1);
        due("several", piles("11", "11", "11").winning(), 1 | 1 << 5 | 1 << 10);
        sentence("Promise 14", "Returns the set");
        PoisonPiles x = piles("41");
        x.passes(1, 0);
        due("with the pass", x.winning(), PASS);
        due("in the last pile", piles("01", "01", "01", "51").winning(), 1 << 15);
        sentence("Promise 14", "(0 if it is not won);");
        due("4 tokens", piles("41").winning(), 0);
        due("the last poisoned token", piles("19!").winning(), 0);
        sentence("Promise 14", "NOT_POSSIBLE if it is over.");
        overIsNotPossible(PoisonPiles::winning);
    }

    private void value() {
        sentence("Promise 15", "int value(): Returns the value of the game for who is to move, played for the difference, and 1000.");
        due("won", piles("14").value(), 1014);
        due("lost", piles("14!").value(), 994);
        PoisonPiles x = piles("19", "12", "00");
        x.take(0, 1);
        due("for the player 1, whatever the gains are", x.value(), 1012);
        sentence("Promise 15", "Returns the value and 1000;");
        PoisonPiles even = piles(1, "23");
        even.set(BONUS, 0);
        due("0", even.value(), 1000);
        PoisonPiles great = piles(16, "59", "59", "59", "59");
        great.set(BONUS, 99);
        due("four equal takes", great.value(), 901);
        great.take(0, 5);
        due("three of them", great.value(), 1144);
        sentence("Promise 15", "NOT_POSSIBLE if it is over.");
        overIsNotPossible(PoisonPiles::value);
    }

    private void best() {
        sentence("Promise 16", "int best(): Finds the best move, played for the difference");
        PoisonPiles x = piles("19", "10");
        x.set(BONUS, 4);
        due("the coins, though that loses", x.best(), 0);
        due("the win, which is worth more", piles("31").best(), 2);
        sentence("Promise 16", ", of several the one with the lowest number.");
        due("of three piles", piles("11", "11", "11").best(), 0);
        due("of the last two", piles("01", "01", "11", "11", "01").best(), 10);
        PoisonPiles even = piles("20");
        even.set(BONUS, 0);
        due("one token or two", even.best(), 0);
        even.passes(1, 1);
        due("a take or a pass", even.best(), 0);
        sentence("Promise 16", "Returns the move;");
        due("a take of the last pile", piles("01", "01", "01", "31").best(), 17);
        PoisonPiles poisoned = piles("11!");
        poisoned.passes(1, 1);
        due("a pass", poisoned.best(), 20);
        sentence("Promise 16", "NOT_POSSIBLE if it is over.");
        overIsNotPossible(PoisonPiles::best);
    }

    private static PoisonPiles passes(PoisonPiles x, int first, int second) {
        x.passes(first, second);
        return x;
    }

    private void whatIfWithPasses() {
        sentence("Promise 13", "int won(): Tells whether the game is won for who is to move, played for the win alone.");
        due("4 tokens, an own pass", passes(piles("41"), 1, 0).won(), 1);
        due("4 tokens, the other one's pass", passes(piles("41"), 0, 1).won(), 0);
        due("5 tokens, an own pass", passes(piles("51"), 1, 0).won(), 1);
        due("5 tokens, the other one's pass", passes(piles("51"), 0, 1).won(), 0);
        due("5 tokens, a pass each", passes(piles("51"), 1, 1).won(), 0);
        due("5 tokens, two passes against one", passes(piles("51"), 2, 1).won(), 1);
        PoisonPiles second = piles("51");
        second.take(0, 1);
        due("4 tokens, the player 1's pass", passes(second, 0, 1).won(), 1);
        due("4 tokens, the player 0's pass", passes(second, 1, 0).won(), 0);
        PoisonPiles third = piles("51", "11");
        third.take(1, 1);
        due("5 tokens, to move is the player 1", third.won(), 1);
        due("5 tokens, the player 0's pass", passes(third, 1, 0).won(), 0);
        due("5 tokens, the player 1's pass", passes(third, 0, 1).won(), 1);
        sentence("Promise 14", "int winning(): Returns the moves by which it is won.");
        due("5 tokens, two passes against one", passes(piles("51"), 2, 1).winning(), PASS);
        due("5 tokens, an own pass", passes(piles("51"), 1, 0).winning(), 1);
        sentence("Promise 15", "int value(): Returns the value of the game for who is to move, played for the difference, and 1000.");
        due("one by one, no pass", piles(1, "33").value(), 1013);
        due("one by one, the other one's pass", passes(piles(1, "33"), 0, 1).value(), 993);
        due("one by one, a pass each", passes(piles(1, "33"), 1, 1).value(), 993);
        due("one by one, two passes against one", passes(piles(1, "33"), 2, 1).value(), 1007);
        sentence("Promise 16", "int best(): Finds the best move, played for the difference");
        due("one by one, a pass each", passes(piles(1, "33"), 1, 1).best(), 0);
        due("one by one, two passes against one", passes(piles(1, "33"), 2, 1).best(), 20);
    }

    /** A single token, and a single poisoned one, in all places: who takes the first one wins. */
    private void whatIfWithPoison() {
        sentence("Promise 15", "int value(): Returns the value of the game for who is to move, played for the difference, and 1000.");
        for (int good = 0; good < 4; good++) {
            for (int bad = 0; bad < 4; bad++) {
                if (good == bad) continue;
                PoisonPiles x = new PoisonPiles();
                for (int i = 0; i < 4; i++) x.pile(i == good || i == bad ? 1 : 0, 1, i == good ? 0 : 1);
                due("a token in pile " + good + ", a poisoned one in " + bad, x.value(), 1010);
                due("best()", x.best(), 5 * good);
                due("won()", x.won(), 1);
                due("winning()", x.winning(), 1 << 5 * good);
                x.take(good, 1);
                due("value() with the poisoned one alone", x.value(), 991);
                due("won()", x.won(), 0);
            }
        }
    }

    private void whatIfWithManyPoisonedTokens() {
        sentence("Promise 15", "int value(): Returns the value of the game for who is to move, played for the difference, and 1000.");
        for (int poisoned = 0; poisoned < 16; poisoned++) {
            PoisonPiles x = new PoisonPiles();
            SlowModel model = new SlowModel();
            for (int i = 0; i < 4; i++) {
                int tokens = 1 + (i + poisoned) % 5;
                x.pile(tokens, 3 * i, poisoned >> i & 1);
                model.pile(tokens, 3 * i, poisoned >> i & 1);
            }
            due("value() with the poisoned piles " + poisoned, x.value(), model.value());
            due("winning() with the poisoned piles " + poisoned, x.winning(), model.winning());
            due("best() with the poisoned piles " + poisoned, x.best(), model.best());
        }
    }

    /** Twenty takes and four passes: the longest game from a moment on. */
    private void whatIfOfTheLongestGame() {
        sentence("Promise 15", "int value(): Returns the value of the game for who is to move, played for the difference, and 1000.");
        PoisonPiles x = passes(piles(1, "50", "50", "50", "50"), 2, 2);
        x.set(BONUS, 99);
        SlowModel model = new SlowModel();
        for (int i = 0; i < 4; i++) model.pile(5, 0, 0);
        model.set(TAKES, 1);
        model.set(BONUS, 99);
        model.passes(2, 2);
        for (int move = 0; move < 24 && model.count(3) == 0; move++) {
            due("best() behind " + move + " moves", x.best(), model.best());
            due("value() behind " + move + " moves", x.value(), model.value());
            due("winning() behind " + move + " moves", x.winning(), model.winning());
            boolean pass = (x.moves() & PASS) != 0;
            due("a move", pass ? x.pass() : x.play(1), pass ? model.pass() : model.play(1));
        }
        due("moves", x.count(5), 24);
    }

    /** Neighbours that are alike in their sums or in their digits. */
    private void whatIfOfNeighbours() {
        sentence("Promise 15", "int value(): Returns the value of the game for who is to move, played for the difference, and 1000.");
        PoisonPiles x = new PoisonPiles();
        int[][] piles = {{1, 0, 2, 0}, {2, 0, 1, 0}, {0, 0, 8, 0}, {0, 1, 0, 0}, {0, 0, 9, 0}, {0, 1, 0, 0}, {0, 0, 5, 0},
            {0, 1, 0, 0}, {0, 0, 1, 0}, {0, 1, 0, 0}, {0, 0, 7, 0}, {0, 1, 0, 1}, {0, 0, 0, 1}, {0, 0, 1, 0}};
        for (int[] p : piles) {
            PoisonPiles fresh = new PoisonPiles();
            for (PoisonPiles y : new PoisonPiles[] {x, fresh}) {
                y.pile(3, p[0], p[1]);
                y.pile(2, p[2], p[3]);
            }
            due("value() of worths " + p[0] + " and " + p[2], x.value(), fresh.value());
            x.undo();
            x.undo();
        }
        PoisonPiles settings = piles("52", "43!");
        int[][] takesBonus = {{1, 98}, {2, 0}, {2, 99}, {3, 0}, {3, 1}, {4, 0}, {4, 2}, {3, 3}};
        for (int[] row : takesBonus) {
            settings.set(TAKES, row[0]);
            settings.set(BONUS, row[1]);
            PoisonPiles fresh = piles(row[0], "52", "43!");
            fresh.set(BONUS, row[1]);
            due("value() by " + row[0] + " with BONUS " + row[1], settings.value(), fresh.value());
        }
    }

    /** What was found for other settings or piles must not be told of these. */
    private void whatIfAsTheGameIsNow() {
        sentence("Promise 15", "int value(): Returns the value of the game for who is to move, played for the difference, and 1000.");
        int[] worths = {0, 1, 2, 8, 9};
        PoisonPiles x = new PoisonPiles();
        for (int first = 0; first < 10; first++) {
            for (int second = 0; second < 10; second++) {
                x.pile(3, worths[first / 2], first % 2);
                x.pile(2, worths[second / 2], second % 2);
                PoisonPiles fresh = new PoisonPiles();
                fresh.pile(3, worths[first / 2], first % 2);
                fresh.pile(2, worths[second / 2], second % 2);
                due("value() of piles " + first + " and " + second, x.value(), fresh.value());
                x.undo();
                x.undo();
            }
        }
        PoisonPiles settings = piles("52", "43!");
        for (int takes = 1; takes <= 31; takes++) {
            for (int bonus : new int[] {99, 0, 1}) {
                settings.set(TAKES, takes);
                settings.set(BONUS, bonus);
                PoisonPiles fresh = piles(takes, "52", "43!");
                fresh.set(BONUS, bonus);
                due("value() by " + takes + " with BONUS " + bonus, settings.value(), fresh.value());
                due("winning() by " + takes + " with BONUS " + bonus, settings.winning(), fresh.winning());
            }
        }
    }

    private void grundy() {
        sentence("Promise 17", "int grundy(int tokens): Returns the grundy value of a pile of a size.");
        PoisonPiles x = new PoisonPiles();
        for (int n = 0; n <= 200; n++) due("grundy(" + n + ") by 1 to 3", x.grundy(n), n % 4);
        x.set(TAKES, 24);
        int[] ofFourAndFive = {0, 0, 0, 0, 1, 1, 1, 1, 2};
        for (int n = 0; n <= 200; n++) due("grundy(" + n + ") by 4 and 5", x.grundy(n), ofFourAndFive[n % 9]);
        sentence("Promise 17", "tokens: 0 to 200");
        due("the least", x.grundy(0), 0);
        due("too small", x.grundy(-1), BAD_VALUE);
        due("the greatest", x.grundy(200), 0);
        due("too large", x.grundy(201), BAD_VALUE);
        sentence("Promise 17", "Returns the value;");
        due("grundy(8) by 4 and 5", x.grundy(8), 2);
        sentence("Promise 17", "BAD_VALUE if tokens is out of range.");
        due("-2^31", x.grundy(Integer.MIN_VALUE), BAD_VALUE);
        due("2^31 - 1", x.grundy(Integer.MAX_VALUE), BAD_VALUE);
    }

    private void period() {
        sentence("Promise 18", "int period(int what): Tells when the grundy values repeat: the least period p, from the least size a on, "
            + "of those with a + p at most 100, p first, with the value of n + p like that of n for all n from a to 200 - p.");
        // Found by another program, for the takes 1 to 31.
        int[] periods = {2, 4, 3, 6, 2, 5, 4, 8, 5, 6, 3, 7, 7, 6, 5, 10, 2, 7, 3, 8, 2, 7, 4, 9, 8, 7, 3, 8, 8, 7, 6};
        PoisonPiles x = new PoisonPiles();
        for (int takes = 1; takes <= 31; takes++) {
            x.set(TAKES, takes);
            due("period(0) by " + takes, x.period(0), periods[takes - 1]);
            due("period(1) by " + takes, x.period(1), 0);
        }
        sentence("Promise 18", "what: 0 the period p, 1 the size a");
        due("p", new PoisonPiles().period(0), 4);
        due("a", new PoisonPiles().period(1), 0);
        sentence("Promise 18", "Returns the number;");
        due("the greatest p", piles(16, "51").period(0), 10);
        sentence("Promise 18", "BAD_VALUE if what is neither 0 nor 1;");
        for (int what : new int[] {-1, 2, Integer.MIN_VALUE, Integer.MAX_VALUE}) {
            due("period(" + what + ")", x.period(what), BAD_VALUE);
        }
        sentence("Promise 18", "NONE if there is none.");
        for (int takes = 1; takes <= 31; takes++) {
            due("there is one by " + takes, piles(takes).period(0) == NONE ? 1 : 0, 0);
        }
    }

    private static int bits(int wins, int games) {
        return Float.floatToIntBits((float) wins / (float) games);
    }

    private void drawn() {
        sentence("Promise 19", "int drawn(int games, int seed): Returns the bits, as Float.floatToIntBits tells them, of the share of "
            + "games that the player to move wins by draws: the games won, as a float, divided by all, as a float.");
        due("all of them", piles("11").drawn(7, 1), bits(1, 1));
        due("none of them", piles("11!").drawn(200, 3), 0);
        due("6 of 7", piles(3, "21").drawn(7, 0), bits(6, 7));
        PoisonPiles second = piles(3, "31");
        second.take(0, 1);
        due("6 of 7 for the player 1", second.drawn(7, 0), bits(6, 7));
        sentence("Promise 19", "games: 1 to 200, each played on from now");
        PoisonPiles x = piles("51", "41!");
        due("the fewest", piles("11").drawn(1, 0), bits(1, 1));
        due("the most", piles("11").drawn(200, 0), bits(1, 1));
        due("too few", x.drawn(0, 0), BAD_VALUE);
        due("too many", x.drawn(201, 0), BAD_VALUE);
        due("the same again", x.drawn(50, 7), x.drawn(50, 7));
        sentence("Promise 19", "seed: 0 to 65536");
        due("the least", piles("11").drawn(1, 0), bits(1, 1));
        due("the greatest", piles("11").drawn(1, 65536), bits(1, 1));
        due("too small", x.drawn(1, -1), BAD_VALUE);
        due("too large", x.drawn(1, 65537), BAD_VALUE);
        sentence("Promise 19", "Returns the bits;");
        due("1", piles("11").drawn(3, 9), 1065353216);
        due("0", piles("11!").drawn(3, 9), 0);
        sentence("Promise 19", "BAD_VALUE if an argument is out of range;");
        for (int bad : new int[] {-1, Integer.MIN_VALUE, Integer.MAX_VALUE}) {
            due("drawn(" + bad + ", 0)", x.drawn(bad, 0), BAD_VALUE);
            due("drawn(1, " + bad + ")", x.drawn(1, bad), BAD_VALUE);
            due("drawn(" + bad + ", 0) when over", stuck().drawn(bad, 0), BAD_VALUE);
        }
        sentence("Promise 19", "NOT_POSSIBLE if the game is over.");
        overIsNotPossible(y -> y.drawn(1, 0));
        overIsNotPossible(y -> y.drawn(200, 65536));
    }

    // By the seed 0 the draws are 74, 5624, 28652, 51790, 17641, 12409, 13231, 9344 (a take without choice), 45504;
    // by 65536 they are 65536 for ever, and that is 1024 times 64.
    private void drawnMoves() {
        sentence("Promise 19", ": for each move x, the seed at first (it goes on from game to game)");
        for (int games = 1; games <= 6; games++) {
            due("the first " + games + " of them take both", piles(3, "21").drawn(games, 0), bits(1, 1));
        }
        due("the seventh takes one", piles(3, "21").drawn(7, 0), bits(6, 7));
        due("a move without a choice draws too", piles(3, "21").drawn(8, 0), bits(7, 8));
        sentence("Promise 19", ", becomes (75 * x + 74) left over by 65537");
        due("65536 stays, and the place is 1024 left over by 2", piles(3, "21").drawn(50, 65536), 0);
        due("853 becomes 64049, and the place is 1000 left over by 2", piles(3, "21").drawn(1, 853), 0);
        sentence("Promise 19", "; then the move is, of the moves by their numbers, that in the place x / 64 (rounded down) left over by "
            + "how many there are");
        due("1024 left over by 3 is 1", piles("31").drawn(20, 65536), 0);
        due("1024 left over by 5 is 4", piles(31, "51").drawn(20, 65536), bits(1, 1));
        due("74 / 64 is 1", piles(3, "21").drawn(1, 0), bits(1, 1));
        PoisonPiles x = piles("01", "01", "01", "11!");
        x.passes(1, 0);
        due("by seed 0 the pass is the place 1, and the other one takes", x.drawn(1, 0), bits(1, 1));
        due("by seed 65536 the take is the place 0", x.drawn(1, 65536), 0);
    }
}
