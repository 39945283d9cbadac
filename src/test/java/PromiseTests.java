/** The promises 1 to 26 of the document, one after the other: ordinary inputs, edges, wrong inputs. */
public final class PromiseTests {
    private static final int NO_SUCH = -1, BAD_VALUE = -2, BAD_TEXT = -3, TOO_MANY = -4, NOT_POSSIBLE = -5, NONE = -6;
    private static final int PASS = 1 << 20;
    private static final Checks checks = new Checks();

    public static void main(String[] args) {
        newObject();
        constants();
        set();
        pile();
        passes();
        begin();
        take();
        takeEndsByPoison();
        pass();
        play();
        ofPile();
        ofPlayer();
        count();
        moves();
        won();
        winning();
        value();
        best();
        grundy();
        period();
        drawn();
        put();
        wipe();
        fault();
        carryOut();
        carryOutStopsAtErrors();
        undo();
        undoKeepsPadAndSlots();
        save();
        restore();
        errorsChangeNothing();
        extremeArguments();
        checks.end();
    }

    private static void due(String what, long got, long want) {
        checks.due(what, got, want);
    }

    /** Piles are given as texts of the document: "31" three tokens of worth 1, "31!" the same, poisoned. */
    private static PoisonPiles withPiles(String... piles) {
        PoisonPiles x = new PoisonPiles();
        for (String pile : piles) {
            x.pile(pile.charAt(0) - '0', pile.charAt(1) - '0', pile.length() > 2 ? 1 : 0);
        }
        return x;
    }

    private static long number(String text) {
        long number = 0;
        for (char c : text.toCharArray()) {
            number = number << 8 | c;
        }
        return number;
    }

    private static PoisonPiles withText(PoisonPiles x, String text) {
        for (int i = 0; i < text.length(); i += 8) {
            x.put(number(text.substring(i, Math.min(text.length(), i + 8))));
        }
        return x;
    }

    private static void newObject() {
        PoisonPiles x = new PoisonPiles();
        int[] counts = {0, 0, 0, 1, 1, 0, 0, 7, 10, 0, 0};
        for (int what = 0; what < counts.length; what++) {
            due("1: count(" + what + ")", x.count(what), counts[what]);
        }
        due("1: gains", x.ofPlayer(0, 0), 0);
        due("1: passes", x.ofPlayer(1, 1), 0);
        due("1: no pile", x.ofPile(0, 0), NO_SUCH);
        due("1: nothing saved", x.restore(0), NOT_POSSIBLE);
        due("1: nothing to undo", x.undo(), NOT_POSSIBLE);
        PoisonPiles other = new PoisonPiles();
        other.pile(3, 1, 0);
        due("1: objects share nothing", x.count(0), 0);
    }

    private static void constants() {
        due("constants", PoisonPiles.NO_SUCH, -1);
        due("constants", PoisonPiles.BAD_VALUE, -2);
        due("constants", PoisonPiles.BAD_TEXT, -3);
        due("constants", PoisonPiles.TOO_MANY, -4);
        due("constants", PoisonPiles.NOT_POSSIBLE, -5);
        due("constants", PoisonPiles.NONE, -6);
        due("constants", PoisonPiles.TAKES, 0);
        due("constants", PoisonPiles.BONUS, 1);
    }

    private static void set() {
        PoisonPiles x = new PoisonPiles();
        due("2: TAKES first", x.set(PoisonPiles.TAKES, 31), 7);
        due("2: TAKES again", x.set(PoisonPiles.TAKES, 1), 31);
        due("2: BONUS first", x.set(PoisonPiles.BONUS, 0), 10);
        due("2: BONUS again", x.set(PoisonPiles.BONUS, 99), 0);
        due("2: the same is a change", x.set(PoisonPiles.BONUS, 99), 99);
        due("2: TAKES 0", x.set(0, 0), BAD_VALUE);
        due("2: TAKES 32", x.set(0, 32), BAD_VALUE);
        due("2: BONUS -1", x.set(1, -1), BAD_VALUE);
        due("2: BONUS 100", x.set(1, 100), BAD_VALUE);
        due("2: setting 2", x.set(2, 5), BAD_VALUE);
        due("2: setting -1", x.set(-1, 5), BAD_VALUE);
        due("2: TAKES stays", x.count(7), 1);
        due("2: BONUS stays", x.count(8), 99);
        due("2: changes", x.count(10), 5);
    }

    private static void pile() {
        PoisonPiles x = new PoisonPiles();
        due("3: first", x.pile(0, 0, 0), 0);
        due("3: tokens -1", x.pile(-1, 0, 0), BAD_VALUE);
        due("3: tokens 6", x.pile(6, 0, 0), BAD_VALUE);
        due("3: worth -1", x.pile(0, -1, 0), BAD_VALUE);
        due("3: worth 10", x.pile(0, 10, 0), BAD_VALUE);
        due("3: poison -1", x.pile(0, 0, -1), BAD_VALUE);
        due("3: poison 2", x.pile(0, 0, 2), BAD_VALUE);
        due("3: second", x.pile(5, 9, 1), 1);
        due("3: third", x.pile(1, 1, 0), 2);
        due("3: fourth", x.pile(2, 1, 0), 3);
        due("3: fifth", x.pile(1, 1, 0), TOO_MANY);
        due("3: fifth with bad worth", x.pile(1, 10, 0), BAD_VALUE);
        due("3: piles", x.count(0), 4);
        due("3: tokens", x.count(1), 8);
        due("3: changes", x.count(10), 4);
        PoisonPiles revived = withPiles("11");
        revived.take(0, 1);
        due("3: over", revived.count(3), 1);
        due("3: a pile that comes later", revived.pile(2, 1, 0), 1);
        due("3: over no more", revived.count(3), 0);
        due("3: the same player goes on", revived.count(2), 1);
    }

    private static void passes() {
        PoisonPiles x = withPiles("31");
        due("4: had none", x.passes(2, 1), 0);
        due("4: had both", x.passes(0, 2), 3);
        due("4: player 0", x.ofPlayer(0, 1), 0);
        due("4: player 1", x.ofPlayer(1, 1), 2);
        due("4: first -1", x.passes(-1, 0), BAD_VALUE);
        due("4: first 3", x.passes(3, 0), BAD_VALUE);
        due("4: second -1", x.passes(0, -1), BAD_VALUE);
        due("4: second 3", x.passes(0, 3), BAD_VALUE);
        due("4: in place of those", x.passes(1, 1), 2);
        x.pass();
        due("4: what is left counts", x.passes(1, 2), 1);
        due("4: a pass stays ahead", x.pass(), NOT_POSSIBLE);
    }

    private static void begin() {
        PoisonPiles x = withPiles("32", "51!");
        x.passes(2, 2);
        x.take(0, 2);
        x.pass();
        due("5: tokens", x.begin(), 8);
        due("5: pile 0", x.ofPile(0, 0), 3);
        due("5: gains", x.ofPlayer(0, 0), 0);
        due("5: to move", x.count(2), 0);
        due("5: moves", x.count(5), 0);
        due("5: no pass ahead", x.count(6), 0);
        due("5: passes stay", x.ofPlayer(1, 1), 1);
        due("5: passes stay", x.ofPlayer(0, 1), 2);
        x.set(0, 31);
        x.take(1, 5);
        due("5: poison ended it", x.count(3), 1);
        due("5: again", x.begin(), 8);
        due("5: over no more", x.count(3), 0);
        due("5: without piles", new PoisonPiles().begin(), 0);
    }

    private static void take() {
        PoisonPiles x = withPiles("52", "09");
        x.set(0, 5);
        due("6: no such pile", x.take(2, 1), NO_SUCH);
        due("6: no such pile", x.take(-1, 1), NO_SUCH);
        due("6: no such pile, tokens out of range", x.take(4, 9), NO_SUCH);
        due("6: 0 tokens", x.take(0, 0), NOT_POSSIBLE);
        due("6: -1 tokens", x.take(0, -1), NOT_POSSIBLE);
        due("6: 6 tokens", x.take(0, 6), NOT_POSSIBLE);
        due("6: not allowed", x.take(0, 2), NOT_POSSIBLE);
        due("6: not there", x.take(1, 1), NOT_POSSIBLE);
        due("6: gained", x.take(0, 3), 6);
        due("6: gains of 0", x.ofPlayer(0, 0), 6);
        due("6: gains of 1", x.ofPlayer(1, 0), 0);
        due("6: the other one", x.count(2), 1);
        due("6: left", x.ofPile(0, 0), 2);
        due("6: more than there are", x.take(0, 3), NOT_POSSIBLE);
        due("6: gained", x.take(0, 1), 2);
        due("6: gains of 1", x.ofPlayer(1, 0), 2);
        x.take(0, 1);
        due("6: over", x.take(0, 1), NOT_POSSIBLE);
        due("6: who took last wins", x.count(4), 0);
        due("6: no such pile in a game that is over", x.take(2, 1), NO_SUCH);
        x.pile(1, 1, 0);
        x.passes(0, 1);
        x.pass();
        x.take(2, 1);
        due("6: no pass is ahead then", x.count(6), 0);
    }

    private static void takeEndsByPoison() {
        PoisonPiles x = withPiles("23!", "55");
        due("6: some of a poisoned pile", x.take(0, 1), 3);
        due("6: that does not end it", x.count(3), 0);
        x.passes(2, 2);
        due("6: the last of it", x.take(0, 1), 3);
        due("6: over", x.count(3), 1);
        due("6: who took it loses", x.count(4), 0);
        due("6: the other one is to move", x.count(2), 0);
        due("6: all the gain", x.ofPlayer(1, 0), 3);
        due("6: a move more", x.count(5), 2);
        due("6: over for takes", x.take(1, 1), NOT_POSSIBLE);
        due("6: over for passes", x.pass(), NOT_POSSIBLE);
        x.pile(3, 1, 0);
        x.set(0, 1);
        due("6: over until begin()", x.count(3), 1);
        due("6: no moves", x.moves(), 0);
        x.begin();
        due("6: begun", x.count(3), 0);
    }

    private static void pass() {
        PoisonPiles x = withPiles("31");
        due("7: none", x.pass(), NOT_POSSIBLE);
        x.passes(2, 2);
        due("7: left", x.pass(), 1);
        due("7: a pass ahead", x.count(6), 1);
        due("7: the other one", x.count(2), 1);
        due("7: a move", x.count(5), 1);
        due("7: not behind a pass", x.pass(), NOT_POSSIBLE);
        x.take(0, 1);
        due("7: left", x.pass(), 0);
        x.take(0, 1);
        due("7: no pass left", x.pass(), NOT_POSSIBLE);
        x.take(0, 1);
        due("7: without tokens", x.pass(), NOT_POSSIBLE);
        PoisonPiles stuck = withPiles("21");
        stuck.set(0, 16);
        stuck.passes(1, 1);
        due("7: only a pass", stuck.moves(), PASS);
        stuck.pass();
        due("7: then the other one is stuck", stuck.count(3), 1);
        due("7: and loses", stuck.count(4), 0);
        due("7: no pass then", stuck.pass(), NOT_POSSIBLE);
        PoisonPiles empty = withPiles("01");
        empty.passes(2, 2);
        due("7: no token in any pile", empty.pass(), NOT_POSSIBLE);
    }

    private static void play() {
        PoisonPiles x = withPiles("52", "41", "53!");
        due("8: 0", x.play(0), BAD_VALUE);
        due("8: 41", x.play(41), BAD_VALUE);
        due("8: one change", x.count(10), 3);
        int best = x.best();
        due("8: one", x.play(1), 1);
        due("8: it is the best one", x.ofPile(best / 5, 0), x.ofPile(best / 5, 3) - best % 5 - 1);
        due("8: three", x.play(3), 3);
        due("8: moves", x.count(5), 4);
        due("8: a change each", x.count(10), 5);
        int played = x.play(40);
        due("8: to the end", x.count(3), 1);
        due("8: all of them", x.count(5), 4 + played);
        due("8: over", x.play(1), NOT_POSSIBLE);
        due("8: over, out of range", x.play(0), BAD_VALUE);
        PoisonPiles longest = withPiles("51", "51", "51", "51");
        longest.set(0, 1);
        longest.passes(2, 2);
        due("8: fewer than 40", longest.play(40), longest.count(5));
        due("8: undone as one", longest.undo(), 5);
        due("8: back", longest.count(1), 20);
    }

    private static void ofPile() {
        PoisonPiles x = withPiles("52", "49!");
        x.take(0, 1);
        int[][] want = {{4, 2, 0, 5, 0}, {4, 9, 1, 4, 0}};
        for (int pile = 0; pile < 2; pile++) {
            for (int what = 0; what < 5; what++) {
                due("9: ofPile(" + pile + ", " + what + ")", x.ofPile(pile, what), want[pile][what]);
            }
        }
        x.set(0, 1);
        x.take(0, 1);
        due("9: grundy value of what is there, as the takes are", x.ofPile(0, 4), 1);
        due("9: what -1", x.ofPile(0, -1), BAD_VALUE);
        due("9: what 5", x.ofPile(0, 5), BAD_VALUE);
        due("9: pile 2", x.ofPile(2, 0), NO_SUCH);
        due("9: pile -1", x.ofPile(-1, 0), NO_SUCH);
        due("9: pile 2, what 5", x.ofPile(2, 5), NO_SUCH);
    }

    private static void ofPlayer() {
        PoisonPiles x = withPiles("14");
        x.passes(1, 2);
        due("10: passes of 1", x.ofPlayer(1, 1), 2);
        due("10: in all", x.ofPlayer(0, 2), 100);
        x.take(0, 1);
        due("10: gains", x.ofPlayer(0, 0), 4);
        due("10: the winner", x.ofPlayer(0, 2), 114);
        due("10: the loser", x.ofPlayer(1, 2), 90);
        x.set(1, 99);
        due("10: BONUS as it is now", x.ofPlayer(0, 2), 203);
        due("10: BONUS as it is now", x.ofPlayer(1, 2), 1);
        due("10: player 2", x.ofPlayer(2, 0), NO_SUCH);
        due("10: player -1", x.ofPlayer(-1, 0), NO_SUCH);
        due("10: player 2, what 3", x.ofPlayer(2, 3), NO_SUCH);
        due("10: what 3", x.ofPlayer(0, 3), BAD_VALUE);
        due("10: what -1", x.ofPlayer(0, -1), BAD_VALUE);
        PoisonPiles poisoned = withPiles("14!");
        poisoned.take(0, 1);
        due("10: loser by poison", poisoned.ofPlayer(0, 2), 94);
        due("10: winner by poison", poisoned.ofPlayer(1, 2), 110);
    }

    private static void count() {
        PoisonPiles x = withPiles("52", "21");
        x.passes(1, 1);
        x.take(0, 2);
        x.pass();
        x.set(0, 3);
        x.set(1, 4);
        withText(x, "+1;+2;m");
        int[] counts = {2, 5, 0, 0, NONE, 2, 1, 3, 4, 7, 6};
        for (int what = 0; what < counts.length; what++) {
            due("11: count(" + what + ")", x.count(what), counts[what]);
        }
        due("11: -1", x.count(-1), BAD_VALUE);
        due("11: 11", x.count(11), BAD_VALUE);
    }

    private static void moves() {
        PoisonPiles x = withPiles("51", "21!");
        due("12: takes", x.moves(), 7 | 3 << 5);
        x.set(0, 31);
        due("12: more takes", x.moves(), 31 | 3 << 5);
        x.passes(1, 0);
        due("12: with a pass", x.moves(), 31 | 3 << 5 | PASS);
        x.set(0, 20);
        due("12: gaps", x.moves(), 20 | PASS);
        x.take(0, 5);
        due("12: over", x.moves(), 0);
        PoisonPiles all = withPiles("51", "51", "51", "51");
        all.set(0, 31);
        all.passes(2, 2);
        due("12: all", all.moves(), (1 << 21) - 1);
        due("12: without piles", new PoisonPiles().moves(), 0);
    }

    private static void won() {
        due("13: over", new PoisonPiles().won(), NOT_POSSIBLE);
        due("13: 3 by 1 to 3", withPiles("31").won(), 1);
        due("13: 4 by 1 to 3", withPiles("41").won(), 0);
        due("13: poisoned 4", withPiles("41!").won(), 1);
        due("13: poisoned 1", withPiles("11!").won(), 0);
        due("13: poisoned 5", withPiles("51!").won(), 0);
        due("13: equal ones", withPiles("31", "31").won(), 0);
        PoisonPiles x = withPiles("41");
        x.passes(1, 0);
        due("13: with a pass", x.won(), 1);
        x.passes(1, 1);
        due("13: a pass can't be answered by one", x.won(), 1);
        x.passes(0, 1);
        due("13: the other one's pass", x.won(), 0);
        PoisonPiles richer = withPiles("19", "10", "10");
        due("13: coins do not matter", richer.won(), 1);
        PoisonPiles ended = withPiles("11!", "51");
        ended.take(0, 1);
        due("13: poison ended it", ended.won(), NOT_POSSIBLE);
    }

    private static void winning() {
        due("14: over", new PoisonPiles().winning(), NOT_POSSIBLE);
        due("14: not won", withPiles("41").winning(), 0);
        due("14: all three", withPiles("31").winning(), 4);
        due("14: one of two piles", withPiles("31", "11").winning(), 2);
        due("14: from either pile", withPiles("11", "11", "11").winning(), 1 | 1 << 5 | 1 << 10);
        due("14: leave one of the poisoned", withPiles("31!").winning(), 2);
        PoisonPiles x = withPiles("41");
        x.passes(1, 0);
        due("14: the pass", x.winning(), PASS);
        PoisonPiles ended = withPiles("11!", "51");
        ended.take(0, 1);
        due("14: poison ended it", ended.winning(), NOT_POSSIBLE);
    }

    private static void value() {
        due("15: over", new PoisonPiles().value(), NOT_POSSIBLE);
        due("15: one token", withPiles("14").value(), 1014);
        due("15: one poisoned token", withPiles("14!").value(), 994);
        due("15: two tokens", withPiles("23").value(), 1016);
        PoisonPiles ones = withPiles("23");
        ones.set(0, 1);
        due("15: one by one", ones.value(), 990);
        ones.set(1, 0);
        due("15: without BONUS", ones.value(), 1000);
        ones.set(1, 99);
        due("15: with a great BONUS", ones.value(), 901);
        PoisonPiles great = withPiles("59", "59", "59", "59");
        great.set(0, 31);
        great.set(1, 99);
        due("15: mirrored", great.value(), 901);
        PoisonPiles x = withPiles("23");
        x.set(0, 1);
        x.passes(1, 0);
        due("15: with a pass", x.value(), 1010);
        due("15: gains so far do not matter", gainsAhead().value(), 1012);
        PoisonPiles ended = withPiles("11!", "51");
        ended.take(0, 1);
        due("15: poison ended it", ended.value(), NOT_POSSIBLE);
    }

    private static PoisonPiles gainsAhead() {
        PoisonPiles x = withPiles("19", "12", "00");
        x.take(0, 1);
        return x;
    }

    private static void best() {
        due("16: over", new PoisonPiles().best(), NOT_POSSIBLE);
        due("16: all", withPiles("31").best(), 2);
        due("16: pile 1", withPiles("01", "23").best(), 6);
        due("16: lowest number of several", withPiles("11", "11", "11").best(), 0);
        PoisonPiles coins = withPiles("19", "10");
        coins.set(1, 0);
        due("16: the coins", coins.best(), 0);
        PoisonPiles later = withPiles("10", "19");
        later.set(1, 0);
        due("16: the coins in pile 1", later.best(), 5);
        PoisonPiles x = withPiles("11!");
        x.passes(1, 1);
        due("16: the pass", x.best(), 20);
        PoisonPiles ended = withPiles("11!", "51");
        ended.take(0, 1);
        due("16: poison ended it", ended.best(), NOT_POSSIBLE);
    }

    private static void grundy() {
        PoisonPiles x = new PoisonPiles();
        for (int n = 0; n <= 200; n++) {
            due("17: grundy(" + n + ") by 1 to 3", x.grundy(n), n % 4);
        }
        x.set(0, 9);
        int[] ofOneAndFour = {0, 1, 0, 1, 2};
        for (int n = 0; n <= 200; n++) {
            due("17: grundy(" + n + ") by 1 and 4", x.grundy(n), ofOneAndFour[n % 5]);
        }
        x.set(0, 31);
        due("17: by 1 to 5", x.grundy(5), 5);
        due("17: by 1 to 5", x.grundy(199), 1);
        due("17: -1", x.grundy(-1), BAD_VALUE);
        due("17: 201", x.grundy(201), BAD_VALUE);
    }

    private static void period() {
        int[][] takesPeriod = {{1, 2}, {2, 4}, {7, 4}, {31, 6}, {16, 10}, {8, 8}, {9, 5}, {24, 9}};
        PoisonPiles x = new PoisonPiles();
        for (int[] row : takesPeriod) {
            x.set(0, row[0]);
            due("18: period by " + row[0], x.period(0), row[1]);
            due("18: from by " + row[0], x.period(1), 0);
        }
        due("18: -1", x.period(-1), BAD_VALUE);
        due("18: 2", x.period(2), BAD_VALUE);
    }

    private static void drawn() {
        PoisonPiles x = withPiles("11");
        due("19: always", x.drawn(7, 1), Float.floatToIntBits(1f));
        due("19: never", withPiles("11!").drawn(200, 65536), Float.floatToIntBits(0f));
        due("19: over", new PoisonPiles().drawn(1, 0), NOT_POSSIBLE);
        due("19: over, out of range", new PoisonPiles().drawn(0, 0), BAD_VALUE);
        due("19: games 0", x.drawn(0, 0), BAD_VALUE);
        due("19: games 201", x.drawn(201, 0), BAD_VALUE);
        due("19: seed -1", x.drawn(1, -1), BAD_VALUE);
        due("19: seed 65537", x.drawn(1, 65537), BAD_VALUE);
        // 2 tokens, one or two taken: seed 0 draws 74 (place 1), seed 853 draws 64049 (place 0).
        PoisonPiles two = withPiles("21");
        due("19: place 1 of 2", two.drawn(1, 0), Float.floatToIntBits(1f));
        due("19: place 0 of 2", two.drawn(1, 853), Float.floatToIntBits(0f));
        due("19: nothing changes", two.count(1), 2);
        due("19: nothing is recorded", two.count(10), 1);
        two.take(0, 1);
        due("19: by the player 1", two.drawn(3, 0), Float.floatToIntBits(1f));
    }

    private static void put() {
        PoisonPiles x = new PoisonPiles();
        due("20: one", x.put(number("p")), 1);
        due("20: eight", x.put(number("+1w5!;-0")), 9);
        due("20: 0", x.put(0), BAD_VALUE);
        due("20: a blank", x.put(32), BAD_VALUE);
        due("20: the lowest", x.put(33), 10);
        due("20: the highest", x.put(126), 11);
        due("20: 127", x.put(127), BAD_VALUE);
        due("20: 128", x.put(number("p") << 8 | 128), BAD_VALUE);
        due("20: a bad one ahead", x.put(31L << 8 | 'p'), BAD_VALUE);
        due("20: a hole", x.put((long) 'p' << 16 | 'p'), BAD_VALUE);
        due("20: a hole at the end", x.put((long) 'p' << 8), BAD_VALUE);
        due("20: a bit far above", x.put(1L << 63 | 'p'), BAD_VALUE);
        due("20: all bits", x.put(-1), BAD_VALUE);
        due("20: nothing was appended", x.count(9), 11);
        due("20: no change", x.count(10), 0);
        for (int i = 0; i < 8; i++) {
            x.put(number("pppppppp"));
        }
        due("20: 80 at most", x.put(number("pppppp")), TOO_MANY);
        due("20: bad ahead of too many", x.put(32), BAD_VALUE);
        due("20: 80", x.put(number("ppppp")), 80);
        due("20: 81", x.put(number("p")), TOO_MANY);
        PoisonPiles order = withText(new PoisonPiles(), "+5w2;");
        withText(order, "-0.3");
        order.carryOut();
        due("20: the lowest bits are the last character", order.ofPlayer(0, 0), 6);
    }

    private static void wipe() {
        PoisonPiles x = withText(new PoisonPiles(), "+5;");
        due("21: had", x.wipe(), 3);
        due("21: empty", x.count(9), 0);
        due("21: again", x.wipe(), 0);
        due("21: begun anew", x.put(number("p")), 1);
        due("21: nothing is left of it", x.fault(), NONE);
        due("21: no change", x.count(10), 0);
    }

    private static void fault() {
        Object[][] faults = {
            {"", 0}, {"+", 1}, {"+5", NONE}, {"+5w", 3}, {"+5w0", NONE}, {"+5!", NONE}, {"+9w9!", NONE}, {"+5w!", 3},
            {"+5!w2", 3}, {"+5!!", 3}, {"+55", 2}, {"+5w11", 4}, {"+w", 1}, {"+5;", 3}, {"+5;;", 3}, {";", 0},
            {"-", 1}, {"-0", 2}, {"-0.", 3}, {"-0.1", NONE}, {"-9.9", NONE}, {"-0.1!", 4}, {"-01", 2}, {"--", 1},
            {"p", NONE}, {"m", NONE}, {"pm", 1}, {"p;m", NONE}, {"p;m;", 4}, {"p;x", 2}, {"P", 0}, {"p1", 1},
            {"r", 1}, {"r1", 2}, {"r12", NONE}, {"r99", NONE}, {"r123", 3}, {"r1.2", 2}, {"r1;2", 2}, {"w1", 0},
            {"1", 0}, {"+:", 1}, {"+/", 1}, {"-0.a", 3}, {"-0.:", 3}, {"r1/", 2}, {"+1w/", 3}, {"!", 0}, {"+1;+2w3!;", 9},
        };
        for (Object[] row : faults) {
            due("22: fault of " + row[0], withText(new PoisonPiles(), (String) row[0]).fault(), (Integer) row[1]);
        }
        due("22: bad only as a text", withText(withPiles("01"), "-3.5;p;r99;+9").fault(), NONE);
    }

    private static void carryOut() {
        PoisonPiles x = withText(new PoisonPiles(), "+5;+4w3!;r12;p;-1.2;m");
        due("23: all", x.carryOut(), 6);
        due("23: empty then", x.count(9), 0);
        due("23: worth 1", x.ofPile(0, 1), 1);
        due("23: not poisoned", x.ofPile(0, 2), 0);
        due("23: worth 3", x.ofPile(1, 1), 3);
        due("23: poisoned", x.ofPile(1, 2), 1);
        due("23: passes of 0", x.ofPlayer(0, 1), 0);
        due("23: taken", x.ofPlayer(1, 0), 6);
        due("23: moves", x.count(5), 3);
        due("23: one change", x.count(10), 1);
        due("23: undone", x.undo(), 0);
        due("23: no piles then", x.count(0), 0);
        due("23: an empty pad", x.carryOut(), BAD_TEXT);
        withText(x, "+5;+");
        due("23: a fault", x.carryOut(), BAD_TEXT);
        due("23: the pad stays", x.count(9), 4);
        due("23: nothing came", x.count(0), 0);
        PoisonPiles shortForms = withText(new PoisonPiles(), "+3!;+2w0");
        due("23: poison without worth", shortForms.carryOut(), 2);
        due("23: worth 1", shortForms.ofPile(0, 1), 1);
        due("23: poisoned", shortForms.ofPile(0, 2), 1);
        due("23: worth 0", shortForms.ofPile(1, 1), 0);
        due("23: not poisoned", shortForms.ofPile(1, 2), 0);
    }

    private static void carryOutStopsAtErrors() {
        PoisonPiles x = withText(new PoisonPiles(), "+6;+5");
        due("23: none", x.carryOut(), 0);
        due("23: none came", x.count(0), 0);
        due("23: a change all the same", x.count(10), 1);
        due("23: the pad is empty", x.count(9), 0);
        withText(x, "+5;+5;-0.1;-2.1;+5");
        due("23: three", x.carryOut(), 3);
        due("23: the ones ahead stay", x.count(1), 9);
        withText(x, "r13;p");
        due("23: passes out of range", x.carryOut(), 0);
        withText(x, "p;m");
        due("23: no pass", x.carryOut(), 0);
        due("23: not played", x.count(5), 1);
        withText(x, "m;m;m;m;m;m;m;m;m;m;m;m");
        x.carryOut();
        due("23: to the end", x.count(3), 1);
        withText(x, "m");
        due("23: over", x.carryOut(), 0);
    }

    private static void undo() {
        PoisonPiles x = withPiles("52", "41!");
        x.passes(2, 1);
        x.take(0, 3);
        x.pass();
        x.play(2);
        due("24: play undone", x.undo(), 5);
        due("24: moves", x.count(5), 2);
        due("24: a pass ahead", x.count(6), 1);
        due("24: pass undone", x.undo(), 4);
        due("24: passes", x.ofPlayer(1, 1), 1);
        due("24: to move", x.count(2), 1);
        due("24: no pass ahead", x.count(6), 0);
        due("24: take undone", x.undo(), 3);
        due("24: tokens", x.ofPile(0, 0), 5);
        due("24: gains", x.ofPlayer(0, 0), 0);
        due("24: passes undone", x.undo(), 2);
        due("24: no passes", x.ofPlayer(0, 1), 0);
        due("24: pile undone", x.undo(), 1);
        due("24: one pile", x.count(0), 1);
        due("24: no tokens of it stay", x.count(1), 5);
        due("24: pile undone", x.undo(), 0);
        due("24: no more", x.undo(), NOT_POSSIBLE);
        for (int bonus = 0; bonus < 9; bonus++) {
            x.set(1, bonus);
        }
        due("24: 6 at most", x.count(10), 6);
        for (int left = 5; left >= 0; left--) {
            due("24: left", x.undo(), left);
        }
        due("24: the oldest ones are dropped", x.count(8), 2);
        due("24: no more", x.undo(), NOT_POSSIBLE);
        PoisonPiles ended = withPiles("11!", "31");
        ended.take(0, 1);
        ended.undo();
        due("24: the end is undone", ended.count(3), 0);
        ended.take(0, 1);
        ended.begin();
        ended.undo();
        due("24: begin is undone", ended.count(3), 1);
    }

    private static void undoKeepsPadAndSlots() {
        PoisonPiles x = withText(withPiles("31"), "+5");
        x.save(0);
        x.set(0, 3);
        x.undo();
        due("24: the pad stays", x.count(9), 2);
        x.undo();
        due("24: the slot stays", x.restore(0), 3);
        x.undo();
        due("24: restore is undone", x.count(0), 0);
        x.carryOut();
        x.undo();
        due("24: the pad does not come back", x.count(9), 0);
    }

    private static void save() {
        PoisonPiles x = withPiles("31", "51");
        due("25: tokens", x.save(0), 8);
        due("25: tokens", x.save(1), 8);
        due("25: slot 2", x.save(2), BAD_VALUE);
        due("25: slot -1", x.save(-1), BAD_VALUE);
        due("25: no change", x.count(10), 2);
        x.take(0, 2);
        due("25: overwritten", x.save(1), 6);
        x.take(1, 1);
        due("25: the one slot", x.restore(0), 8);
        due("25: the other slot", x.restore(1), 6);
        due("25: gains", x.ofPlayer(0, 0), 2);
    }

    private static void restore() {
        PoisonPiles x = withPiles("11!", "52");
        x.passes(1, 2);
        x.set(1, 20);
        x.pass();
        x.take(0, 1);
        x.save(1);
        x.begin();
        x.set(0, 31);
        x.set(1, 5);
        x.passes(0, 0);
        x.pile(4, 4, 0);
        withText(x, "+5");
        due("26: nothing saved", x.restore(0), NOT_POSSIBLE);
        due("26: slot 2", x.restore(2), BAD_VALUE);
        due("26: slot -1", x.restore(-1), BAD_VALUE);
        due("26: tokens", x.restore(1), 5);
        int[] counts = {2, 5, 0, 1, 0, 2, 0, 7, 20, 2, 6};
        for (int what = 0; what < counts.length; what++) {
            due("26: count(" + what + ")", x.count(what), counts[what]);
        }
        due("26: passes", x.ofPlayer(0, 1), 0);
        due("26: passes", x.ofPlayer(1, 1), 2);
        due("26: gains and BONUS", x.ofPlayer(1, 2), 81);
        due("26: undone", x.undo(), 5);
        due("26: piles", x.count(0), 3);
        due("26: the slot keeps it", x.restore(1), 5);
        x.take(1, 1);
        x.begin();
        due("26: the slot is no part of the game", x.restore(1), 5);
    }

    private static void errorsChangeNothing() {
        PoisonPiles x = withText(withPiles("31"), "+");
        x.set(2, 0);
        x.pile(6, 0, 0);
        x.passes(3, 3);
        x.take(0, 4);
        x.take(1, 1);
        x.pass();
        x.play(0);
        x.carryOut();
        x.restore(0);
        int[] counts = {1, 3, 0, 0, NONE, 0, 0, 7, 10, 1, 1};
        for (int what = 0; what < counts.length; what++) {
            due("errors: count(" + what + ")", x.count(what), counts[what]);
        }
    }

    private static void extremeArguments() {
        int[] extremes = {Integer.MIN_VALUE, Integer.MIN_VALUE + 1, -429496729, 429496730, Integer.MAX_VALUE};
        PoisonPiles x = withPiles("31", "51!");
        for (int e : extremes) {
            due("extreme set", x.set(e, 1), BAD_VALUE);
            due("extreme set", x.set(0, e), BAD_VALUE);
            due("extreme pile", x.pile(e, 0, 0), BAD_VALUE);
            due("extreme pile", x.pile(0, e, 0), BAD_VALUE);
            due("extreme pile", x.pile(0, 0, e), BAD_VALUE);
            due("extreme passes", x.passes(e, e), BAD_VALUE);
            due("extreme take", x.take(e, 1), NO_SUCH);
            due("extreme take", x.take(0, e), NOT_POSSIBLE);
            due("extreme play", x.play(e), BAD_VALUE);
            due("extreme ofPile", x.ofPile(e, 0), NO_SUCH);
            due("extreme ofPile", x.ofPile(0, e), BAD_VALUE);
            due("extreme ofPlayer", x.ofPlayer(e, 0), NO_SUCH);
            due("extreme ofPlayer", x.ofPlayer(0, e), BAD_VALUE);
            due("extreme count", x.count(e), BAD_VALUE);
            due("extreme grundy", x.grundy(e), BAD_VALUE);
            due("extreme period", x.period(e), BAD_VALUE);
            due("extreme drawn", x.drawn(e, 0), BAD_VALUE);
            due("extreme drawn", x.drawn(1, e), BAD_VALUE);
            due("extreme save", x.save(e), BAD_VALUE);
            due("extreme restore", x.restore(e), BAD_VALUE);
        }
        due("extreme put", x.put(Long.MIN_VALUE), BAD_VALUE);
        due("extreme put", x.put(Long.MAX_VALUE), BAD_VALUE);
    }
}
