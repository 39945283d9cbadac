/** Long runs of calls by a fixed row of draws, each answer held against SlowModel's. */
public final class ModelTests {
    private static final int RUNS = 240;
    private static final int CALLS = 512;
    private static final String[] PIECES = {"+5", "+3w9", "+2!", "+4w0!", "-0.1", "-1.2", "-3.5", "p", "m", "r12", "r00",
        "r29", "+7", ";", ";;", "w", "!", ".", "7", "x", "~"};

    private static final Checks checks = new Checks();
    private static long drawn = 20261119;

    public static void main(String[] args) {
        for (int run = 0; run < RUNS && checks.wrongSoFar() == 0; run++) {
            oneRun(run);
        }
        allTakes();
        allShortTexts();
        manyShares();
        greatGames();
        checks.end();
    }

    private static void allTakes() {
        PoisonPiles x = new PoisonPiles();
        SlowModel model = new SlowModel();
        for (int takes = 1; takes <= 31; takes++) {
            x.set(0, takes);
            model.set(0, takes);
            for (int what = 0; what < 2; what++) due(takes, "period by these takes", x.period(what), model.period(what));
            for (int n = 0; n <= 200; n++) due(takes, "grundy(" + n + ") by these takes", x.grundy(n), model.grundy(n));
        }
    }

    private static void allShortTexts() {
        String signs = "+-.;!wpmr0";
        PoisonPiles x = new PoisonPiles();
        SlowModel model = new SlowModel();
        for (int text = 0; text < 100000; text++) {
            long number = 0;
            for (int rest = text, i = 0; i < 5; i++, rest /= 10) number = number << 8 | signs.charAt(rest % 10);
            x.wipe();
            model.wipe();
            putNumber(text, x, model, number);
            due(text, "fault()", x.fault(), model.fault());
        }
    }

    private static void manyShares() {
        PoisonPiles x = new PoisonPiles();
        SlowModel model = new SlowModel();
        for (int i = 0; i < 4; i++) due(i, "pile", x.pile(2 + i, 1, i % 2), model.pile(2 + i, 1, i % 2));
        for (int games = 1; games <= 200; games++) {
            int seed = draw(65537);
            due(games, "drawn(" + games + ", " + seed + ")", x.drawn(games, seed), model.drawn(games, seed));
        }
    }

    /** Four full piles and all passes: the most that a game can be. */
    private static void greatGames() {
        for (int round = 0; round < 6; round++) {
            PoisonPiles x = new PoisonPiles();
            SlowModel model = new SlowModel();
            for (int i = 0; i < 4; i++) {
                int worth = draw(10), poison = draw(2);
                due(round, "pile", x.pile(5, worth, poison), model.pile(5, worth, poison));
            }
            int takes = round == 0 ? 31 : 1 + draw(31), bonus = draw(100);
            due(round, "set(0, " + takes + ")", x.set(0, takes), model.set(0, takes));
            due(round, "set(1, " + bonus + ")", x.set(1, bonus), model.set(1, bonus));
            due(round, "passes(2, 2)", x.passes(2, 2), model.passes(2, 2));
            due(round, "value()", x.value(), model.value());
            due(round, "winning()", x.winning(), model.winning());
            while (model.count(3) == 0 && checks.wrongSoFar() == 0) {
                due(round, "best()", x.best(), model.best());
                due(round, "play(1)", x.play(1), model.play(1));
            }
            due(round, "ofPlayer(0, 2)", x.ofPlayer(0, 2), model.ofPlayer(0, 2));
        }
    }

    private static int draw(int below) {
        drawn = drawn * 6364136223846793005L + 1442695040888963407L;
        return (int) ((drawn >>> 33) % below);
    }

    /** Mostly in the range, now and then just outside of it. */
    private static int near(int least, int greatest) {
        return draw(12) == 0 ? (draw(2) == 0 ? least - 1 : greatest + 1) : least + draw(greatest - least + 1);
    }

    private static void oneRun(int run) {
        PoisonPiles x = new PoisonPiles();
        SlowModel model = new SlowModel();
        // Some runs change the rules seldom, so that games in them go far.
        int calm = run % 3;
        for (int call = 0; call < CALLS && checks.wrongSoFar() == 0; call++) {
            int kind = draw(100);
            if (kind < 6) changeRules(run, x, model, calm);
            else if (kind < 34) moveOn(run, x, model);
            else if (kind < 52) text(run, x, model);
            else if (kind < 62) keep(run, x, model);
            else ask(run, x, model);
        }
    }

    private static void due(int run, String call, int got, int want) {
        checks.due("run " + run + ": " + call, got, want);
    }

    private static void changeRules(int run, PoisonPiles x, SlowModel model, int calm) {
        if (draw(1 + 2 * calm) != 0) return;
        int setting = near(0, 1);
        int value = setting == 0 ? near(1, 31) : near(0, 99);
        due(run, "set(" + setting + ", " + value + ")", x.set(setting, value), model.set(setting, value));
    }

    private static void moveOn(int run, PoisonPiles x, SlowModel model) {
        int a = near(0, 3), b = near(1, 5), c = near(0, 1);
        switch (draw(16)) {
            case 0, 1, 2: due(run, "pile(" + b + ", " + 2 * a + ", " + c + ")", x.pile(b, 2 * a, c), model.pile(b, 2 * a, c)); break;
            case 3: due(run, "passes(" + (a - 1) + ", " + c + ")", x.passes(a - 1, c), model.passes(a - 1, c)); break;
            case 4: due(run, "begin()", x.begin(), model.begin()); break;
            case 5, 6: due(run, "pass()", x.pass(), model.pass()); break;
            case 7: due(run, "play(" + b + ")", x.play(b), model.play(b)); break;
            case 8: play(run, x, model); break;
            default: due(run, "take(" + a + ", " + b + ")", x.take(a, b), model.take(a, b));
        }
    }

    private static void play(int run, PoisonPiles x, SlowModel model) {
        int moves = near(1, 40);
        due(run, "play(" + moves + ")", x.play(moves), model.play(moves));
    }

    private static void text(int run, PoisonPiles x, SlowModel model) {
        switch (draw(12)) {
            case 0: due(run, "wipe()", x.wipe(), model.wipe()); break;
            case 1, 2: due(run, "fault()", x.fault(), model.fault()); break;
            case 3: due(run, "carryOut()", x.carryOut(), model.carryOut()); break;
            case 4: putNumber(run, x, model, (long) draw(1 << 30) << draw(40)); break;
            case 5: putPieces(run, x, model); break;
            default: wholeText(run, x, model);
        }
    }

    private static void putPieces(int run, PoisonPiles x, SlowModel model) {
        long number = 0;
        for (char c : (PIECES[draw(PIECES.length)] + PIECES[draw(PIECES.length)]).toCharArray()) number = number << 8 | c;
        putNumber(run, x, model, number);
    }

    private static void wholeText(int run, PoisonPiles x, SlowModel model) {
        due(run, "wipe()", x.wipe(), model.wipe());
        int orders = 1 + draw(10);
        for (int i = 0; i < orders; i++) {
            long number = i == 0 ? 0 : ';';
            for (char c : PIECES[draw(12)].toCharArray()) number = number << 8 | c;
            putNumber(run, x, model, number);
        }
        due(run, "fault()", x.fault(), model.fault());
        due(run, "carryOut()", x.carryOut(), model.carryOut());
    }

    private static void putNumber(int run, PoisonPiles x, SlowModel model, long number) {
        due(run, "put(" + number + ")", x.put(number), model.put(number));
    }

    private static void keep(int run, PoisonPiles x, SlowModel model) {
        int slot = near(0, 1);
        switch (draw(4)) {
            case 0: due(run, "save(" + slot + ")", x.save(slot), model.save(slot)); break;
            case 1: due(run, "restore(" + slot + ")", x.restore(slot), model.restore(slot)); break;
            default: due(run, "undo()", x.undo(), model.undo());
        }
    }

    private static void ask(int run, PoisonPiles x, SlowModel model) {
        int a = near(0, 3), b = near(0, 4), c = near(0, 10), tokens = near(0, 200), games = near(1, 20), seed = near(0, 65536);
        switch (draw(14)) {
            case 0: due(run, "ofPile(" + a + ", " + b + ")", x.ofPile(a, b), model.ofPile(a, b)); break;
            case 1: due(run, "ofPlayer(" + (a - 1) + ", " + b + ")", x.ofPlayer(a - 1, b), model.ofPlayer(a - 1, b)); break;
            case 2, 3, 4: due(run, "count(" + c + ")", x.count(c), model.count(c)); break;
            case 5: due(run, "moves()", x.moves(), model.moves()); break;
            case 6: due(run, "won()", x.won(), model.won()); break;
            case 7: due(run, "winning()", x.winning(), model.winning()); break;
            case 8: due(run, "value()", x.value(), model.value()); break;
            case 9: due(run, "best()", x.best(), model.best()); break;
            case 10: due(run, "grundy(" + tokens + ")", x.grundy(tokens), model.grundy(tokens)); break;
            case 11: due(run, "period(" + (a - 1) + ")", x.period(a - 1), model.period(a - 1)); break;
            default: due(run, "drawn(" + games + ", " + seed + ")", x.drawn(games, seed), model.drawn(games, seed));
        }
    }
}
