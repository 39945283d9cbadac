import java.util.Arrays;

/** The game of ../shared/DOC.md; every public method is one promise of it. */
public final class PoisonPiles {
    public static final int NO_SUCH = -1, BAD_VALUE = -2, BAD_TEXT = -3, TOO_MANY = -4, NOT_POSSIBLE = -5, NONE = -6;
    public static final int TAKES = 0, BONUS = 1;

    private static final int MOST_PILES = 4;
    private static final int MOST_TOKENS = 5;
    private static final int MOST_WORTH = 9;
    private static final int MOST_PASSES = 2;
    private static final int ALL_TAKES = 31;
    private static final int MOST_BONUS = 99;
    private static final int PASS_MOVE = MOST_PILES * MOST_TOKENS;
    private static final int MOST_PLAYED = 40;
    private static final int MOST_DRAWN = 200;
    private static final int DRAW_MODULUS = 65537;
    private static final int GREATEST_SIZE = 200;
    private static final int LATEST_REPEAT = 100;
    private static final int MOST_CHARACTERS = 80;
    private static final int PUT_AT_ONCE = 8;
    private static final int MOST_UNDONE = 6;
    private static final int SLOTS = 2;

    private final Game now = new Game();
    // Holds the state ahead of a change until it is known whether the change stands.
    private final Game before = new Game();
    private final Game draft = new Game();
    private final History history = new History();
    private final Slot[] slots = new Slot[SLOTS];
    private final Solver solver = new Solver();
    private final Sizes sizes = new Sizes();
    private final Pad pad = new Pad();

    public PoisonPiles() {
        for (int i = 0; i < slots.length; i++) {
            slots[i] = new Slot();
        }
    }

    // ---- changes

    public int set(int setting, int value) {
        before.copyFrom(now);
        return recorded(changeSetting(setting, value));
    }

    public int pile(int tokens, int worth, int poison) {
        before.copyFrom(now);
        return recorded(addPile(tokens, worth, poison));
    }

    public int passes(int first, int second) {
        before.copyFrom(now);
        return recorded(givePasses(first, second));
    }

    public int begin() {
        before.copyFrom(now);
        now.restart();
        return recorded(now.tokenSum());
    }

    public int take(int pile, int tokens) {
        before.copyFrom(now);
        return recorded(takeTokens(pile, tokens));
    }

    public int pass() {
        before.copyFrom(now);
        return recorded(usePass());
    }

    public int play(int moves) {
        before.copyFrom(now);
        return recorded(playOn(moves));
    }

    // ---- what there is

    public int ofPile(int pile, int what) {
        if (!now.hasPile(pile)) {
            return NO_SUCH;
        }
        Pile asked = now.piles[pile];
        switch (what) {
            case 0: return asked.tokens;
            case 1: return asked.worth;
            case 2: return asked.poisoned ? 1 : 0;
            case 3: return asked.came;
            case 4: return sizes.nimber(now.takes, asked.tokens);
            default: return BAD_VALUE;
        }
    }

    public int ofPlayer(int player, int what) {
        if (player != 0 && player != 1) {
            return NO_SUCH;
        }
        switch (what) {
            case 0: return now.player(player).gains;
            case 1: return now.player(player).passesLeft;
            case 2: return now.purse(player) + 100;
            default: return BAD_VALUE;
        }
    }

    public int count(int what) {
        switch (what) {
            case 0: return now.pileCount;
            case 1: return now.tokenSum();
            case 2: return now.mover;
            case 3: return now.isOver() ? 1 : 0;
            case 4: return now.winner();
            case 5: return now.moveCount;
            case 6: return now.passAhead ? 1 : 0;
            case 7: return now.takes;
            case 8: return now.bonus;
            case 9: return pad.length;
            case 10: return history.size;
            default: return BAD_VALUE;
        }
    }

    public int moves() {
        return now.moveSet();
    }

    // ---- what if; nothing changes

    public int won() {
        if (now.isOver()) {
            return NOT_POSSIBLE;
        }
        return solver.isWon(now) ? 1 : 0;
    }

    public int winning() {
        return now.isOver() ? NOT_POSSIBLE : solver.winningMoves(now);
    }

    public int value() {
        return now.isOver() ? NOT_POSSIBLE : solver.difference(now) + 1000;
    }

    public int best() {
        return now.isOver() ? NOT_POSSIBLE : solver.bestMove(now);
    }

    public int grundy(int tokens) {
        if (tokens < 0 || tokens > GREATEST_SIZE) {
            return BAD_VALUE;
        }
        return sizes.nimber(now.takes, tokens);
    }

    public int period(int what) {
        if (what != 0 && what != 1) {
            return BAD_VALUE;
        }
        for (int p = 1; p <= LATEST_REPEAT; p++) {
            int start = sizes.repeatsFrom(now.takes, p);
            if (start + p <= LATEST_REPEAT) {
                return what == 0 ? p : start;
            }
        }
        return NONE;
    }

    public int drawn(int games, int seed) {
        if (games < 1 || games > MOST_DRAWN || seed < 0 || seed >= DRAW_MODULUS) {
            return BAD_VALUE;
        }
        return now.isOver() ? NOT_POSSIBLE : bitsOfShare(gamesWonByDraws(games, seed), games);
    }

    // ---- texts

    public int put(long characters) {
        int added = Pad.charactersIn(characters);
        if (added == 0) {
            return BAD_VALUE;
        }
        if (pad.length + added > MOST_CHARACTERS) {
            return TOO_MANY;
        }
        pad.append(characters, added);
        return pad.length;
    }

    public int wipe() {
        int had = pad.length;
        pad.length = 0;
        return had;
    }

    public int fault() {
        return pad.faultIndex();
    }

    public int carryOut() {
        if (pad.faultIndex() != NONE) {
            return BAD_TEXT;
        }
        before.copyFrom(now);
        int carried = 0;
        for (int i = 0; i < pad.length; i++) {
            if (pad.orderBeginsAt(i)) {
                if (carryOutOrder(i) < 0) {
                    break;
                }
                carried++;
            }
        }
        pad.length = 0;
        return recorded(carried);
    }

    // ---- undo, saving

    public int undo() {
        return history.takeBack(now) ? history.size : NOT_POSSIBLE;
    }

    public int save(int slot) {
        if (slot < 0 || slot >= slots.length) {
            return BAD_VALUE;
        }
        slots[slot].game.copyFrom(now);
        slots[slot].filled = true;
        return now.tokenSum();
    }

    public int restore(int slot) {
        if (slot < 0 || slot >= slots.length) {
            return BAD_VALUE;
        }
        if (!slots[slot].filled) {
            return NOT_POSSIBLE;
        }
        before.copyFrom(now);
        now.copyFrom(slots[slot].game);
        return recorded(now.tokenSum());
    }

    // The answers of changes are never negative unless they are errors.
    private int recorded(int answer) {
        if (answer >= 0) {
            history.add(before);
        }
        return answer;
    }

    private int changeSetting(int setting, int value) {
        if (setting == TAKES && value >= 1 && value <= ALL_TAKES) {
            int previous = now.takes;
            now.takes = value;
            return previous;
        }
        if (setting == BONUS && value >= 0 && value <= MOST_BONUS) {
            int previous = now.bonus;
            now.bonus = value;
            return previous;
        }
        return BAD_VALUE;
    }

    private int addPile(int tokens, int worth, int poison) {
        if (tokens < 0 || tokens > MOST_TOKENS || worth < 0 || worth > MOST_WORTH) {
            return BAD_VALUE;
        }
        if (poison != 0 && poison != 1) {
            return BAD_VALUE;
        }
        int number = now.pileCount;
        if (number < 0 || number >= now.piles.length) {
            return TOO_MANY;
        }
        now.piles[number].fill(tokens, worth, poison == 1);
        now.pileCount = number + 1;
        return number;
    }

    private int givePasses(int first, int second) {
        if (first < 0 || first > MOST_PASSES || second < 0 || second > MOST_PASSES) {
            return BAD_VALUE;
        }
        int had = now.first.passesLeft + now.second.passesLeft;
        now.first.passesLeft = first;
        now.second.passesLeft = second;
        return had;
    }

    private int takeTokens(int pile, int tokens) {
        if (!now.hasPile(pile)) {
            return NO_SUCH;
        }
        if (tokens < 1 || tokens > MOST_TOKENS || !now.allows(takeMove(pile, tokens))) {
            return NOT_POSSIBLE;
        }
        return now.takeFrom(pile, tokens);
    }

    private int usePass() {
        return now.allows(PASS_MOVE) ? now.usePass() : NOT_POSSIBLE;
    }

    private int playOn(int moves) {
        if (moves < 1 || moves > MOST_PLAYED) {
            return BAD_VALUE;
        }
        if (now.isOver()) {
            return NOT_POSSIBLE;
        }
        int played = 0;
        while (played < moves && !now.isOver()) {
            now.make(solver.bestMove(now));
            played++;
        }
        return played;
    }

    private int carryOutOrder(int at) {
        char sign = pad.at(at);
        if (sign == '+') {
            return carryOutPile(at);
        }
        if (sign == '-') {
            return takeTokens(pad.digitAt(at + 1), pad.digitAt(at + 3));
        }
        if (sign == 'r') {
            return givePasses(pad.digitAt(at + 1), pad.digitAt(at + 2));
        }
        return sign == 'p' ? usePass() : playOn(1);
    }

    private int carryOutPile(int at) {
        boolean worthTold = pad.at(at + 2) == 'w';
        int worth = worthTold ? pad.digitAt(at + 3) : 1;
        int poison = pad.at(worthTold ? at + 4 : at + 2) == '!' ? 1 : 0;
        return addPile(pad.digitAt(at + 1), worth, poison);
    }

    private int gamesWonByDraws(int games, int seed) {
        int wins = 0;
        int x = seed;
        for (int game = 0; game < games; game++) {
            draft.copyFrom(now);
            // No game has more moves than the tokens and passes that there can be: 24.
            for (int step = 0; step < MOST_PLAYED && !draft.isOver(); step++) {
                x = (75 * x + 74) % DRAW_MODULUS;
                draft.make(moveInPlace(draft.moveSet(), x / 64));
            }
            if (draft.winner() == now.mover) {
                wins++;
            }
        }
        return wins;
    }

    private static int moveInPlace(int set, int place) {
        int movesThere = Integer.bitCount(set);
        if (movesThere == 0) {
            return NONE;
        }
        int left = place % movesThere;
        for (int move = 0; move <= PASS_MOVE; move++) {
            if (isIn(set, move)) {
                if (left == 0) {
                    return move;
                }
                left--;
            }
        }
        return NONE;
    }

    // LANGUAGE.md leaves Float out; doubling and taking 1 away are exact, so no bit is lost here.
    private static int bitsOfShare(int wins, int games) {
        if (wins <= 0 || games <= 0) {
            return 0;
        }
        float share = (float) wins / (float) games;
        int exponent = 127;
        while (share < 1f && exponent > 1) {
            share = share * 2f;
            exponent--;
        }
        return (exponent << 23) + (int) ((share - 1f) * 8388608f);
    }

    private static boolean isIn(int set, int move) {
        return ((set >> move) & 1) == 1;
    }

    private static int takesOutOf(int tokens, int takes, int pile) {
        return (takes & ((1 << tokens) - 1)) << (MOST_TOKENS * pile);
    }

    private static int takeMove(int pile, int tokens) {
        return MOST_TOKENS * pile + tokens - 1;
    }

    private static final class Pile {
        private int tokens;
        private int came;
        private int worth;
        private boolean poisoned;

        private void fill(int newTokens, int newWorth, boolean newPoisoned) {
            tokens = newTokens;
            came = newTokens;
            worth = newWorth;
            poisoned = newPoisoned;
        }

        private void copyFrom(Pile other) {
            tokens = other.tokens;
            came = other.came;
            worth = other.worth;
            poisoned = other.poisoned;
        }
    }

    private static final class Player {
        private int gains;
        private int passesLeft;

        private void copyFrom(Player other) {
            gains = other.gains;
            passesLeft = other.passesLeft;
        }
    }

    /** All that undo() and restore() bring back. */
    private static final class Game {
        private int takes = 7;
        private int bonus = 10;
        // Piles that have not come yet stand here empty, so that no move is in them.
        private final Pile[] piles = new Pile[MOST_PILES];
        private int pileCount;
        private final Player first = new Player();
        private final Player second = new Player();
        private int mover;
        private int moveCount;
        private boolean passAhead;
        private boolean poisonEnded;

        private Game() {
            for (int i = 0; i < piles.length; i++) {
                piles[i] = new Pile();
            }
        }

        private void copyFrom(Game other) {
            takes = other.takes;
            bonus = other.bonus;
            for (int i = 0; i < piles.length && i < other.piles.length; i++) {
                piles[i].copyFrom(other.piles[i]);
            }
            pileCount = other.pileCount;
            first.copyFrom(other.first);
            second.copyFrom(other.second);
            mover = other.mover;
            moveCount = other.moveCount;
            passAhead = other.passAhead;
            poisonEnded = other.poisonEnded;
        }

        private void restart() {
            for (Pile pile : piles) {
                pile.tokens = pile.came;
            }
            first.gains = 0;
            second.gains = 0;
            mover = 0;
            moveCount = 0;
            passAhead = false;
            poisonEnded = false;
        }

        private boolean hasPile(int number) {
            return number >= 0 && number < pileCount && number < piles.length;
        }

        private Player player(int number) {
            return number == 0 ? first : second;
        }

        private int tokenSum() {
            int sum = 0;
            for (Pile pile : piles) {
                sum += pile.tokens;
            }
            return sum;
        }

        private int moveSet() {
            if (poisonEnded) {
                return 0;
            }
            int set = 0;
            for (int i = 0; i < piles.length; i++) {
                set |= takesOutOf(piles[i].tokens, takes, i);
            }
            if (player(mover).passesLeft > 0 && !passAhead && tokenSum() > 0) {
                set |= 1 << PASS_MOVE;
            }
            return set;
        }

        private boolean allows(int move) {
            return isIn(moveSet(), move);
        }

        private boolean isOver() {
            return moveSet() == 0;
        }

        private int winner() {
            if (!isOver()) {
                return NONE;
            }
            return poisonEnded ? mover : 1 - mover;
        }

        private int purse(int number) {
            int gains = player(number).gains;
            if (!isOver()) {
                return gains;
            }
            return winner() == number ? gains + bonus : gains - bonus;
        }

        private int takeFrom(int number, int tokens) {
            if (!hasPile(number)) {
                return 0;
            }
            Pile pile = piles[number];
            int gained = tokens * pile.worth;
            pile.tokens -= tokens;
            player(mover).gains += gained;
            poisonEnded = pile.poisoned && pile.tokens == 0;
            turnOver(false);
            return gained;
        }

        private int usePass() {
            Player passing = player(mover);
            passing.passesLeft--;
            turnOver(true);
            return passing.passesLeft;
        }

        private void make(int move) {
            if (!allows(move)) {
                return;
            }
            if (move == PASS_MOVE) {
                usePass();
            } else {
                takeFrom(move / MOST_TOKENS, move % MOST_TOKENS + 1);
            }
        }

        private void turnOver(boolean passed) {
            passAhead = passed;
            mover = 1 - mover;
            moveCount++;
        }
    }

    private static final class Slot {
        private final Game game = new Game();
        private boolean filled;
    }

    private static final class History {
        private final Game[] states = new Game[MOST_UNDONE];
        private int size;

        private History() {
            for (int i = 0; i < states.length; i++) {
                states[i] = new Game();
            }
        }

        private void add(Game state) {
            if (size >= states.length) {
                dropOldest();
            }
            if (size >= 0 && size < states.length) {
                states[size].copyFrom(state);
                size++;
            }
        }

        // Row by row the oldest one moves to the end, to be used again.
        private void dropOldest() {
            for (int i = 1; i < states.length; i++) {
                Game oldest = states[i - 1];
                states[i - 1] = states[i];
                states[i] = oldest;
            }
            size--;
        }

        private boolean takeBack(Game game) {
            if (size < 1 || size > states.length) {
                return false;
            }
            size--;
            game.copyFrom(states[size]);
            return true;
        }
    }

    /**
     * Tells how the game goes on with the best play.
     *
     * A spot is a number for all that the rest of a game hangs on, as who is to move sees it: the tokens of the
     * piles, whether the move ahead was no pass, the own passes, and the other player's. What is found of a spot is
     * kept as long as the worths, the poison and the settings stay.
     */
    private static final class Solver {
        private static final int ALL_HEAPS = 1296;
        private static final int HEAPS_STEP = 18;
        private static final int FREE_STEP = 9;
        private static final int MINE_STEP = 3;
        private static final int SPOTS = ALL_HEAPS * HEAPS_STEP;
        // A game has at most 20 takes and 4 passes, so no search goes deeper.
        private static final int DEEPEST = 24;
        private static final int UNKNOWN = -100000;
        private static final int LOST = 0;
        private static final int WON = 1;

        private final int[] values = new int[SPOTS];
        private final int[] results = new int[SPOTS];
        // By the numbers of the moves: what a move takes off a spot once that is turned, and what it gains.
        private final int[] steps = new int[PASS_MOVE + 1];
        private final int[] gained = new int[PASS_MOVE + 1];
        private int takes;
        private int bonus;
        private int poisonedPiles;
        private int knownRules = UNKNOWN;

        private Solver() {
            int pileStep = HEAPS_STEP;
            for (int move = 0; move < steps.length; move++) {
                int tokens = move % MOST_TOKENS + 1;
                // A pass takes the mark that no pass is ahead, and one pass, which is the other player's once turned.
                steps[move] = move == PASS_MOVE ? FREE_STEP + 1 : pileStep * tokens;
                if (tokens == MOST_TOKENS) {
                    pileStep *= MOST_TOKENS + 1;
                }
            }
        }

        private boolean isWon(Game game) {
            return wonAt(spotOf(game), 0);
        }

        private int winningMoves(Game game) {
            int spot = spotOf(game);
            int moves = movesAt(spot);
            int poison = poisonAt(spot);
            int turned = turned(spot);
            int winningSet = 0;
            for (int move = 0; move <= PASS_MOVE; move++) {
                if (isIn(moves, move) && winsBy(move, turned, isIn(poison, move), 0)) {
                    winningSet |= 1 << move;
                }
            }
            return winningSet;
        }

        private int difference(Game game) {
            return valueAt(spotOf(game), 0);
        }

        private int bestMove(Game game) {
            int spot = spotOf(game);
            int moves = movesAt(spot);
            int poison = poisonAt(spot);
            int turned = turned(spot);
            int greatest = UNKNOWN;
            int found = NONE;
            for (int move = 0; move <= PASS_MOVE; move++) {
                if (isIn(moves, move)) {
                    int reached = valueBy(move, turned, isIn(poison, move), 0);
                    if (reached > greatest) {
                        greatest = reached;
                        found = move;
                    }
                }
            }
            return found;
        }

        private int spotOf(Game game) {
            learnRules(game);
            int heaps = 0;
            for (int i = game.piles.length - 1; i >= 0; i--) {
                heaps = heaps * (MOST_TOKENS + 1) + game.piles[i].tokens;
            }
            int free = game.passAhead ? 0 : 1;
            int mine = game.player(game.mover).passesLeft;
            int theirs = game.player(1 - game.mover).passesLeft;
            return heaps * HEAPS_STEP + free * FREE_STEP + mine * MINE_STEP + theirs;
        }

        private void learnRules(Game game) {
            int rules = game.takes * (MOST_BONUS + 1) + game.bonus;
            for (Pile pile : game.piles) {
                rules = rules * 2 * (MOST_WORTH + 1) + 2 * pile.worth + (pile.poisoned ? 1 : 0);
            }
            if (rules != knownRules) {
                Arrays.fill(values, UNKNOWN);
                Arrays.fill(results, UNKNOWN);
                takes = game.takes;
                bonus = game.bonus;
                learnPiles(game);
                knownRules = rules;
            }
        }

        private void learnPiles(Game game) {
            poisonedPiles = 0;
            for (int i = 0; i < game.piles.length; i++) {
                Pile pile = game.piles[i];
                poisonedPiles |= pile.poisoned ? 1 << i : 0;
                for (int tokens = 1; tokens <= MOST_TOKENS; tokens++) {
                    int move = takeMove(i, tokens);
                    if (move >= 0 && move < gained.length) {
                        gained[move] = pile.worth * tokens;
                    }
                }
            }
        }

        private static boolean isSpot(int spot, int depth) {
            return spot >= 0 && spot < SPOTS && depth <= DEEPEST;
        }

        private int movesAt(int spot) {
            int heaps = spot / HEAPS_STEP;
            boolean free = spot / FREE_STEP % 2 == 1;
            boolean canPass = free && heaps > 0 && spot / MINE_STEP % 3 > 0;
            int set = canPass ? 1 << PASS_MOVE : 0;
            for (int i = 0; i < MOST_PILES; i++) {
                set |= takesOutOf(heaps % (MOST_TOKENS + 1), takes, i);
                heaps /= MOST_TOKENS + 1;
            }
            return set;
        }

        /** The takes of last tokens of poisoned piles. */
        private int poisonAt(int spot) {
            int heaps = spot / HEAPS_STEP;
            int set = 0;
            for (int i = 0; i < MOST_PILES; i++) {
                int tokens = heaps % (MOST_TOKENS + 1);
                if (isIn(poisonedPiles, i) && tokens > 0) {
                    set |= 1 << takeMove(i, tokens);
                }
                heaps /= MOST_TOKENS + 1;
            }
            return set;
        }

        /** The spot as the other player would see it if nothing were taken, and no pass were ahead. */
        private static int turned(int spot) {
            int mine = spot / MINE_STEP % 3;
            int theirs = spot % 3;
            return spot - spot % HEAPS_STEP + FREE_STEP + theirs * MINE_STEP + mine;
        }

        private boolean winsBy(int move, int turned, boolean poisons, int depth) {
            if (poisons || move < 0 || move >= steps.length) {
                return false;
            }
            return !wonAt(turned - steps[move], depth + 1);
        }

        private boolean wonAt(int spot, int depth) {
            if (!isSpot(spot, depth)) {
                return false;
            }
            if (results[spot] == UNKNOWN) {
                int moves = movesAt(spot);
                int poison = poisonAt(spot);
                int turned = turned(spot);
                int result = LOST;
                for (int move = 0; move <= PASS_MOVE && result == LOST; move++) {
                    if (isIn(moves, move) && winsBy(move, turned, isIn(poison, move), depth)) {
                        result = WON;
                    }
                }
                results[spot] = result;
            }
            return results[spot] == WON;
        }

        private int valueBy(int move, int turned, boolean poisons, int depth) {
            if (move < 0 || move >= steps.length || move >= gained.length) {
                return UNKNOWN;
            }
            if (poisons) {
                return gained[move] - bonus;
            }
            return gained[move] - valueAt(turned - steps[move], depth + 1);
        }

        private int valueAt(int spot, int depth) {
            if (!isSpot(spot, depth)) {
                return 0;
            }
            if (values[spot] == UNKNOWN) {
                int moves = movesAt(spot);
                int poison = poisonAt(spot);
                int turned = turned(spot);
                int greatest = moves == 0 ? -bonus : UNKNOWN;
                for (int move = 0; move <= PASS_MOVE; move++) {
                    if (isIn(moves, move)) {
                        greatest = Math.max(greatest, valueBy(move, turned, isIn(poison, move), depth));
                    }
                }
                values[spot] = greatest;
            }
            return values[spot];
        }
    }

    /** The grundy values of single piles, for the takes that were asked for last. */
    private static final class Sizes {
        private final int[] nimbers = new int[GREATEST_SIZE + 1];
        private int knownTakes;

        private int nimber(int takes, int tokens) {
            learn(takes);
            return tokens >= 0 && tokens < nimbers.length ? nimbers[tokens] : 0;
        }

        /** The least size from which on the values stay as they are a period later. */
        private int repeatsFrom(int takes, int period) {
            learn(takes);
            int start = nimbers.length - period;
            while (start > 0 && nimber(takes, start - 1) == nimber(takes, start - 1 + period)) {
                start--;
            }
            return start;
        }

        private void learn(int takes) {
            if (takes != knownTakes) {
                for (int size = 0; size < nimbers.length; size++) {
                    nimbers[size] = leastOutside(nimbersBehind(takes, size));
                }
                knownTakes = takes;
            }
        }

        private int nimbersBehind(int takes, int size) {
            int set = 0;
            for (int taken = 1; taken <= MOST_TOKENS; taken++) {
                int left = size - taken;
                if (left >= 0 && left < nimbers.length && isIn(takes, taken - 1)) {
                    set |= 1 << nimbers[left];
                }
            }
            return set;
        }

        private static int leastOutside(int set) {
            int least = 0;
            while (least < MOST_TOKENS && isIn(set, least)) {
                least++;
            }
            return least;
        }
    }

    private static final class Pad {
        // What can stand at a place of a text.
        private static final int NOTHING = 0;
        private static final int ORDER = 1;
        private static final int PILE_TOKENS = 2;
        private static final int WORTH_POISON_OR_END = 3;
        private static final int PILE_WORTH = 4;
        private static final int POISON_OR_END = 5;
        private static final int TAKE_PILE = 6;
        private static final int TAKE_POINT = 7;
        private static final int FIRST_PASSES = 8;
        private static final int LAST_DIGIT = 9;
        private static final int END = 10;

        private final char[] characters = new char[MOST_CHARACTERS];
        private int length;

        /** How many characters a number holds, 0 if it is not made as put() asks. */
        private static int charactersIn(long number) {
            int found = 0;
            while (found < PUT_AT_ONCE && codeIn(number, found) != 0) {
                int code = codeIn(number, found);
                if (code < 33 || code > 126) {
                    return 0;
                }
                found++;
            }
            // A shift by 64 would be one by 0.
            boolean endsThere = found == PUT_AT_ONCE || (number >>> (8 * found)) == 0;
            return endsThere ? found : 0;
        }

        private static int codeIn(long number, int fromTheEnd) {
            return (int) ((number >>> (8 * fromTheEnd)) & 255);
        }

        private void append(long number, int added) {
            for (int left = added - 1; left >= 0; left--) {
                if (length >= 0 && length < characters.length) {
                    characters[length] = (char) codeIn(number, left);
                    length++;
                }
            }
        }

        private char at(int index) {
            if (index < 0 || index >= length || index >= characters.length) {
                return ';';
            }
            return characters[index];
        }

        private int digitAt(int index) {
            return at(index) - '0';
        }

        private boolean orderBeginsAt(int index) {
            return index == 0 || at(index - 1) == ';';
        }

        private int faultIndex() {
            int place = ORDER;
            for (int i = 0; i < length; i++) {
                place = placeBehind(place, at(i));
                if (place == NOTHING) {
                    return i;
                }
            }
            boolean mayEnd = place == END || place == WORTH_POISON_OR_END || place == POISON_OR_END;
            return mayEnd ? NONE : length;
        }

        private static int placeBehind(int place, char c) {
            switch (place) {
                case ORDER: return placeBehindSign(c);
                case PILE_TOKENS: return behindDigit(c, WORTH_POISON_OR_END);
                case WORTH_POISON_OR_END: return c == 'w' ? PILE_WORTH : placeBehindPile(c);
                case PILE_WORTH: return behindDigit(c, POISON_OR_END);
                case POISON_OR_END: return placeBehindPile(c);
                case TAKE_PILE: return behindDigit(c, TAKE_POINT);
                case TAKE_POINT: return c == '.' ? LAST_DIGIT : NOTHING;
                case FIRST_PASSES: return behindDigit(c, LAST_DIGIT);
                case LAST_DIGIT: return behindDigit(c, END);
                case END: return c == ';' ? ORDER : NOTHING;
                default: return NOTHING;
            }
        }

        private static int placeBehindSign(char c) {
            if (c == '+') {
                return PILE_TOKENS;
            }
            if (c == '-') {
                return TAKE_PILE;
            }
            if (c == 'r') {
                return FIRST_PASSES;
            }
            return c == 'p' || c == 'm' ? END : NOTHING;
        }

        private static int placeBehindPile(char c) {
            if (c == '!') {
                return END;
            }
            return c == ';' ? ORDER : NOTHING;
        }

        private static int behindDigit(char c, int place) {
            return c >= '0' && c <= '9' ? place : NOTHING;
        }
    }
}
