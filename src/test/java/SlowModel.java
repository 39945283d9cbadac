import java.util.ArrayDeque;
import java.util.ArrayList;
import java.util.Deque;
import java.util.HashMap;
import java.util.List;
import java.util.Map;
import java.util.regex.Matcher;
import java.util.regex.Pattern;

/** The document once more, written from its words alone and for nothing but plainness: what PoisonPiles is held against. */
final class SlowModel {
    private static final int NO_SUCH = -1, BAD_VALUE = -2, BAD_TEXT = -3, TOO_MANY = -4, NOT_POSSIBLE = -5, NONE = -6;
    private static final Pattern TEXT = Pattern.compile(
        "(\\+[0-9](w[0-9])?!?|-[0-9]\\.[0-9]|p|m|r[0-9][0-9])(;(\\+[0-9](w[0-9])?!?|-[0-9]\\.[0-9]|p|m|r[0-9][0-9]))*");

    private record Heap(int tokens, int worth, boolean poisoned, int came) { }

    private record State(int takes, int bonus, List<Heap> heaps, List<Integer> passes, List<Integer> gains, int mover,
                         int moveCount, boolean passAhead, int loserByPoison) { }

    private State now = new State(7, 10, List.of(), List.of(0, 0), List.of(0, 0), 0, 0, false, -1);
    private final Deque<State> history = new ArrayDeque<>();
    private final State[] slots = new State[2];
    private String pad = "";
    private final Map<List<Object>, Integer> valuesKnown = new HashMap<>();
    private final Map<List<Object>, Boolean> winsKnown = new HashMap<>();

    // ---- the game

    private static List<Integer> movesOf(State s) {
        List<Integer> moves = new ArrayList<>();
        if (s.loserByPoison >= 0) return moves;
        for (int i = 0; i < s.heaps.size(); i++)
            for (int n = 1; n <= s.heaps.get(i).tokens; n++)
                if ((s.takes & 1 << n - 1) != 0) moves.add(5 * i + n - 1);
        if (s.passes.get(s.mover) > 0 && !s.passAhead && tokensOf(s) > 0) moves.add(20);
        return moves;
    }

    private static int tokensOf(State s) {
        return s.heaps.stream().mapToInt(Heap::tokens).sum();
    }

    private static boolean over(State s) {
        return movesOf(s).isEmpty();
    }

    private static int winnerOf(State s) {
        if (!over(s)) return NONE;
        return 1 - (s.loserByPoison >= 0 ? s.loserByPoison : s.mover);
    }

    private static <T> List<T> with(List<T> list, int index, T value) {
        List<T> copy = new ArrayList<>(list);
        copy.set(index, value);
        return List.copyOf(copy);
    }

    private static int gainOf(State s, int move) {
        return move == 20 ? 0 : (move % 5 + 1) * s.heaps.get(move / 5).worth;
    }

    private static State behind(State s, int move) {
        int other = 1 - s.mover;
        if (move == 20)
            return new State(s.takes, s.bonus, s.heaps, with(s.passes, s.mover, s.passes.get(s.mover) - 1), s.gains, other,
                s.moveCount + 1, true, -1);
        Heap h = s.heaps.get(move / 5);
        Heap left = new Heap(h.tokens - move % 5 - 1, h.worth, h.poisoned, h.came);
        int loser = left.tokens == 0 && left.poisoned ? s.mover : -1;
        return new State(s.takes, s.bonus, with(s.heaps, move / 5, left), s.passes,
            with(s.gains, s.mover, s.gains.get(s.mover) + gainOf(s, move)), other, s.moveCount + 1, false, loser);
    }

    private static List<Object> withoutGains(State s) {
        return List.of(s.takes, s.bonus, s.heaps, s.passes, s.mover, s.passAhead);
    }

    private int valueBy(State s, int move) {
        State next = behind(s, move);
        if (over(next)) return gainOf(s, move) + (winnerOf(next) == s.mover ? s.bonus : -s.bonus);
        return gainOf(s, move) - valueOf(next);
    }

    private int valueOf(State s) {
        List<Object> key = withoutGains(s);
        Integer known = valuesKnown.get(key);
        if (known != null) return known;
        int value = movesOf(s).stream().mapToInt(m -> valueBy(s, m)).max().getAsInt();
        valuesKnown.put(key, value);
        return value;
    }

    private boolean winsBy(State s, int move) {
        State next = behind(s, move);
        return over(next) ? winnerOf(next) == s.mover : !wonBy(next);
    }

    private boolean wonBy(State s) {
        List<Object> key = withoutGains(s);
        Boolean known = winsKnown.get(key);
        if (known != null) return known;
        boolean wins = movesOf(s).stream().anyMatch(m -> winsBy(s, m));
        winsKnown.put(key, wins);
        return wins;
    }

    private int bestOf(State s) {
        int found = -1;
        for (int move : movesOf(s)) if (found < 0 || valueBy(s, move) > valueBy(s, found)) found = move;
        return found;
    }

    private int[] grundies(int takes) {
        int[] g = new int[201];
        for (int n = 0; n <= 200; n++) {
            List<Integer> left = new ArrayList<>();
            for (int k = 1; k <= 5 && k <= n; k++) if ((takes & 1 << k - 1) != 0) left.add(g[n - k]);
            while (left.contains(g[n])) g[n]++;
        }
        return g;
    }

    private void forgetIfMuch() {
        if (valuesKnown.size() > 400000) valuesKnown.clear();
        if (winsKnown.size() > 400000) winsKnown.clear();
    }

    private int changed(State next, int answer) {
        if (history.size() == 6) history.removeLast();
        history.push(now);
        now = next;
        return answer;
    }

    private static int mask(List<Integer> moves) {
        return moves.stream().mapToInt(m -> 1 << m).sum();
    }

    private static boolean out(int n, int least, int greatest) {
        return n < least || n > greatest;
    }

    // ---- the face

    int set(int setting, int value) {
        State s = now;
        if (setting == 0 && !out(value, 1, 31))
            return changed(new State(value, s.bonus, s.heaps, s.passes, s.gains, s.mover, s.moveCount, s.passAhead,
                s.loserByPoison), s.takes);
        if (setting == 1 && !out(value, 0, 99))
            return changed(new State(s.takes, value, s.heaps, s.passes, s.gains, s.mover, s.moveCount, s.passAhead,
                s.loserByPoison), s.bonus);
        return BAD_VALUE;
    }

    int pile(int tokens, int worth, int poison) {
        State s = now;
        if (out(tokens, 0, 5) || out(worth, 0, 9) || out(poison, 0, 1)) return BAD_VALUE;
        if (s.heaps.size() == 4) return TOO_MANY;
        List<Heap> heaps = new ArrayList<>(s.heaps);
        heaps.add(new Heap(tokens, worth, poison == 1, tokens));
        return changed(new State(s.takes, s.bonus, List.copyOf(heaps), s.passes, s.gains, s.mover, s.moveCount, s.passAhead,
            s.loserByPoison), heaps.size() - 1);
    }

    int passes(int first, int second) {
        State s = now;
        if (out(first, 0, 2) || out(second, 0, 2)) return BAD_VALUE;
        return changed(new State(s.takes, s.bonus, s.heaps, List.of(first, second), s.gains, s.mover, s.moveCount,
            s.passAhead, s.loserByPoison), s.passes.get(0) + s.passes.get(1));
    }

    int begin() {
        List<Heap> heaps = now.heaps.stream().map(h -> new Heap(h.came, h.worth, h.poisoned, h.came)).toList();
        State next = new State(now.takes, now.bonus, heaps, now.passes, List.of(0, 0), 0, 0, false, -1);
        return changed(next, tokensOf(next));
    }

    int take(int pile, int tokens) {
        if (out(pile, 0, now.heaps.size() - 1)) return NO_SUCH;
        if (out(tokens, 1, 5) || !movesOf(now).contains(5 * pile + tokens - 1)) return NOT_POSSIBLE;
        int move = 5 * pile + tokens - 1;
        return changed(behind(now, move), gainOf(now, move));
    }

    int pass() {
        if (!movesOf(now).contains(20)) return NOT_POSSIBLE;
        return changed(behind(now, 20), now.passes.get(now.mover) - 1);
    }

    int play(int moves) {
        forgetIfMuch();
        if (out(moves, 1, 40)) return BAD_VALUE;
        if (over(now)) return NOT_POSSIBLE;
        State s = now;
        int played = 0;
        for (; played < moves && !over(s); played++) s = behind(s, bestOf(s));
        return changed(s, played);
    }

    int ofPile(int pile, int what) {
        if (out(pile, 0, now.heaps.size() - 1)) return NO_SUCH;
        if (out(what, 0, 4)) return BAD_VALUE;
        Heap h = now.heaps.get(pile);
        return new int[] {h.tokens, h.worth, h.poisoned ? 1 : 0, h.came, grundies(now.takes)[h.tokens]}[what];
    }

    int ofPlayer(int player, int what) {
        if (out(player, 0, 1)) return NO_SUCH;
        if (out(what, 0, 2)) return BAD_VALUE;
        int paid = !over(now) ? 0 : winnerOf(now) == player ? now.bonus : -now.bonus;
        return new int[] {now.gains.get(player), now.passes.get(player), now.gains.get(player) + 100 + paid}[what];
    }

    int count(int what) {
        if (out(what, 0, 10)) return BAD_VALUE;
        return new int[] {now.heaps.size(), tokensOf(now), now.mover, over(now) ? 1 : 0, winnerOf(now), now.moveCount,
            now.passAhead ? 1 : 0, now.takes, now.bonus, pad.length(), history.size()}[what];
    }

    int moves() {
        return mask(movesOf(now));
    }

    int won() {
        forgetIfMuch();
        return over(now) ? NOT_POSSIBLE : wonBy(now) ? 1 : 0;
    }

    int winning() {
        forgetIfMuch();
        return over(now) ? NOT_POSSIBLE : mask(movesOf(now).stream().filter(m -> winsBy(now, m)).toList());
    }

    int value() {
        forgetIfMuch();
        return over(now) ? NOT_POSSIBLE : valueOf(now) + 1000;
    }

    int best() {
        forgetIfMuch();
        return over(now) ? NOT_POSSIBLE : bestOf(now);
    }

    int grundy(int tokens) {
        return out(tokens, 0, 200) ? BAD_VALUE : grundies(now.takes)[tokens];
    }

    int period(int what) {
        if (out(what, 0, 1)) return BAD_VALUE;
        int[] g = grundies(now.takes);
        for (int p = 1; p <= 100; p++)
            for (int a = 0; a + p <= 100; a++) {
                boolean repeats = true;
                for (int n = a; n <= 200 - p; n++) repeats &= g[n + p] == g[n];
                if (repeats) return what == 0 ? p : a;
            }
        return NONE;
    }

    int drawn(int games, int seed) {
        if (out(games, 1, 200) || out(seed, 0, 65536)) return BAD_VALUE;
        if (over(now)) return NOT_POSSIBLE;
        int x = seed, wins = 0;
        for (int game = 0; game < games; game++) {
            State s = now;
            while (!over(s)) {
                x = (75 * x + 74) % 65537;
                List<Integer> moves = movesOf(s);
                s = behind(s, moves.get(x / 64 % moves.size()));
            }
            if (winnerOf(s) == now.mover) wins++;
        }
        return Float.floatToIntBits((float) wins / (float) games);
    }

    int put(long characters) {
        StringBuilder text = new StringBuilder();
        for (int shift = 56; shift >= 0; shift -= 8) text.append((char) (characters >>> shift & 255));
        String added = text.toString().replaceFirst("^\0+", "");
        if (added.isEmpty() || !added.chars().allMatch(c -> c >= 33 && c <= 126)) return BAD_VALUE;
        if (pad.length() + added.length() > 80) return TOO_MANY;
        pad += added;
        return pad.length();
    }

    int wipe() {
        int had = pad.length();
        pad = "";
        return had;
    }

    int fault() {
        for (int end = 1; end <= pad.length(); end++) {
            Matcher matcher = TEXT.matcher(pad.substring(0, end));
            if (!matcher.matches() && !matcher.hitEnd()) return end - 1;
        }
        return TEXT.matcher(pad).matches() ? NONE : pad.length();
    }

    int carryOut() {
        if (fault() != NONE) return BAD_TEXT;
        State ahead = now;
        Deque<State> keptHistory = new ArrayDeque<>(history);
        int carried = 0;
        for (String order : pad.split(";")) {
            if (order(order) < 0) break;
            carried++;
        }
        pad = "";
        State reached = now;
        history.clear();
        history.addAll(keptHistory);
        now = ahead;
        return changed(reached, carried);
    }

    private int order(String order) {
        switch (order.charAt(0)) {
            case 'p': return pass();
            case 'm': return play(1);
            case 'r': return passes(order.charAt(1) - '0', order.charAt(2) - '0');
            case '-': return take(order.charAt(1) - '0', order.charAt(3) - '0');
            default:
                int w = order.indexOf('w');
                return pile(order.charAt(1) - '0', w < 0 ? 1 : order.charAt(w + 1) - '0', order.endsWith("!") ? 1 : 0);
        }
    }

    int undo() {
        if (history.isEmpty()) return NOT_POSSIBLE;
        now = history.pop();
        return history.size();
    }

    int save(int slot) {
        if (out(slot, 0, 1)) return BAD_VALUE;
        slots[slot] = now;
        return tokensOf(now);
    }

    int restore(int slot) {
        if (out(slot, 0, 1)) return BAD_VALUE;
        if (slots[slot] == null) return NOT_POSSIBLE;
        return changed(slots[slot], tokensOf(slots[slot]));
    }
}
