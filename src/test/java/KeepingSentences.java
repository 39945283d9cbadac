import java.util.List;

/** The document's promises 20 to 26: texts, undo, saving; and that an object is used for 512 calls. */
final class KeepingSentences extends Sentences {
    KeepingSentences(Checks checks, Document document) {
        super(checks, document);
    }

    @Override void run() {
        put();
        putOfBadOnes();
        wipe();
        fault();
        carryOut();
        carryOutUpToAnError();
        undo();
        historyOfSix();
        historyRecords();
        save();
        restore();
        calls512();
        closeSentence();
    }

    private void put() {
        sentence("Promise 20", "int put(long characters): Appends characters to the pad.");
        PoisonPiles x = new PoisonPiles();
        due("first", x.put(number("+5w")), 3);
        due("then", x.put(number("9!;-0.3")), 10);
        due("carried out in this order", x.carryOut(), 2);
        due("worth", x.ofPile(0, 1), 9);
        due("gained", x.ofPlayer(0, 0), 27);
        sentence("Promise 20", "They are given as a number: its lowest 8 bits are the last character, the next 8 bits the one before, "
            + "and so on;");
        due("\"-0\" and \".2\"", carryOut(x, "+5;-1.2"), 2);
        due("'r' is above '1' is above '2'", pad("").put('r' << 16 | '1' << 8 | '2'), 3);
        PoisonPiles r = new PoisonPiles();
        r.put('r' << 16 | '1' << 8 | '2');
        r.carryOut();
        due("player 1 has '2'", r.ofPlayer(1, 1), 2);
        due("player 0 has '1'", r.ofPlayer(0, 1), 1);
        sentence("Promise 20", "characters: 1 to 8 characters");
        due("1", new PoisonPiles().put('p'), 1);
        due("7", new PoisonPiles().put(number("p;p;p;p")), 7);
        due("8", new PoisonPiles().put(number("p;p;p;+1")), 8);
        due("8 are all read", pad("p;p;p;+1").fault(), NONE);
        due("none", new PoisonPiles().put(0), BAD_VALUE);
        sentence("Promise 20", "Returns the length of the pad then;");
        due("2 behind 3", pad("+5;").put(number("+1")), 5);
        due("8 behind 72", pad("p;".repeat(36)).put(number("p;p;p;p;")), 80);
        sentence("Promise 20", "TOO_MANY if the pad would be longer than 80.");
        due("8 behind 73", pad("p;".repeat(36) + "p").put(number(";p;p;p;p")), TOO_MANY);
        due("7 behind 73", pad("p;".repeat(36) + "p").put(number(";p;p;p;")), 80);
        due("1 behind 79", pad("p;".repeat(39) + "p").put(';'), 80);
        due("1 behind 80", pad("p;".repeat(40)).put('p'), TOO_MANY);
        due("2 behind 79", pad("p;".repeat(39) + "p").put(number(";p")), TOO_MANY);
    }

    private void putOfBadOnes() {
        sentence("Promise 20", "8 bits that are 0 mean that there are no more characters, and everything above them has to be 0, too.");
        due("no more above 'p'", new PoisonPiles().put(0x70L), 1);
        due("0 above 'p' and 'p' above that", new PoisonPiles().put(0x700070L), BAD_VALUE);
        due("the highest bit alone", new PoisonPiles().put(0x8000000000000070L), BAD_VALUE);
        due("a bit above seven characters and 0", new PoisonPiles().put(0x0070707070707070L), 7);
        sentence("Promise 20", "BAD_VALUE if there is no character");
        due("0", new PoisonPiles().put(0), BAD_VALUE);
        due("0 below 'p'", new PoisonPiles().put(0x7000L), BAD_VALUE);
        due("0 below all", new PoisonPiles().put(0x7070707070707000L), BAD_VALUE);
        sentence("Promise 20", ", a code is not 33 to 126");
        for (int place = 0; place < 8; place++) {
            long below = 0x7070707070707070L & ((1L << 8 * place) - 1);
            due("33 at " + place, new PoisonPiles().put(33L << 8 * place | below), place + 1);
            due("126 at " + place, new PoisonPiles().put(126L << 8 * place | below), place + 1);
            for (long code : new long[] {1, 32, 127, 128, 255}) {
                due(code + " at " + place, new PoisonPiles().put(code << 8 * place | below), BAD_VALUE);
            }
        }
        due("-1", new PoisonPiles().put(-1), BAD_VALUE);
        sentence("Promise 20", ", or a bit above 8 bits that are 0 is not 0;");
        for (int place = 1; place < 7; place++) {
            long below = 0x7070707070707070L & ((1L << 8 * place) - 1);
            due("nothing above " + place, new PoisonPiles().put(below), place);
            due("the lowest bit above the 0 at " + place, new PoisonPiles().put(below | 1L << 8 * (place + 1)), BAD_VALUE);
            due("the highest bit above the 0 at " + place, new PoisonPiles().put(below | Long.MIN_VALUE), BAD_VALUE);
            due("a character above the 0 at " + place, new PoisonPiles().put(below | 0x70L << 8 * (place + 1)), BAD_VALUE);
        }
    }

    private void wipe() {
        sentence("Promise 21", "int wipe(): Empties the pad");
        PoisonPiles x = pad("+5;+");
        x.wipe();
        due("the length", x.count(9), 0);
        due("nothing is left", x.fault(), 0);
        x.put('p');
        due("also behind the next put()", x.fault(), NONE);
        PoisonPiles full = pad("p;".repeat(40));
        full.wipe();
        due("the length of one that was full", full.count(9), 0);
        due("80 fit again", put(full, "p;".repeat(40)).count(9), 80);
        sentence("Promise 21", ", and returns the length that it had.");
        due("1", x.wipe(), 1);
        due("an empty one", x.wipe(), 0);
        due("a full one", pad("p;".repeat(40)).wipe(), 80);
    }

    private void fault() {
        sentence("Promise 22", "int fault(): Returns the fault of the pad");
        due("at the first character", pad("x").fault(), 0);
        due("at the last one", pad("+5;x").fault(), 3);
        due("behind the last one", pad("+5;").fault(), 3);
        due("the same again", pad("+5;").fault(), 3);
        sentence("Promise 22", ", NONE if there is none.");
        due("p", pad("p").fault(), NONE);
        due("all kinds", pad("+5;+4w3;+3!;+2w1!;-0.1;p;m;r12").fault(), NONE);
    }

    private void carryOut() {
        sentence("Promise 23", "int carryOut(): Carries the orders of the pad out, one after the other");
        PoisonPiles x = new PoisonPiles();
        due("each sees what the one ahead did", carryOut(x, "+5;-0.1;-0.1;r10;p;m"), 6);
        due("moves", x.count(5), 4);
        sentence("Promise 23", ", and empties the pad.");
        due("its length", x.count(9), 0);
        due("behind an error too", carryOut(x, "+9;+5"), 0);
        due("its length", x.count(9), 0);
        sentence("Promise 23", "This is a change (one, with all of them");
        isChange("carryOut() of three orders", pad("+5;r11;p"), PoisonPiles::carryOut);
        isChange("carryOut() of a play", put(piles("51", "51"), "m;m;m"), PoisonPiles::carryOut);
        sentence("Promise 23", "; also if none is carried out).");
        isChange("carryOut() of none", pad("p"), PoisonPiles::carryOut);
        isChange("carryOut() of none in a game that is over", put(poisonEnded(), "m"), PoisonPiles::carryOut);
        sentence("Promise 23", "Returns how many orders were carried out;");
        due("one", pad("+1").carryOut(), 1);
        PoisonPiles many = piles16();
        due("sixteen", many.carryOut(), 16);
        due("the pad is empty then", many.count(9), 0);
        sentence("Promise 23", "BAD_TEXT if the pad has a fault");
        for (String bad : new String[] {"", "x", "+5;", "+5;x", "+5;p;r1"}) {
            due("carryOut() of " + bad, pad(bad).carryOut(), BAD_TEXT);
        }
        sentence("Promise 23", "(then it stays).");
        PoisonPiles stays = pad("+5;r1");
        stays.carryOut();
        due("its length", stays.count(9), 5);
        due("no order was carried out", stays.count(0), 0);
        stays.put('2');
        due("it can be ended", stays.carryOut(), 2);
        due("passes", stays.ofPlayer(1, 1), 2);
    }

    private static PoisonPiles piles16() {
        return put(piles(1, "51", "51", "51"), "-0.1;".repeat(5) + "-1.1;".repeat(5) + "-2.1;".repeat(5) + "r22");
    }

    private void carryOutUpToAnError() {
        sentence("Promise 23", ", up to the first one that returns an error");
        PoisonPiles x = new PoisonPiles();
        due("the first one", carryOut(x, "+6;+5"), 0);
        due("the others are not carried out", x.count(0), 0);
        due("the second one", carryOut(x, "+5;-1.1;+5"), 1);
        due("the ones ahead stay", x.count(0), 1);
        due("the third one", carryOut(x, "-0.1;-0.2;-0.3"), 2);
        due("the last one", carryOut(x, "r11;r22;p;p"), 3);
        due("only the fifth pile is too many", carryOut(x, "+1;+1;+1;+1;r00"), 3);
        due("nothing behind it", x.ofPlayer(1, 1), 2);
    }

    private void undo() {
        sentence("Promise 24", "int undo(): Undoes the latest change: everything except the pad, the slots and the history is as it was "
            + "before it.");
        PoisonPiles x = put(piles("31", "51"), "+5");
        x.passes(1, 1);
        x.take(1, 3);
        x.pass();
        List<Long> before = look(x);
        x.take(0, 3);
        x.put(number(";p"));
        x.save(0);
        due("undo()", x.undo(), 5);
        same("the game", look(x), before);
        due("the pad stays", x.count(9), 4);
        due("the slot stays", x.restore(0), 2);
        x.wipe();
        x.undo();
        due("the pad stays empty", x.count(9), 0);
        PoisonPiles ended = piles("12!", "51");
        ended.take(0, 1);
        ended.undo();
        due("an end by poison is undone", ended.count(3), 0);
        ended.take(0, 1);
        ended.begin();
        ended.undo();
        due("and is there again", ended.count(4), 1);
        PoisonPiles text = pad("+5;+4");
        text.carryOut();
        text.undo();
        due("the pad does not come back", text.count(9), 0);
        PoisonPiles settings = new PoisonPiles();
        settings.set(TAKES, 16);
        settings.value();
        settings.grundy(5);
        settings.undo();
        due("the takes that were are in force", settings.grundy(5), 1);
        due("and their period", settings.period(0), 4);
        sentence("Promise 24", "Returns how many changes can be undone then;");
        PoisonPiles two = piles("31", "51");
        due("one", two.undo(), 1);
        due("none", two.undo(), 0);
        sentence("Promise 24", "NOT_POSSIBLE if there is none.");
        due("no more", two.undo(), NOT_POSSIBLE);
        due("in a new object", new PoisonPiles().undo(), NOT_POSSIBLE);
        due("the undone ones do not come back", two.count(0), 0);
    }

    private void historyOfSix() {
        sentence("Promise 24", "A history of at most 6 states is kept");
        PoisonPiles x = new PoisonPiles();
        for (int i = 1; i <= 6; i++) {
            x.set(BONUS, i);
            due("behind " + i + " changes", x.count(10), i);
        }
        x.set(BONUS, 7);
        due("behind 7 changes", x.count(10), 6);
        sentence("Promise 24", "; when one more is recorded, the oldest one is dropped.");
        x.set(BONUS, 8);
        for (int i = 5; i >= 0; i--) {
            due("undo()", x.undo(), i);
            due("BONUS then", x.count(8), i + 2);
        }
        due("the older ones were dropped", x.undo(), NOT_POSSIBLE);
        for (int i = 10; i <= 30; i++) x.set(BONUS, i);
        x.undo();
        x.undo();
        x.set(BONUS, 50);
        due("behind two undone ones and one more", x.count(10), 5);
        int[] bonuses = {28, 27, 26, 25, 24};
        for (int bonus : bonuses) {
            x.undo();
            due("BONUS of the newest ones", x.count(8), bonus);
        }
        due("no more", x.undo(), NOT_POSSIBLE);
    }

    private void historyRecords() {
        sentence("Promise 24", ": each method that is a change, and returns no error, records the state before it");
        PoisonPiles x = piles("31", "51");
        x.save(0);
        x.put('p');
        x.fault();
        x.value();
        x.drawn(5, 5);
        due("methods that are no change", x.count(10), 2);
        x.take(0, 5);
        x.pile(9, 9, 9);
        x.restore(1);
        x.wipe();
        x.carryOut();
        due("changes that return an error", x.count(10), 2);
        sentence("Promise 24", "(also if nothing is different then)");
        isChange("set() of the same", piles("31"), y -> y.set(TAKES, 7));
        isChange("passes() of the same", piles("31"), y -> y.passes(0, 0));
        isChange("begin() at the beginning", piles("31"), PoisonPiles::begin);
        isChange("carryOut() of none", pad("+9"), PoisonPiles::carryOut);
        x.save(1);
        isChange("restore() of the same", x, y -> y.restore(1));
        sentence("Promise 24", "An order of a text records nothing by itself.");
        due("carryOut()", carryOut(x, "+1;r11;p;m;-1.1"), 5);
        due("one more", x.count(10), 3);
        due("undo() of all of them", x.undo(), 2);
        due("no move", x.count(5), 0);
    }

    private void save() {
        sentence("Promise 25", "int save(int slot): Saves everything except the pad, the history and the slots in a slot");
        PoisonPiles x = put(played(), "+5");
        List<Long> saved = look(x);
        x.save(0);
        x.save(1);
        x.begin();
        x.set(TAKES, 31);
        x.set(BONUS, 99);
        x.passes(2, 2);
        x.pile(5, 9, 1);
        x.put(number(";p"));
        int undoable = x.count(10);
        due("restore(0)", x.restore(0), 6);
        same("everything", look(x), saved);
        due("the pad is no part of it", x.count(9), 4);
        due("the history is no part of it", x.count(10), Math.min(6, undoable + 1));
        x.begin();
        x.save(0);
        x.restore(1);
        same("the other slot has its own", look(x), saved);
        due("the slots are no part of it", x.restore(0), 9);
        sentence("Promise 25", ", and overwrites what was saved there.");
        x.take(0, 2);
        due("save(0)", x.save(0), 7);
        x.begin();
        due("restore(0)", x.restore(0), 7);
        due("restore(1)", x.restore(1), 6);
        sentence("Promise 25", "slot: 0 or 1");
        due("0", x.save(0), 6);
        due("1", x.save(1), 6);
        due("2", x.save(2), BAD_VALUE);
        due("-1", x.save(-1), BAD_VALUE);
        sentence("Promise 25", "Returns how many tokens there are;");
        due("none", new PoisonPiles().save(0), 0);
        due("20", piles("51", "51", "51", "51").save(1), 20);
        sentence("Promise 25", "BAD_VALUE if there is no such slot.");
        due("-2^31", x.save(Integer.MIN_VALUE), BAD_VALUE);
        due("2^31 - 1", x.save(Integer.MAX_VALUE), BAD_VALUE);
    }

    /** Six of nine tokens are left; a pass is ahead. */
    private static PoisonPiles played() {
        PoisonPiles x = piles(14, "32", "51!", "10");
        x.set(BONUS, 33);
        x.passes(1, 2);
        x.take(0, 3);
        x.pass();
        return x;
    }

    private void restore() {
        sentence("Promise 26", "int restore(int slot): Restores what was saved last in a slot");
        PoisonPiles x = poisonEnded();
        x.save(0);
        x.begin();
        x.save(1);
        x.take(1, 2);
        due("an end by poison", x.restore(0), 5);
        due("is over", x.count(4), 1);
        due("the begun game", x.restore(1), 6);
        due("is not", x.count(4), NONE);
        PoisonPiles empty = new PoisonPiles();
        empty.save(1);
        empty.pile(5, 5, 0);
        due("a game without piles", empty.restore(1), 0);
        due("has none", empty.count(0), 0);
        due("and its first pile is a new one", empty.pile(1, 2, 0), 0);
        PoisonPiles other = piles("25!");
        other.save(0);
        List<Long> saved = look(other);
        other.undo();
        other.pile(4, 7, 0);
        other.restore(0);
        same("a pile where another one came in its place", look(other), saved);
        other.undo();
        due("the worth of that one", other.ofPile(0, 1), 7);
        sentence("Promise 26", ", which keeps it.");
        for (int i = 0; i < 3; i++) {
            x.take(1, 1);
            x.begin();
            due("once more", x.restore(0), 5);
        }
        sentence("Promise 26", "This is a change.");
        x.restore(1);
        PoisonPiles fresh = piles("31");
        fresh.save(1);
        fresh.take(0, 1);
        isChange("restore()", fresh, y -> y.restore(1));
        sentence("Promise 26", "slot: 0 or 1");
        due("0", x.restore(0), 5);
        due("1", x.restore(1), 6);
        due("2", x.restore(2), BAD_VALUE);
        due("-1", x.restore(-1), BAD_VALUE);
        sentence("Promise 26", "Returns how many tokens there are then;");
        x.take(1, 3);
        due("not how many there were", x.restore(1), 6);
        sentence("Promise 26", "BAD_VALUE if there is no such slot;");
        due("-2^31", x.restore(Integer.MIN_VALUE), BAD_VALUE);
        due("2^31 - 1", x.restore(Integer.MAX_VALUE), BAD_VALUE);
        sentence("Promise 26", "NOT_POSSIBLE if nothing was saved in it.");
        due("in a new object", new PoisonPiles().restore(0), NOT_POSSIBLE);
        due("in the other slot", fresh.restore(0), NOT_POSSIBLE);
        due("in the first one of another object", empty.restore(0), NOT_POSSIBLE);
    }

    private void calls512() {
        sentence("What it is", "An object is used for at most 512 calls after it has been made");
        PoisonPiles x = new PoisonPiles();
        for (int call = 1; call <= 510; call++) {
            due("call " + call, x.set(BONUS, call % 100), call == 1 ? 10 : (call - 1) % 100);
        }
        due("call 511", x.undo(), 5);
        due("call 512", x.count(8), 9);
        PoisonPiles played = piles(1, "51", "51", "51", "51");
        for (int call = 6; call <= 512; call += 13) {
            due("play(), call " + call, played.play(40), 20);
            for (int i = 0; i < 12; i++) due("begin()", played.begin(), 20);
        }
    }
}
