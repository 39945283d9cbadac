/** The document's "Texts", and what it says there of the constants and of the groups of calls. */
final class TextSentences extends Sentences {
    TextSentences(Checks checks, Document document) {
        super(checks, document);
    }

    @Override void run() {
        atMostEighty();
        rowOfOrders();
        ordersOfTexts();
        pileOrder();
        takeOrder();
        passOrder();
        playOrder();
        passesOrder();
        faultIsTheFirst();
        textEndsTooEarly();
        constants();
        groupOfChanges();
        groupOfWhatThereIs();
        groupOfWhatIf();
        groupOfTexts();
        groupOfUndoAndSaving();
        closeSentence();
    }

    private void faultOf(String text, int want) {
        due("fault() of " + text, pad(text).fault(), want);
    }

    private void atMostEighty() {
        sentence("Texts", "The pad is a text of at most 80 characters");
        PoisonPiles x = pad("+5;" + "p;".repeat(38));
        due("79 characters", x.count(9), 79);
        due("two more", x.put(number(";p")), TOO_MANY);
        due("one more", x.put('p'), 80);
        due("the length", x.count(9), 80);
        due("one too many", x.put('p'), TOO_MANY);
        due("80 characters are a whole text", x.fault(), NONE);
        due("no pass is there", x.carryOut(), 1);
        due("the pile", x.ofPile(0, 0), 5);
        String takes = "-0.1;".repeat(5) + "-1.1;".repeat(5) + "-2.1;".repeat(5);
        PoisonPiles last = put(piles(1, "51", "51", "51"), takes + "+5w9!");
        due("all of 80 characters", last.carryOut(), 16);
        due("moves", last.count(5), 15);
        due("the 80th character was read", last.ofPile(3, 2), 1);
        due("a full pad is emptied too", last.count(9), 0);
    }

    private void rowOfOrders() {
        sentence("Texts", ", a row of orders:");
        PoisonPiles x = pad("+5;r12;p;-0.1;m");
        due("in their order", x.carryOut(), 5);
        due("moves", x.count(5), 3);
        sentence("Texts", "text = order { \";\" order }");
        faultOf("p", NONE);
        faultOf("p;p", NONE);
        faultOf("p;m;p;m;p", NONE);
        faultOf(";", 0);
        faultOf(";p", 0);
        faultOf("p;;p", 2);
        faultOf("pp", 1);
        faultOf("p,p", 1);
        faultOf("p:p", 1);
        faultOf("+1+1", 2);
        faultOf("+1!+1", 3);
        faultOf("+1w1+1", 4);
        faultOf("-0.1-0.1", 4);
        faultOf("r11r11", 3);
    }

    private void ordersOfTexts() {
        sentence("Texts", "order = \"+\" digit [ \"w\" digit ] [ \"!\" ]");
        for (char digit = '0'; digit <= '9'; digit++) {
            faultOf("+" + digit, NONE);
            faultOf("+1w" + digit, NONE);
            faultOf("-" + digit + ".1", NONE);
            faultOf("-1." + digit, NONE);
            faultOf("r" + digit + "1", NONE);
            faultOf("r1" + digit, NONE);
            faultOf("" + digit, 0);
        }
        for (char beside : new char[] {'/', ':', 'w', '!', '.', ';', 'a'}) {
            faultOf("+" + beside, 1);
            faultOf("+1w" + beside, 3);
            faultOf("-" + beside, 1);
            faultOf("-1." + beside, 3);
            faultOf("r" + beside, 1);
            faultOf("r1" + beside, 2);
        }
        faultOf("+1!", NONE);
        faultOf("+1w2!", NONE);
        faultOf("+1!w2", 3);
        faultOf("+1!!", 3);
        faultOf("+1w2!!", 5);
        faultOf("+1w2w3", 4);
        faultOf("+1w23", 4);
        faultOf("+12", 2);
        faultOf("+1.2", 2);
        faultOf("+1W2", 2);
        sentence("Texts", "| \"-\" digit \".\" digit |");
        faultOf("-12", 2);
        faultOf("-1,2", 2);
        faultOf("-1.23", 4);
        faultOf("-1.2!", 4);
        faultOf("--1.2", 1);
        sentence("Texts", "\"p\" |");
        faultOf("p1", 1);
        faultOf("P", 0);
        faultOf("p!", 1);
        sentence("Texts", "\"m\" |");
        faultOf("m", NONE);
        faultOf("m1", 1);
        faultOf("M", 0);
        sentence("Texts", "\"r\" digit digit");
        faultOf("r123", 3);
        faultOf("r1.2", 2);
        faultOf("R12", 0);
        faultOf("w1", 0);
        faultOf("!", 0);
        faultOf(".1", 0);
        faultOf("~", 0);
    }

    private void pile(String text, int worth, int poison) {
        PoisonPiles x = new PoisonPiles();
        due("carryOut() of " + text, carryOut(x, text), 1);
        due("tokens by " + text, x.ofPile(0, 0), text.charAt(1) - '0');
        due("tokens with which it came by " + text, x.ofPile(0, 3), text.charAt(1) - '0');
        due("worth by " + text, x.ofPile(0, 1), worth);
        due("poison by " + text, x.ofPile(0, 2), poison);
    }

    private void pileOrder() {
        sentence("Texts", "\"+\": pile() of so many tokens, with a worth (1, if it is left out), poisoned if \"!\" is told;");
        pile("+0", 1, 0);
        pile("+5", 1, 0);
        pile("+3!", 1, 1);
        pile("+3w0", 0, 0);
        pile("+3w1", 1, 0);
        pile("+3w9", 9, 0);
        pile("+3w9!", 9, 1);
        pile("+0w0!", 0, 1);
        for (String tooMany : new String[] {"+6", "+9", "+6w1!"}) {
            due("carryOut() of " + tooMany, pad(tooMany).carryOut(), 0);
        }
        due("a fifth pile", pad("+1;+2;+3;+4;+5;r11").carryOut(), 4);
    }

    private void takeOrder() {
        sentence("Texts", "\"-\": take() from a pile so many;");
        PoisonPiles x = piles("31", "52");
        due("carryOut()", carryOut(x, "-1.3;-0.1"), 2);
        due("player 0 gained", x.ofPlayer(0, 0), 6);
        due("player 1 gained", x.ofPlayer(1, 0), 1);
        for (String refused : new String[] {"-2.1", "-9.1", "-1.0", "-1.3", "-0.6", "-0.9"}) {
            due("carryOut() of " + refused, carryOut(x, refused), 0);
        }
        due("tokens", x.count(1), 4);
    }

    private void passOrder() {
        sentence("Texts", "\"p\": pass();");
        PoisonPiles x = piles("31");
        due("without a pass", carryOut(x, "p"), 0);
        due("with one, then behind it", carryOut(x, "r22;p;p"), 2);
        due("passes of 0", x.ofPlayer(0, 1), 1);
        due("passes of 1", x.ofPlayer(1, 1), 2);
        due("a pass is ahead", x.count(6), 1);
    }

    private void playOrder() {
        sentence("Texts", "\"m\": play() 1 move;");
        PoisonPiles x = piles(1, "51");
        due("one", carryOut(x, "m"), 1);
        due("tokens", x.count(1), 4);
        due("up to the end", carryOut(x, "m;m;m;m;m;m"), 4);
        due("none then", carryOut(x, "m"), 0);
    }

    private void passesOrder() {
        sentence("Texts", "\"r\": passes() of the players 0 and 1.");
        PoisonPiles x = new PoisonPiles();
        due("carryOut()", carryOut(x, "r12"), 1);
        due("player 0", x.ofPlayer(0, 1), 1);
        due("player 1", x.ofPlayer(1, 1), 2);
        due("in place of those", carryOut(x, "r00"), 1);
        due("none", x.ofPlayer(0, 1) + x.ofPlayer(1, 1), 0);
        for (String refused : new String[] {"r30", "r03", "r99"}) {
            due("carryOut() of " + refused, carryOut(x, refused), 0);
        }
    }

    private void faultIsTheFirst() {
        sentence("Texts", "The fault is the index of the first character that cannot stand at its place when the text is read from "
            + "left to right");
        faultOf("x", 0);
        faultOf("+x;x", 1);
        faultOf("p;x;x", 2);
        faultOf("+5w!;", 3);
        faultOf("r12;-0.1;+5w1!m", 14);
        faultOf("p;".repeat(39) + "px", 79);
        faultOf("x" + "p;".repeat(39) + "p", 0);
        due("no fault though no order can be carried out", put(piles("01"), "-3.5;p;r99;+9").fault(), NONE);
    }

    private void textEndsTooEarly() {
        sentence("Texts", "; if there is none and the text ends too early (also if it is empty), it is the length of the text.");
        faultOf("", 0);
        String[] tooEarly = {"+", "+5w", "-", "-0", "-0.", "r", "r1", "p;", "m;", "+5;", "+5!;", "+5w1;", "+5w1!;", "-0.1;", "r12;",
            "p;+", "p;r1", "p;".repeat(40)};
        for (String text : tooEarly) {
            faultOf(text, text.length());
        }
        PoisonPiles x = pad("+5");
        x.wipe();
        due("fault() of a wiped pad", x.fault(), 0);
    }

    private void constants() {
        sentence("Texts", "The constants: NO_SUCH = -1, BAD_VALUE = -2, BAD_TEXT = -3, TOO_MANY = -4, NOT_POSSIBLE = -5, NONE = -6: "
            + "Error codes, and NONE: there is none.");
        due("NO_SUCH", PoisonPiles.NO_SUCH, -1);
        due("BAD_VALUE", PoisonPiles.BAD_VALUE, -2);
        due("BAD_TEXT", PoisonPiles.BAD_TEXT, -3);
        due("TOO_MANY", PoisonPiles.TOO_MANY, -4);
        due("NOT_POSSIBLE", PoisonPiles.NOT_POSSIBLE, -5);
        due("NONE", PoisonPiles.NONE, -6);
        sentence("Texts", "TAKES = 0, BONUS = 1: Settings.");
        due("TAKES", PoisonPiles.TAKES, 0);
        due("BONUS", PoisonPiles.BONUS, 1);
    }

    private static PoisonPiles midGame() {
        PoisonPiles x = piles("32", "51", "42!");
        x.passes(2, 1);
        x.take(1, 2);
        x.save(1);
        return put(x, "+1;m");
    }

    private void groupOfChanges() {
        sentence("Texts", "Ahead of the calls set, pile, passes, begin, take, pass, play the interface says: ---- changes.");
        isChange("set()", midGame(), x -> x.set(TAKES, 1));
        isChange("pile()", midGame(), x -> x.pile(5, 1, 0));
        isChange("passes()", midGame(), x -> x.passes(0, 0));
        isChange("begin()", midGame(), PoisonPiles::begin);
        isChange("take()", midGame(), x -> x.take(0, 1));
        isChange("pass()", midGame(), PoisonPiles::pass);
        isChange("play()", midGame(), x -> x.play(2));
    }

    private void groupOfWhatThereIs() {
        sentence("Texts", "Ahead of the calls ofPile, ofPlayer, count, moves the interface says: ---- what there is.");
        for (int what = 0; what <= 10; what++) {
            int asked = what;
            changesNothing("count(" + what + ")", TextSentences::midGame, x -> x.count(asked));
            if (what <= 4) changesNothing("ofPile(1, " + what + ")", TextSentences::midGame, x -> x.ofPile(1, asked));
            if (what <= 2) changesNothing("ofPlayer(1, " + what + ")", TextSentences::midGame, x -> x.ofPlayer(1, asked));
        }
        changesNothing("moves()", TextSentences::midGame, PoisonPiles::moves);
    }

    private void groupOfWhatIf() {
        sentence("Texts", "Ahead of the calls won, winning, value, best, grundy, period, drawn the interface says: ---- what if; "
            + "nothing changes.");
        changesNothing("won()", TextSentences::midGame, PoisonPiles::won);
        changesNothing("winning()", TextSentences::midGame, PoisonPiles::winning);
        changesNothing("value()", TextSentences::midGame, PoisonPiles::value);
        changesNothing("best()", TextSentences::midGame, PoisonPiles::best);
        changesNothing("grundy()", TextSentences::midGame, x -> x.grundy(200));
        changesNothing("period()", TextSentences::midGame, x -> x.period(0));
        changesNothing("drawn()", TextSentences::midGame, x -> x.drawn(200, 65536));
    }

    private void groupOfTexts() {
        sentence("Texts", "Ahead of the calls put, wipe, fault, carryOut the interface says: ---- texts.");
        changesNothing("fault()", TextSentences::midGame, PoisonPiles::fault);
        PoisonPiles x = midGame();
        int undoable = x.count(10);
        x.put('m');
        x.wipe();
        x.put('m');
        due("put() and wipe() are no changes", x.count(10), undoable);
        same("put() and wipe()", look(x), look(midGame()));
        due("carryOut()", x.carryOut(), 1);
        due("is one", x.count(10), undoable + 1);
    }

    private void groupOfUndoAndSaving() {
        sentence("Texts", "Ahead of the calls undo, save, restore the interface says: ---- undo, saving.");
        PoisonPiles x = midGame();
        due("undo()", x.undo(), 4);
        due("save()", x.save(0), 12);
        due("restore()", x.restore(1), 10);
        due("restore()", x.restore(0), 12);
    }
}
