/** The boundaries of texts: what the terms say of them, and promises 23 to 26. */
final class TextEdges extends Edges {
    /** 57 characters. */
    private static final String TICKS_19 = "t1;t1;t1;t1;t1;t1;t1;t1;t1;t1;t1;t1;t1;t1;t1;t1;t1;t1;t1;";

    /** A text without a fault, of so many orders. */
    private static void plays(String text, Made made, int orders) {
        due("fault(0) of " + text, made.now().text(text).fault(0), MISSING);
        due("fault(1) of " + text, made.now().text(text).fault(1), MISSING);
        change("play() of " + text, () -> made.now().text(text), Counted::play, orders);
        changesNothing("fault(0) of " + text, () -> made.now().text(text), x -> x.fault(0));
    }

    /** A text whose first order that is not possible begins at this place. */
    private static void faulty(String text, Made made, int place, int reason) {
        due("fault(0) of " + text, made.now().text(text).fault(0), place);
        due("fault(1) of " + text, made.now().text(text).fault(1), reason);
        refused("play() of " + text, () -> made.now().text(text), Counted::play, IMPOSSIBLE);
        changesNothing("fault(1) of " + text, () -> made.now().text(text), x -> x.fault(1));
    }

    /** Chips 0 and 1 of family 0, chip 2 of family 1, no words. */
    private static Counted plain() {
        return Counted.of(0, 0, 1);
    }

    private static int reason(String text) {
        int reason = plain().text(text).fault(1);
        return reason == MISSING ? 0 : reason;
    }

    // ---- the terms

    private static void length() {
        says(0, "There is a text of at most 60 characters, initially empty:");
        due("count(11)", new Counted().count(11), 0);
        due("fault(0)", new Counted().fault(0), MISSING);
        due("clearText()", new Counted().clearText(), 0);
        Counted x = new Counted();
        for (int length = 1; length <= 60; length++) {
            due("type", x.type(';'), length);
            due("count(11)", x.count(11), length);
        }
        refused("a 61st character", () -> plain().text(TICKS_19 + "t1;"), y -> y.type(';'), LIMIT);
        Counted full = plain().text(TICKS_19 + "t1;");
        due("play() of 60 characters", full.play(), 20);
        due("a 61st character", full.type(';'), LIMIT);
        due("play() of the same 60 characters", full.play(), 20);
        due("so many ticks", full.count(6), 40);
        plays(TICKS_19 + "t1;", TextEdges::plain, 20);
        plays("p001,255;p001,255;p001,255;p001,255;p001,255;p001,255;t100;", TextEdges::plain, 7);
        faulty(TICKS_19 + "t11", TextEdges::plain, 57, 1);
        faulty(TICKS_19 + "b1,", TextEdges::plain, 57, 1);
        faulty(TICKS_19 + "t0;", TextEdges::plain, 57, 3);
        faulty(TICKS_19.substring(3) + "p01,02", TextEdges::plain, 54, 1);
        faulty(TICKS_19.substring(3) + "t001;k", TextEdges::plain, 59, 1);
        faulty(TICKS_19.substring(3) + "t001;;", TextEdges::plain, 59, 1);
    }

    private static void orders() {
        says(0, "orders, each followed by \";\": \"k\" a chip (it dies), \"t\" ticks, \"e\" a chip (elected), \"v\" a chip"
            + " (emptied), \"p\" a chip, \",\" and a value (a word is put), \"b\" a chip, \",\" and a row (it breaks);");
        for (int sign = 32; sign <= 126; sign++) {
            String letter = String.valueOf((char) sign);
            due("an order " + letter + " of one number", reason(letter + "1;"), "ktev".contains(letter) ? 0 : 1);
            due("an order " + letter + " of two numbers", reason(letter + "1,1;"), "pb".contains(letter) ? 0 : 1);
            due("an order " + letter + " of no number", reason(letter + ";"), 1);
            due("an order that ends with " + letter, reason("t1" + letter), letter.equals(";") ? 0 : 1);
            due("an order of two that ends with " + letter, reason("p0,1" + letter), letter.equals(";") ? 0 : 1);
            due("numbers with " + letter + " between", reason("p0" + letter + "1;"), letter.equals(",") ? 0 : 1);
            due("an order with " + letter + " behind", reason("t1;" + letter), 1);
            due("an order with " + letter + " ahead", reason(letter + "t1;"), 1);
        }
        due("killed", plain().text("k1;").play() * 10 + played("k1;").chipOf(1, 1), 10);
        due("the time", played("t7;").count(6), 7);
        due("elected", played("e2;").familyOf(1, 0), 2);
        due("put", played("p1,200;").read(0), 200);
        due("its chip", played("p1,200;").wordOf(0, 1), 1);
        due("emptied", played("p1,200;v1;").wordOf(0, 1), 0);
        due("broken", played("b1,5;").chipOf(1, 5), 32);
        plays("", TextEdges::plain, 0);
        plays("e0;p1,255;p01,007;b2,5;t100;v1;k002;", TextEdges::plain, 7);
        faulty("K1;", TextEdges::plain, 0, 1);
        faulty("k1;;", TextEdges::plain, 3, 1);
        faulty(";", TextEdges::plain, 0, 1);
        faulty(" ", TextEdges::plain, 0, 1);
        faulty("k", TextEdges::plain, 0, 1);
        faulty("k1", TextEdges::plain, 0, 1);
        faulty("k1 ;", TextEdges::plain, 0, 1);
        faulty("p1;", TextEdges::plain, 0, 1);
        faulty("p1,;", TextEdges::plain, 0, 1);
        faulty("p,1;", TextEdges::plain, 0, 1);
        faulty("p1,1,;", TextEdges::plain, 0, 1);
        faulty("p1,1,1;", TextEdges::plain, 0, 1);
        faulty("b1,,1;", TextEdges::plain, 0, 1);
        faulty("k1,1;", TextEdges::plain, 0, 1);
        faulty("t1,1;", TextEdges::plain, 0, 1);
        faulty("k-1;", TextEdges::plain, 0, 1);
        faulty("k+1;", TextEdges::plain, 0, 1);
    }

    private static Counted played(String text) {
        Counted x = plain().text(text);
        x.play();
        return x;
    }

    private static void numbers() {
        says(0, "numbers of 1 to 3 digits, 0 ahead allowed.");
        for (int sign = 32; sign <= 126; sign++) {
            String digit = String.valueOf((char) sign);
            boolean number = sign >= '0' && sign <= '9';
            int chip = sign - '0';
            due("the chip " + digit, reason("k" + digit + ";"), !number ? 1 : chip > 2 ? 2 : 0);
            due("the row " + digit, reason("b0," + digit + ";"), !number ? 1 : chip > 5 ? 3 : 0);
            due("the value " + digit, reason("p0," + digit + ";"), number ? 0 : 1);
            due("a value with " + digit + " ahead", reason("p0," + digit + "01;"), !number ? 1 : chip > 2 ? 3 : 0);
            due("a value with " + digit + " within", reason("p0,0" + digit + "1;"), number ? 0 : 1);
            due("ticks with " + digit + " behind", reason("t1" + digit + ";"), number ? 0 : 1);
        }
        for (String fine : new String[] {"k2;", "k02;", "k002;", "t1;", "t01;", "t001;", "t99;", "t099;", "t100;",
            "p0,0;", "p00,00;", "p000,000;", "p0,9;", "p0,99;", "p0,255;", "b2,5;", "b02,05;", "b002,005;"}) {
            plays(fine, TextEdges::plain, 1);
        }
        for (String wrong : new String[] {"k;", "k0002;", "k00002;", "t;", "t0001;", "t0100;", "t1000;", "p,0;", "p0,;",
            "p0000,0;", "p0,0000;", "p0,0255;", "b0002,5;", "b2,0005;"}) {
            faulty(wrong, TextEdges::plain, 0, 1);
        }
        due("three digits", played("t100;").count(6), 100);
        due("a value of three digits", played("p0,255;").read(0), 255);
        due("a value with 0 ahead", played("p0,025;").read(0), 25);
        due("no octal number", played("p0,010;").read(0), 10);
    }

    private static void position() {
        says(0, "The fault of the text is the position, from 0, of the first character of the first order that is not"
            + " possible;");
        faulty("k9;k9;", TextEdges::plain, 0, 2);
        faulty("t1;k9;x", TextEdges::plain, 3, 2);
        faulty("t1;x;k9;", TextEdges::plain, 3, 1);
        faulty("t1;t0;k9;", TextEdges::plain, 3, 3);
        faulty("p0,255;p0,256;", TextEdges::plain, 7, 3);
        faulty("t100;t100;t101;", TextEdges::plain, 10, 3);
        faulty(TICKS_19 + "k3;", TextEdges::plain, 57, 2);
    }

    // ---- reasons

    private static final String REASONS = "its reason is 1 if it is not of this form, its \";\" included, 2 if there is no"
        + " such chip, and 3 if it is not possible otherwise (by what kill, tick, elect, empty, put and breaks tell, values,"
        + " rows and ticks out of their ranges, too), when those ahead of it are done.";

    private static void noSuchChip() {
        says(0, REASONS);
        for (String letter : new String[] {"k", "e", "v"}) {
            due("the last chip", reason(letter + "2;"), 0);
            faulty(letter + "3;", TextEdges::plain, 0, 2);
            faulty(letter + "8;", TextEdges::plain, 0, 2);
            faulty(letter + "999;", TextEdges::plain, 0, 2);
            faulty(letter + "0;", Counted::new, 0, 2);
            faulty(letter + "3", TextEdges::plain, 0, 1);
        }
        for (String letter : new String[] {"p", "b"}) {
            due("the last chip", reason(letter + "2,0;"), 0);
            faulty(letter + "3,0;", TextEdges::plain, 0, 2);
            faulty(letter + "999,0;", TextEdges::plain, 0, 2);
            faulty(letter + "3,999;", TextEdges::plain, 0, 2);
            faulty(letter + "0,0;", Counted::new, 0, 2);
            faulty(letter + "3,0", TextEdges::plain, 0, 1);
        }
        plays("t1;", Counted::new, 1);
        faulty("t999;", Counted::new, 0, 3);
        faulty("t999;", TextEdges::plain, 0, 3);
        Made eight = () -> Counted.of(0, 1, 2, 0, 1, 2, 0, 1);
        plays("k7;", eight, 1);
        faulty("k8;", eight, 0, 2);
    }

    private static void outOfRange() {
        says(0, REASONS);
        for (String wrong : new String[] {"t0;", "t00;", "t000;", "t101;", "t999;", "p0,256;", "p0,999;", "b0,6;", "b0,06;",
            "b0,999;"}) {
            faulty(wrong, TextEdges::plain, 0, 3);
        }
        plays("t1;t100;", TextEdges::plain, 2);
        plays("p0,0;p0,255;", TextEdges::plain, 2);
        plays("b0,0;b0,5;", TextEdges::plain, 2);
        faulty("t101", TextEdges::plain, 0, 1);
        faulty("p0,256", TextEdges::plain, 0, 1);
        Made late = () -> plain().later(99999);
        plays("t1;", late, 1);
        faulty("t2;", late, 0, 3);
        faulty("t1;t1;", late, 3, 3);
        plays("t1;k0;", late, 2);
        Made last = () -> plain().later(100000);
        faulty("t1;", last, 0, 3);
        faulty("k0;t1;", last, 3, 3);
    }

    private static void impossible() {
        says(0, REASONS);
        faulty("k1;", Edges::rich, 0, 3);
        faulty("e1;", Edges::rich, 0, 3);
        faulty("v1;", Edges::rich, 0, 3);
        faulty("p1,0;", Edges::rich, 0, 3);
        faulty("b1,0;", Edges::rich, 0, 3);
        faulty("e0;", Edges::rich, 0, 3);
        faulty("e5;", Edges::rich, 0, 3);
        faulty("v0;", Edges::rich, 0, 3);
        faulty("p0,0;", Edges::rich, 0, 3);
        faulty("e3;", Edges::rich, 0, 3);
        faulty("b3,5;", Edges::rich, 0, 3);
        faulty("v3;", () -> rich().killing(2, 5), 0, 3);
        faulty("p3,0;p3,0;p3,0;p3,0;", Edges::rich, 15, 3);
        plays("p3,0;p3,0;p3,0;", Edges::rich, 3);
        Made words = () -> Counted.of(0, 0, 0, 0, 0).fill(0, 6).fill(1, 6).fill(2, 6).fill(3, 5);
        plays("p4,0;", words, 1);
        faulty("p4,0;p4,0;", words, 5, 3);
        plays("v4;", Edges::allWords, 1);
    }

    private static void behindOthers() {
        says(0, REASONS);
        faulty("k0;k0;", TextEdges::plain, 3, 3);
        faulty("k0;e0;", TextEdges::plain, 3, 3);
        faulty("k0;v0;", TextEdges::plain, 3, 3);
        faulty("k0;p0,0;", TextEdges::plain, 3, 3);
        faulty("k0;b0,0;", TextEdges::plain, 3, 3);
        faulty("e0;e1;", TextEdges::plain, 3, 3);
        plays("e0;e2;", TextEdges::plain, 2);
        plays("e0;k0;e1;", TextEdges::plain, 3);
        faulty("e0;v0;", TextEdges::plain, 3, 3);
        faulty("e0;p0,1;", TextEdges::plain, 3, 3);
        faulty("p0,1;e0;", TextEdges::plain, 5, 3);
        plays("p0,1;v0;e0;", TextEdges::plain, 3);
        faulty("b0,3;b0,3;", TextEdges::plain, 5, 3);
        plays("b0,3;b0,3;b0,3;", () -> new Counted().adding(0, 2), 3);
        faulty("b0,3;b0,3;b0,3;b0,3;", () -> new Counted().adding(0, 2), 15, 3);
        faulty("p0,1;k1;k2;v0;", TextEdges::plain, 11, 3);
        plays("p0,1;k1;v0;", TextEdges::plain, 3);
        Counted x = plain().text("k2;");
        due("no fault in this state", x.fault(0), MISSING);
        x.killing(2);
        due("a fault in this state", x.fault(1), 3);
        x.undoing(1);
        due("no fault behind undo()", x.fault(1), MISSING);
    }

    // ---- promises 23 to 26

    private static void type() {
        says(23, "Appends a character to the text.");
        Counted x = rich();
        int states = x.count(10);
        x.type('t');
        x.type('2');
        due("it is no change", x.count(10), states);
        due("not whole yet", x.fault(0), 3);
        x.type(';');
        due("whole", x.fault(0), MISSING);
        due("appended", x.play() * 100 + x.count(6), 206);

        says(23, "`character`: 32 to 126");
        for (int each = 32; each <= 126; each++) {
            due("type(" + each + ")", new Counted().type(each), 1);
        }
        due("type(32)", rich().type(32), 4);
        due("type(126)", rich().type(126), 4);
        refusedFor("character", Edges::rich, Counted::type, INVALID, 31, 127, 0, -1, 128, 256 + 65, 65536 + 65, -65, LEAST,
            MOST);
        refusedFor("character of an empty text", Counted::new, Counted::type, INVALID, 31, 127);

        says(23, "Returns the length of the text; INVALID_ARGUMENT if character is out of range; LIMIT_REACHED if it has 60"
            + " characters.");
        Made full = () -> plain().text(TICKS_19 + "t1;");
        refusedFor("character of a full text", full, Counted::type, INVALID, 31, 127, LEAST, MOST);
        refusedFor("character of a full text", full, Counted::type, LIMIT, 32, 59, 126);
        due("the 60th character", plain().text(TICKS_19 + "t1").type(';'), 60);
        due("the first character", plain().type(';'), 1);
    }

    private static void clearText() {
        says(24, "Returns the length it had.");
        due("0", new Counted().clearText(), 0);
        due("1", new Counted().text("x").clearText(), 1);
        due("59", new Counted().text(TICKS_19 + "t1").clearText(), 59);
        due("60", new Counted().text(TICKS_19 + "t1;").clearText(), 60);
        due("0 behind it", rich().clearText() * 10 + new Counted().text("x").text("").clearText(), 30);

        says(24, "Empties the text.");
        Counted x = rich();
        int states = x.count(10);
        due("clearText()", x.clearText(), 3);
        due("clearText() again", x.clearText(), 0);
        due("count(11)", x.count(11), 0);
        due("it is no change", x.count(10), states);
        due("no fault", x.fault(0), MISSING);
        due("no orders", x.play(), 0);
        due("the time", x.count(6), 3);
        due("a new text", x.text("t5;").play() * 10 + x.count(6), 18);
        changesNothing("clearText() of an empty text", TextEdges::plain, Counted::clearText);
    }

    private static void fault() {
        says(25, "Tells about the fault of the text.");
        for (String text : new String[] {"", "t1;", "t1;k0;e2;p0,1;v0;b0,0;", "t1;k1;t1;k1;", "x"}) {
            changesNothing("fault(0) of " + text, () -> plain().text(text), y -> y.fault(0));
            changesNothing("fault(1) of " + text, () -> rich().text(text), y -> y.fault(1));
        }

        says(25, "`what`: 0: its position; 1: its reason");
        due("its position", plain().text("t1;k3;").fault(0), 3);
        due("its reason", plain().text("t1;k3;").fault(1), 2);

        says(25, "Returns that; INVALID_ARGUMENT if what is out of range; NOT_FOUND if the text has no fault (also if it is"
            + " empty).");
        refusedFor("what, no fault", Edges::rich, Counted::fault, INVALID, -1, 2, LEAST, MOST);
        refusedFor("what, no text", TextEdges::plain, Counted::fault, INVALID, -1, 2);
        refusedFor("what, a fault", () -> plain().text("x"), Counted::fault, INVALID, -1, 2, LEAST, MOST);
        refusedFor("what, no fault", Edges::rich, Counted::fault, MISSING, 0, 1);
        refusedFor("what, no text", TextEdges::plain, Counted::fault, MISSING, 0, 1);
        refusedFor("what, no text and no chips", Counted::new, Counted::fault, MISSING, 0, 1);
        refusedFor("what of a text that was cleared", () -> plain().text("x").text(""), Counted::fault, MISSING, 0, 1);
        Counted x = plain().text("t1;");
        due("no fault", x.fault(1), MISSING);
        x.type('k');
        due("a fault", x.fault(0) * 10 + x.fault(1), 31);
        x.type('9');
        due("a fault", x.fault(0) * 10 + x.fault(1), 31);
        x.type(';');
        due("another fault", x.fault(0) * 10 + x.fault(1), 32);
    }

    private static void play() {
        says(26, "Does all orders of the text, which stays. They are one change, also if there are none.");
        change("play() of no text", TextEdges::plain, Counted::play, 0);
        change("play() of no text, a full history", () -> rich().text(""), Counted::play, 0);
        Counted none = new Counted();
        none.play();
        due("one change", none.count(10), 1);
        due("undone", none.undo(), 0);
        Counted x = plain().text("e0;p1,9;k1;t2;");
        due("four orders", x.play(), 4);
        due("states", x.count(10), 4);
        due("the text stays", x.count(11), 14);
        due("undo()", x.undo(), 3);
        due("undone all of them", x.count(2) * 10 + x.count(6) + x.count(8), 0);
        due("the chip lives", x.chipOf(1, 1), 1);
        due("the text stays", x.count(11), 14);
        due("done again", x.play(), 4);

        says(26, "Returns how many there are in it; NOT_POSSIBLE if it has a fault.");
        for (int orders = 1; orders <= 20; orders++) {
            due("orders", plain().text((TICKS_19 + "t1;").substring(0, 3 * orders)).play(), orders);
        }
        faulty("t1;t1;t1", TextEdges::plain, 6, 1);
        faulty("p0,1;k9;", TextEdges::plain, 5, 2);
        faulty("e0;p1,9;k1;k1;", TextEdges::plain, 11, 3);
        faulty("p2,1;b5,5;v2;k2;v2;", Edges::rich, 16, 3);
        due("a text that has a fault when it is done again", played("k0;").play(), IMPOSSIBLE);
    }

    static void all() {
        length();
        orders();
        numbers();
        position();
        noSuchChip();
        outOfRange();
        impossible();
        behindOthers();
        type();
        clearText();
        fault();
        play();
    }
}
