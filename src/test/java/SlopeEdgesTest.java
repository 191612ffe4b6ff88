/** With which bytes a slope can go on, and where it may end: at each kind of place every byte is tried. */
public final class SlopeEdgesTest {
    private static final Check CHECK = new Check();
    private static final String DIGITS = "0123456789", PARTS = "!(gktprs", LETTERS = "gktprs";
    /** Behind the whole set: the slope may end here, too. */
    private static final String END = "\n";
    private static final String NINE = "rut 1;".repeat(9);

    private SlopeEdgesTest() {
    }

    public static void main(String[] args) {
        words();
        numbers();
        conditions();
        open();
        clauses();
        sizes();
        CHECK.end();
    }

    private static int slope(String text) {
        return Scene.slope(new FortyGates(), text);
    }

    private static void goesOn(String beginning, String by) {
        boolean ends = by.endsWith(END);
        int size = beginning.length();
        CHECK.due("'" + beginning + "' alone", slope(beginning), ends ? 0 : -10 - size);
        for (int sign = 0; sign <= 127; sign++) {
            String text = beginning + (char) sign;
            boolean good = sign != '\n' && by.indexOf(sign) >= 0;
            int due = good ? -10 - size - 1 : -10 - size;
            int got = slope(text);
            CHECK.due("'" + beginning + "' and sign " + sign, good && got == 0 ? due : got, due);
        }
    }

    private static void words() {
        goesOn("", "rfwi");
        goesOn("r", "u");
        goesOn("ru", "t");
        goesOn("rut", " ");
        goesOn("f", "o");
        goesOn("fo", "g");
        goesOn("fog", " ");
        goesOn("w", "a");
        goesOn("wa", "x");
        goesOn("wax", " ");
        goesOn("i", "c");
        goesOn("ic", "e");
        goesOn("ice", " ");
        goesOn("rut 1;", "rfwi");
        goesOn("wax 1 g=1;", "rfwi");
        goesOn("fog 1;i", "c");
    }

    private static void numbers() {
        for (String word : new String[] {"rut ", "fog "}) {
            goesOn(word, DIGITS);
            goesOn(word + "0", ";" + END);
            goesOn(word + "1", DIGITS + ";" + END);
            goesOn(word + "9", DIGITS + ";" + END);
            goesOn(word + "10", ";" + END);
            goesOn(word + "99", ";" + END);
        }
        for (String word : new String[] {"wax ", "ice "}) {
            goesOn(word, DIGITS);
            goesOn(word + "0", " ");
            goesOn(word + "1", DIGITS + " ");
            goesOn(word + "9", DIGITS + " ");
            goesOn(word + "10", " ");
            goesOn(word + "99", " ");
        }
        for (int i = 0; i < LETTERS.length(); i++) {
            String letter = "ice 1 " + LETTERS.charAt(i);
            goesOn(letter, "<=>");
            for (String sign : new String[] {"<", "=", ">"}) {
                goesOn(letter + sign, DIGITS);
                goesOn(letter + sign + "0", "&|;" + END);
                goesOn(letter + sign + "1", DIGITS + "&|;" + END);
                goesOn(letter + sign + "10", "&|;" + END);
                goesOn(letter + sign + "99", "&|;" + END);
            }
        }
        for (int n = 0; n <= 99; n++) {
            int rut = n;
            FortyGates x = new FortyGates();
            CHECK.due("number " + n, Scene.slope(x, "rut " + rut + ";fog " + (99 - rut)), 0);
            CHECK.due("rut " + n, x.told(1), rut);
            CHECK.due("fog " + (99 - n), x.told(2), 99 - rut);
        }
    }

    private static void conditions() {
        goesOn("ice 1 ", PARTS);
        goesOn("wax 0 ", PARTS);
        goesOn("ice 1 g=1&", PARTS);
        goesOn("ice 1 g=1|", PARTS);
        goesOn("ice 1 g=1&g=0|", PARTS);
        goesOn("ice 1 !", PARTS);
        goesOn("ice 1 (", PARTS);
        goesOn("ice 1 !g=0", "&|;" + END);
        goesOn("ice 1 (g=0", "&|)");
        goesOn("ice 1 (g=1", DIGITS + "&|)");
        goesOn("ice 1 (g=10", "&|)");
        goesOn("ice 1 (g=0)", "&|;" + END);
        goesOn("ice 1 ((g=0)", "&|)");
        goesOn("ice 1 ((g=0))", "&|;" + END);
        goesOn("ice 1 (g=0|", PARTS);
        goesOn("ice 1 !(g=0", "&|)");
        goesOn("ice 1 !(g=0)", "&|;" + END);
        goesOn("ice 1 (!g=0", "&|)");
        goesOn("ice 1 (!g=0)&(", PARTS);
    }

    /** At most 5 of ! and ( are open. */
    private static void open() {
        String[] four = {"!!!!", "((((", "!(!(", "(!(!", "!!!(", "(((!"};
        for (String signs : four) {
            goesOn("ice 1 " + signs, PARTS);
            goesOn("ice 1 " + signs + "!", LETTERS);
            goesOn("ice 1 " + signs + "(", LETTERS);
        }
        // a ! is open till its F ends, a ( till its )
        goesOn("ice 1 !!!!!g=0&", PARTS);
        goesOn("ice 1 !!!!!g=0&!!!!", PARTS);
        goesOn("ice 1 !!!!!g=0&!!!!!", LETTERS);
        goesOn("ice 1 !!!!!g=0|(((((", LETTERS);
        goesOn("ice 1 (((((g=0&", LETTERS);
        goesOn("ice 1 (((((g=0|", LETTERS);
        goesOn("ice 1 (((((g=0)&", PARTS);
        goesOn("ice 1 (((((g=0)&!", LETTERS);
        goesOn("ice 1 (((((g=0)|(", LETTERS);
        goesOn("ice 1 (((((g=0", "&|)");
        goesOn("ice 1 (((((g=0)", "&|)");
        goesOn("ice 1 (((((g=0))))", "&|)");
        goesOn("ice 1 (((((g=0)))))", "&|;" + END);
        goesOn("ice 1 (((((g=0)))))&(((((", LETTERS);
        goesOn("ice 1 ((((!g=0&", PARTS);
        goesOn("ice 1 ((((!g=0&!", LETTERS);
        goesOn("ice 1 !(((g=0&!", LETTERS);
        goesOn("ice 1 !(((g=0)", "&|)");
        goesOn("ice 1 !(((g=0)&!", PARTS);
        goesOn("ice 1 !(((g=0)&!!", LETTERS);
        goesOn("ice 1 !(((g=0)))&!!!!", PARTS);
        goesOn("ice 1 !!!!(g=0)&!!!!", PARTS);
        goesOn("ice 1 (!!!(g=0)&!!!", PARTS);
        goesOn("ice 1 (!!!(g=0)&!!!!", LETTERS);
        // each clause opens its own
        goesOn("ice 1 !!!!!g=0;ice 1 !!!!", PARTS);
        goesOn("ice 1 !!!!!g=0;ice 1 !!!!!", LETTERS);
    }

    /** Clauses, 10 at most: no ; is behind the tenth. */
    private static void clauses() {
        goesOn(NINE.substring(0, NINE.length() - 1), DIGITS + ";" + END);
        goesOn(NINE, "rfwi");
        goesOn(NINE + "fog 0", END);
        goesOn(NINE + "fog 1", DIGITS + END);
        goesOn(NINE + "fog 10", END);
        goesOn(NINE + "ice 1 g=0", "&|" + END);
        goesOn(NINE + "ice 1 (g=0", "&|)");
        goesOn(NINE + "ice 1 g=10", "&|" + END);
        goesOn("rut 1;".repeat(8) + "ice 1 g=0", "&|;" + END);
    }

    private static void sizes() {
        CHECK.due("100 bytes", slope(Scene.LONGEST), 0);
        for (int size = 0; size <= 100; size++) {
            String text = Scene.LONGEST.substring(0, size);
            boolean whole = size > 8 && Character.isDigit(text.charAt(size - 1));
            CHECK.due("the first " + size + " of them", slope(text), whole ? 0 : -10 - size);
        }
        String early = "ice 10 " + "g=1|".repeat(23) + "!";
        CHECK.due("100 bytes that end too early", early.length(), 100);
        CHECK.due("the fault is the size", slope(early), -110);
        String late = "ice 10 " + "g=1|".repeat(23) + ";";
        CHECK.due("100 bytes, the last one a fault", slope(late), -109);
        CHECK.due("the first of several faults", slope("rux 1;fog x"), -12);
        CHECK.due("an empty tape", slope(""), -10);
        FortyGates x = new FortyGates();
        CHECK.due("and empty once more", x.slope(), -10);
        CHECK.due("no slope by that", x.count(2), 0);
    }
}
