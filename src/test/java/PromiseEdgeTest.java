/** The edges that promises 1 to 13 name, a method for each sentence or part of one. */
public final class PromiseEdgeTest {
    private static final int NONE = IsomerList.NONE;
    private static final int LEAST = Integer.MIN_VALUE;
    private static final int GREATEST = Integer.MAX_VALUE;
    private static final Class<?> FULL = IllegalStateException.class;
    private static final Class<?> NO_SUCH = IndexOutOfBoundsException.class;
    private static final String[] SIGNS = {"C", "N", "O", "S", "P", "F", "Cl", "Br", "I", "H"};

    public static void main(String[] args) {
        promise1EmptyLine();
        promise1NoFormula();
        promise1EmptyList();
        promise2HowMany();
        promise2Full();
        promise3Empty();
        promise4LineStays();
        promise4HowMany();
        promise4FirstFault();
        promise4FormulaAndListStay();
        promise4Sign();
        promise4TwoBeforeOne();
        promise4NoCharacter();
        promise4Twice();
        promise4Number();
        promise4NoAtom();
        promise4MoreThanSix();
        promise4Many();
        promise5LineStays();
        promise5Number();
        promise5NotThere();
        promise5Fault();
        promise6Last();
        promise6HadNone();
        promise6ThereWasNone();
        promise7WithoutOne();
        promise7What();
        promise7Another();
        promise8Element();
        promise8NoneSuch();
        promise9WithItself();
        promise9NoSuch();
        promise10Hydrogens();
        promise10NoSuch();
        promise11Ways();
        promise11NoSuch();
        promise12Becomes();
        promise12NoSuch();
        promise13Character();
        promise13NoneSuch();
        Check.end();
    }

    // ---- Promise 1 ----

    private static void promise1EmptyLine() {
        Check.sentence("Promise 1", "An empty LINE");
        IsomerList list = new IsomerList();
        Check.dueLine(list, "");
        Check.due("erase", list.erase(), 0);
        Check.due("formula of it", list.formula(), IsomerList.SIGN);
        Check.due("read of it", list.read(), IsomerList.SIGN);
        Check.due("the first character", list.type('C'), 1);
        Check.due("another object's line", new IsomerList().erase(), 0);
    }

    private static void promise1NoFormula() {
        Check.sentence("Promise 1", "no FORMULA");
        IsomerList list = new IsomerList();
        Check.due("atoms", list.count(1), 0);
        Check.due("hydrogens", list.count(2), 0);
        Check.dueThrow("element 0", () -> list.element(0), NO_SUCH);
        Check.due("place", list.place(), NONE);
    }

    private static void promise1EmptyList() {
        Check.sentence("Promise 1", "an empty LIST");
        IsomerList list = new IsomerList();
        Check.due("structures", list.count(0), 0);
        Check.dueThrow("bond", () -> list.bond(0, 0, 0), NO_SUCH);
        Check.dueThrow("hydrogens", () -> list.hydrogens(0, 0), NO_SUCH);
        Check.dueThrow("ways", () -> list.ways(0), NO_SUCH);
        Check.dueThrow("write", () -> list.write(0), NO_SUCH);
    }

    // ---- Promises 2 and 3 ----

    private static void promise2HowMany() {
        Check.sentence("Promise 2", "A character more: how many THE LINE has.");
        IsomerList list = new IsomerList();
        char[] any = {'\0', ' ', '\n', 'C', '\u007f', '\u00ff', '\u0100', '\ud800', '\uffff'};
        for (int k = 0; k < any.length; k++) {
            Check.due("type number " + k, list.type(any[k]), k + 1);
        }
        for (int k = 0; k < any.length; k++) {
            Check.due("character " + k, list.character(k), any[k]);
        }
        IsomerList written = Check.of("C2H6O");
        Check.due("write", written.write(0), 5);
        Check.due("type behind what was written", written.type('x'), 6);
        Check.dueLine(written, "C(C)Ox");
    }

    private static void promise2Full() {
        Check.sentence("Promise 2", "IllegalState: it has 60.");
        IsomerList list = new IsomerList();
        for (int k = 1; k <= 60; k++) {
            Check.due("type number " + k, list.type((char) ('@' + k)), k);
        }
        Check.dueThrow("type number 61", () -> list.type('x'), FULL);
        Check.dueThrow("and again", () -> list.type('y'), FULL);
        Check.due("character 59", list.character(59), '@' + 60);
        Check.due("character 60", list.character(60), ' ');
        Check.due("erase", list.erase(), 60);
        for (int k = 1; k <= 60; k++) {
            Check.due("type number " + k + " after erase", list.type('C'), k);
        }
        Check.dueThrow("type number 61 after erase", () -> list.type('x'), FULL);
        IsomerList shorter = Check.of("C2H6O");
        Check.retype(shorter, "C".repeat(60));
        shorter.write(1);
        Check.due("type when a text has taken the full line's place", shorter.type('x'), 4);
    }

    private static void promise3Empty() {
        Check.sentence("Promise 3", "THE LINE is empty: how many it had.");
        IsomerList list = new IsomerList();
        Check.due("erase of an empty line", list.erase(), 0);
        for (int length = 1; length <= 60; length += 59) {
            Check.typeAll(list, "C".repeat(length));
            Check.due("erase of " + length, list.erase(), length);
            Check.dueLine(list, "");
            Check.due("character " + (length - 1), list.character(length - 1), ' ');
            Check.due("erase again", list.erase(), 0);
        }
        IsomerList stale = Check.of("HCl");
        stale.erase();
        stale.type('C');
        Check.due("formula: what was erased is not seen", stale.formula(), 0);
        Check.due("element", stale.element(0), 0);
        IsomerList written = Check.of("C2H6O");
        written.write(0);
        Check.due("erase of what was written", written.erase(), 5);
        Check.due("the list stays", written.count(0), 2);
        Check.retype(written, "CC");
        Check.due("read: what was erased is not seen", written.read(), NONE);
    }

    // ---- Promise 4 ----

    private static void promise4LineStays() {
        Check.sentence("Promise 4", "THE LINE, which stays, is read as a FORMULA");
        for (String formula : new String[] {"C2H6O", "", "x", "CC", "C1", "H2", "C2N2O2H2", "C2H7", "C".repeat(60)}) {
            IsomerList list = new IsomerList();
            Check.typeAll(list, formula);
            int answer = list.formula();
            Check.dueLine(list, formula);
            Check.due("formula again", list.formula(), answer);
            Check.due("length of " + formula, list.erase(), formula.length());
        }
    }

    private static void promise4HowMany() {
        Check.sentence("Promise 4", "how many STRUCTURES THE LIST has now");
        IsomerList list = new IsomerList();
        // The same one again, and ones that differ from the one before in hydrogens, in an element or in all.
        String[] formulas = {"C2H6O", "C2H7", "C6H6", "C6H14", "C6H14", "H14C6", "C2NOSFH4", "C2H6S", "C2H6O", "C2H4O",
            "CH4", "CH4", "C", "OH2", "SH2", "H2", "S2H2", "C6H6"};
        int[] counts = {2, 0, 217, 5, 5, 5, 491, 2, 2, 3, 1, 1, 0, 1, 1, IsomerList.HEAVY, 1, 217};
        int[] lastElements = {2, 0, 0, 0, 0, 0, 5, 3, 2, 2, 0, 0, 0, 2, 3, 3, 3, 0};
        for (int k = 0; k < formulas.length; k++) {
            Check.retype(list, formulas[k]);
            Check.due("formula " + formulas[k], list.formula(), counts[k]);
            int size = counts[k] < 0 ? counts[k - 1] : counts[k];
            Check.due("count", list.count(0), size);
            Check.due("last element of " + formulas[k], list.element(list.count(1) - 1), lastElements[k]);
            Check.dueThrow("structure behind the last of " + formulas[k], () -> list.bond(size, 0, 0), NO_SUCH);
        }
    }

    private static void promise4FirstFault() {
        Check.sentence("Promise 4", "Or a fault, the first that shows, with its place");
        Check.dueFormula("xCC1", IsomerList.SIGN, 0);
        Check.dueFormula("CC1x", IsomerList.TWICE, 1);
        Check.dueFormula("C1Cx", IsomerList.NUMBER, 1);
        Check.dueFormula("C0C", IsomerList.NUMBER, 1);
        Check.dueFormula("CC0", IsomerList.TWICE, 1);
        Check.dueFormula("C7x", IsomerList.SIGN, 2);
        Check.dueFormula("C7C", IsomerList.TWICE, 2);
        Check.dueFormula("C7H1", IsomerList.NUMBER, 3);
        Check.dueFormula("C7H2", IsomerList.HEAVY, 4);
        Check.dueFormula("C2N2O2H2x", IsomerList.SIGN, 8);
        Check.dueFormula("H2H", IsomerList.TWICE, 2);
    }

    private static void promise4FormulaAndListStay() {
        Check.sentence("Promise 4", "(and FORMULA and LIST stay)");
        for (String wrong : new String[] {"", "x", "Nx", "NN", "N1", "N100", "H2", "N7", "C2N4H4", "C2N2O2H2"}) {
            IsomerList list = Check.of("C2H6O");
            String before = Check.state(list);
            Check.retype(list, wrong);
            Check.due(wrong + " is a fault", list.formula() < NONE ? 1 : 0, 1);
            Check.retype(list, "CCO");
            Check.due("read after " + wrong, list.read(), 0);
            Check.retype(list, "C2H6O");
            Check.due("state after " + wrong, Check.state(list), before);
            IsomerList fresh = new IsomerList();
            Check.typeAll(fresh, wrong);
            fresh.formula();
            Check.due("structures after " + wrong + " alone", fresh.count(0), 0);
            Check.due("atoms after " + wrong + " alone", fresh.count(1), 0);
            Check.due("hydrogens after " + wrong + " alone", fresh.count(2), 0);
        }
        IsomerList empty = Check.of("C6H6");
        Check.retype(empty, "C2H7");
        Check.due("an empty list is no fault", empty.formula(), 0);
        Check.due("it takes the place of the other", empty.count(1), 2);
        Check.due("with its hydrogens", empty.count(2), 7);
        Check.dueThrow("and without a structure", () -> empty.write(0), NO_SUCH);
    }

    private static void promise4Sign() {
        Check.sentence("Promise 4", "SIGN, a character that begins no element");
        for (char c = 0; c < 256; c++) {
            if ("CNOSPFIH".indexOf(c) < 0) {
                Check.dueFormula(String.valueOf(c), IsomerList.SIGN, 0);
                Check.dueFormula(c + "C", IsomerList.SIGN, 0);
                if (c != 'l' && (c < '0' || c > '9')) {
                    Check.dueFormula("C" + c, IsomerList.SIGN, 1);
                    Check.dueFormula("C2" + c + "H", IsomerList.SIGN, 2);
                }
            }
        }
        Check.dueFormula("CBR", IsomerList.SIGN, 1);
        Check.dueFormula("CBH", IsomerList.SIGN, 1);
        Check.dueFormula("CB", IsomerList.SIGN, 1);
        Check.dueFormula("CL", IsomerList.SIGN, 1);
        Check.dueFormula("Br2r", IsomerList.SIGN, 3);
        Check.dueFormula("C\uff14", IsomerList.SIGN, 1);
    }

    private static void promise4TwoBeforeOne() {
        Check.sentence("Promise 4", "(an element's sign of two characters goes before one of one)");
        Check.due("Cl alone", Check.dueFormula("ClH", 1, NONE).element(0), 6);
        Check.due("Br alone", Check.dueFormula("BrH", 1, NONE).element(0), 7);
        IsomerList both = Check.dueFormula("CClH3", 1, NONE);
        Check.due("C before Cl", both.element(0), 0);
        Check.due("Cl behind C", both.element(1), 6);
        Check.due("Cl before C", Check.dueFormula("ClCH3", 1, NONE).element(1), 6);
        Check.due("Cl with a number", Check.dueFormula("C2Cl4", 1, NONE).count(1), 6);
        Check.dueFormula("ClCl", IsomerList.TWICE, 2);
    }

    private static void promise4NoCharacter() {
        Check.sentence("Promise 4", "or no character at all");
        Check.dueFormula("", IsomerList.SIGN, 0);
        IsomerList list = Check.of("C2H6O");
        list.erase();
        Check.due("formula after erase", list.formula(), IsomerList.SIGN);
        Check.due("place after erase", list.place(), 0);
    }

    private static void promise4Twice() {
        Check.sentence("Promise 4", "TWICE, the beginning of an element that was there");
        for (String sign : SIGNS) {
            String other = sign.equals("C") ? "N" : "C";
            Check.dueFormula(sign + sign, IsomerList.TWICE, sign.length());
            Check.dueFormula(sign + other + sign + "2", IsomerList.TWICE, sign.length() + 1);
            Check.dueFormula(sign + "99" + other + "2" + sign, IsomerList.TWICE, sign.length() + 4);
        }
        Check.dueFormula("CNOSPFClBrIHC", IsomerList.TWICE, 12);
    }

    private static void promise4Number() {
        Check.sentence("Promise 4", "NUMBER, the beginning of a number that is 0, 1, above 99 or has a 0 in front");
        for (String number : new String[] {"0", "1", "00", "01", "02", "010", "099", "100", "101", "200", "999", "1000",
            "256", "65538", "4294967296", "4294967298", "18446744073709551618"}) {
            Check.dueFormula("C" + number, IsomerList.NUMBER, 1);
            Check.dueFormula("Cl" + number + "H", IsomerList.NUMBER, 2);
            Check.dueFormula("C2H" + number, IsomerList.NUMBER, 3);
        }
        Check.dueFormula("C2H2", 1, NONE);
        Check.dueFormula("C2H9", 0, NONE);
        Check.dueFormula("C2H10", 0, NONE);
        Check.dueFormula("C2H11", 0, NONE);
        Check.dueFormula("C2H99", 0, NONE);
    }

    private static void promise4NoAtom() {
        Check.sentence("Promise 4", "HEAVY, behind the last character, if there is no ATOM");
        Check.dueFormula("H", IsomerList.HEAVY, 1);
        Check.dueFormula("H2", IsomerList.HEAVY, 2);
        Check.dueFormula("H99", IsomerList.HEAVY, 3);
    }

    private static void promise4MoreThanSix() {
        Check.sentence("Promise 4", "or more than 6");
        Check.due("six are not", Check.dueFormula("C6H14", 5, NONE).count(1), 6);
        Check.due("six of two elements are not", Check.dueFormula("C2F4", 1, NONE).count(1), 6);
        Check.dueFormula("C7H16", IsomerList.HEAVY, 5);
        Check.dueFormula("C2F4H2O", IsomerList.HEAVY, 7);
        Check.dueFormula("C5H2N2", IsomerList.HEAVY, 6);
        Check.dueFormula("I99", IsomerList.HEAVY, 3);
        Check.dueFormula("C99N99O99S99P99F99Cl99Br99I99H99", IsomerList.HEAVY, 32);
    }

    private static void promise4Many() {
        Check.sentence("Promise 4", "MANY, there, if THE LIST would have more than 500");
        // No formula has 492 to 505 structures; these two are the nearest on both sides.
        Check.dueFormula("C2NOSFH4", 491, NONE);
        Check.dueFormula("C2N2O2H2", IsomerList.MANY, 8);
        Check.dueFormula("H2O2N2C2", IsomerList.MANY, 8);
        Check.dueFormula("C2N4H4", IsomerList.MANY, 6);
        IsomerList list = Check.of("C2NOSFH4");
        Check.retype(list, "C2N2O2H2");
        Check.due("after the longest list", list.formula(), IsomerList.MANY);
        Check.due("which stays", list.count(0), 491);
        list.write(490);
        Check.due("to its last one", list.read(), 490);
        Check.retype(list, "C2H6O");
        Check.due("a short one after it", list.formula(), 2);
    }

    // ---- Promises 5 and 6 ----

    private static void promise5LineStays() {
        Check.sentence("Promise 5", "THE LINE, which stays, is read as a TEXT");
        for (String text : new String[] {"CCO", "N", "", "x", "C11", "C1", "CCCCCCC", "FFF", "C(", "C".repeat(60)}) {
            IsomerList list = Check.of("C2H6O");
            String before = Check.state(list).substring(60);
            Check.retype(list, text);
            int answer = list.read();
            Check.dueLine(list, text);
            Check.due("read again", list.read(), answer);
            Check.due("length of " + text, list.erase(), text.length());
            list.type('C');
            list.read();
            Check.due("the list after " + text, Check.state(list).substring(60), before);
        }
    }

    private static void promise5Number() {
        Check.sentence("Promise 5", "the number of its STRUCTURE in THE LIST");
        Check.dueFound("CH4", "C", 0);
        Check.dueFound("C2H6O", "OCC", 0);
        Check.dueFound("C2H6O", "O(C)C", 1);
        Check.dueFound("C6H14", "CCCCCC", 4);
        IsomerList list = Check.of("C2NOSFH4");
        list.write(490);
        Check.due("the last one of the longest list", list.read(), 490);
        list.write(0);
        Check.due("the first one", list.read(), 0);
    }

    private static void promise5NotThere() {
        Check.sentence("Promise 5", "NONE if it is not there (it has another formula, or there is none)");
        IsomerList none = new IsomerList();
        Check.typeAll(none, "C");
        Check.due("read without a formula", none.read(), NONE);
        Check.due("place without a formula", none.place(), NONE);
        Check.dueFound("C2H6O", "CC=O", NONE);
        Check.dueFound("C2H6O", "C1OC1", NONE);
        Check.dueFound("C2H6O", "CCS", NONE);
        Check.dueFound("C2H6O", "CCC", NONE);
        Check.dueFound("C2H6O", "CC", NONE);
        Check.dueFound("C2H6O", "CCCO", NONE);
        Check.dueFound("C2H6O", "COO", NONE);
        Check.dueFound("CH4", "N", NONE);
        Check.dueFound("NH3", "P", NONE);
        Check.dueFound("OH2", "S", NONE);
        Check.dueFound("HCl", "Br", NONE);
        Check.dueFound("C2H7", "CC", NONE);
        Check.dueFound("C2H7", "C", NONE);
        Check.dueFound("C2", "C#C", NONE);
        Check.dueFound("C4N2H4", "C#CC=NNC", NONE);
    }

    private static void promise5Fault() {
        Check.sentence("Promise 5", "or a fault");
        String[] texts = {"", "C=", "C11", "C1", "CCCCCCC", "F=F"};
        int[] faults = {IsomerList.SIGN, IsomerList.SIGN, IsomerList.RING, IsomerList.RING, IsomerList.HEAVY,
            IsomerList.VALENCE};
        int[] places = {0, 2, 2, 2, 6, 3};
        for (int k = 0; k < texts.length; k++) {
            Check.dueRead("C2H6O", texts[k], faults[k], places[k]);
            IsomerList none = new IsomerList();
            Check.typeAll(none, texts[k]);
            Check.due("read without a formula of " + texts[k], none.read(), faults[k]);
            Check.due("place without a formula of " + texts[k], none.place(), places[k]);
        }
    }

    private static void promise6Last() {
        Check.sentence("Promise 6", "The place of the fault of the last formula or read");
        IsomerList list = Check.of("C2H6O");
        Check.retype(list, "CC-");
        Check.due("read", list.read(), IsomerList.SIGN);
        Check.due("place of the read", list.place(), 3);
        Check.due("place again", list.place(), 3);
        Check.due("formula", list.formula(), IsomerList.TWICE);
        Check.due("place of the formula", list.place(), 1);
        Check.due("read", list.read(), IsomerList.SIGN);
        Check.due("place of the read again", list.place(), 3);
        list.erase();
        list.type('x');
        list.write(0);
        list.ways(0);
        list.bond(0, 0, 1);
        list.hydrogens(0, 0);
        list.element(0);
        list.count(0);
        list.character(0);
        Check.dueThrow("element 9", () -> list.element(9), NO_SUCH);
        Check.due("place after calls that are neither", list.place(), 3);
        list.erase();
        Check.due("formula of no character", list.formula(), IsomerList.SIGN);
        Check.due("the least place", list.place(), 0);
        Check.dueFormula("C2N2O2H2", IsomerList.MANY, 8);
        Check.dueRead("CH4", "C-".repeat(6), IsomerList.SIGN, 12);
    }

    private static void promise6HadNone() {
        Check.sentence("Promise 6", "NONE if it had none");
        for (String text : new String[] {"CCO", "N", "C#N"}) {
            IsomerList list = Check.of("C2H6O");
            Check.due("place of a formula without fault", list.place(), NONE);
            Check.retype(list, "C(");
            list.read();
            Check.due("place of a fault", list.place(), 2);
            Check.retype(list, text);
            list.read();
            Check.due("place after " + text, list.place(), NONE);
            Check.retype(list, "");
            list.formula();
            Check.due("place of a fault at the first place", list.place(), 0);
            Check.retype(list, "C2H7");
            Check.due("formula without a structure", list.formula(), 0);
            Check.due("place after it", list.place(), NONE);
            Check.retype(list, "C2H7C");
            list.formula();
            Check.retype(list, "C2H7");
            list.formula();
            Check.due("place after the same formula again", list.place(), NONE);
        }
    }

    private static void promise6ThereWasNone() {
        Check.sentence("Promise 6", "or there was none");
        IsomerList list = new IsomerList();
        Check.due("place of a new object", list.place(), NONE);
        Check.typeAll(list, "x");
        list.erase();
        list.count(0);
        Check.dueThrow("write", () -> list.write(0), NO_SUCH);
        Check.due("place without formula and read", list.place(), NONE);
    }

    // ---- Promises 7 and 8 ----

    private static void promise7WithoutOne() {
        Check.sentence("Promise 7", "(0 without one)");
        IsomerList list = new IsomerList();
        for (int what = 0; what < 3; what++) {
            Check.due("count " + what, list.count(what), 0);
        }
        Check.typeAll(list, "C2H6O");
        for (int what = 0; what < 3; what++) {
            Check.due("count " + what + " of a line that was not read", list.count(what), 0);
        }
        list.read();
        Check.due("count 1 of a line that was read as a text", list.count(1), 0);
    }

    private static void promise7What() {
        Check.sentence("Promise 7", "What = 0 STRUCTURES of THE LIST, 1 ATOMS, 2 hydrogens of the FORMULA");
        String[] formulas = {"C2H6O", "C2NOSFH4", "CH99", "C", "N2", "IBrClFPSH99", "HF"};
        int[][] counts = {{2, 3, 6}, {491, 6, 4}, {0, 1, 99}, {0, 1, 0}, {1, 2, 0}, {0, 6, 99}, {1, 1, 1}};
        for (int k = 0; k < formulas.length; k++) {
            IsomerList list = Check.of(formulas[k]);
            for (int what = 0; what < 3; what++) {
                Check.due("count " + what + " of " + formulas[k], list.count(what), counts[k][what]);
            }
        }
    }

    private static void promise7Another() {
        Check.sentence("Promise 7", "NONE for another what.");
        for (IsomerList list : new IsomerList[] {new IsomerList(), Check.of("C2H6O")}) {
            for (int what : new int[] {-1, 3, -2, 4, 256, 65536, LEAST, GREATEST}) {
                Check.due("count " + what, list.count(what), NONE);
            }
        }
    }

    private static void promise8Element() {
        Check.sentence("Promise 8", "An ATOM's element.");
        Check.due("the only one", Check.of("IH").element(0), 8);
        IsomerList list = Check.of("I2Br2Cl2");
        for (int a = 0; a < 6; a++) {
            Check.due("element " + a, list.element(a), 6 + a / 2);
        }
        Check.due("of a formula without structures", Check.of("C2H7").element(1), 0);
    }

    private static void promise8NoneSuch() {
        Check.sentence("Promise 8", "IndexOutOfBounds: there is none such.");
        IsomerList[] lists = {new IsomerList(), Check.of("CH4"), Check.of("C2H6O"), Check.of("C6H6")};
        for (IsomerList list : lists) {
            for (int a : new int[] {-1, list.count(1), list.count(1) + 1, 6, LEAST, GREATEST}) {
                Check.dueThrow("element " + a, () -> list.element(a), NO_SUCH);
            }
        }
        Check.retype(lists[3], "CH4");
        lists[3].formula();
        Check.dueThrow("element 1 when there is one atom left", () -> lists[3].element(1), NO_SUCH);
    }

    // ---- Promises 9 and 10 ----

    private static void promise9WithItself() {
        Check.sentence("Promise 9", "BONDS between two ATOMS of STRUCTURE i (0 for one with itself).");
        int[][] codes = {{3, 1, 0}, {2, 2, 0}, {2, 1, 1}};
        IsomerList list = Check.of("C3H4");
        for (int i = 0; i < 3; i++) {
            int at = 0;
            for (int a = 0; a < 3; a++) {
                Check.due("bond with itself", list.bond(i, a, a), 0);
                for (int b = 0; b < a; b++) {
                    Check.due("bond " + i + " " + a + " " + b, list.bond(i, a, b), codes[i][at]);
                    Check.due("bond " + i + " " + b + " " + a, list.bond(i, b, a), codes[i][at]);
                    at++;
                }
            }
        }
        Check.due("the only atom with itself", Check.of("CH4").bond(0, 0, 0), 0);
        IsomerList six = Check.of("C6H14");
        int[] chain = {1, 1, 0, 0, 1, 0, 0, 0, 1, 0, 0, 0, 0, 1, 0};
        int at = 0;
        for (int a = 1; a < 6; a++) {
            for (int b = 0; b < a; b++) {
                Check.due("bond " + a + " " + b + " of the last of C6H14", six.bond(4, b, a), chain[at]);
                at++;
            }
        }
    }

    private static void promise9NoSuch() {
        Check.sentence("Promise 9", "IndexOutOfBounds: there is no such STRUCTURE, or ATOM.");
        IsomerList list = Check.of("C3H4");
        for (int i : new int[] {-1, 3, 499, 500, 501, LEAST, GREATEST}) {
            Check.dueThrow("bond of structure " + i, () -> list.bond(i, 0, 1), NO_SUCH);
        }
        for (int a : new int[] {-1, 3, 5, 6, 36, LEAST, GREATEST}) {
            Check.dueThrow("bond of atom " + a, () -> list.bond(2, a, 0), NO_SUCH);
            Check.dueThrow("bond to atom " + a, () -> list.bond(2, 0, a), NO_SUCH);
            Check.dueThrow("bond of atom with itself " + a, () -> list.bond(2, a, a), NO_SUCH);
        }
        Check.due("the last of all", list.bond(2, 2, 1), 1);
        IsomerList empty = Check.of("C2H7");
        Check.dueThrow("bond in an empty list", () -> empty.bond(0, 0, 1), NO_SUCH);
    }

    private static void promise10Hydrogens() {
        Check.sentence("Promise 10", "HYDROGENS of an ATOM of STRUCTURE i.");
        int[][] lacks = {{2, 3, 1}, {3, 3, 0}};
        IsomerList list = Check.of("C2H6O");
        for (int i = 0; i < 2; i++) {
            for (int a = 0; a < 3; a++) {
                Check.due("hydrogens " + i + " " + a, list.hydrogens(i, a), lacks[i][a]);
            }
        }
        Check.due("the most", Check.of("CH4").hydrogens(0, 0), 4);
        Check.due("none", Check.of("CF4").hydrogens(0, 0), 0);
        Check.due("none of the last atom", Check.of("C2F4").hydrogens(0, 5), 0);
    }

    private static void promise10NoSuch() {
        Check.sentence("Promise 10", "IndexOutOfBounds, as with bond.");
        IsomerList list = Check.of("C2H6O");
        for (int i : new int[] {-1, 2, 499, 500, 501, LEAST, GREATEST}) {
            Check.dueThrow("hydrogens of structure " + i, () -> list.hydrogens(i, 0), NO_SUCH);
        }
        for (int a : new int[] {-1, 3, 5, 6, LEAST, GREATEST}) {
            Check.dueThrow("hydrogens of atom " + a, () -> list.hydrogens(1, a), NO_SUCH);
        }
        IsomerList empty = Check.of("C2H7");
        Check.dueThrow("hydrogens in an empty list", () -> empty.hydrogens(0, 0), NO_SUCH);
    }

    // ---- Promises 11 and 12 ----

    private static void dueWays(String formula, String text, int ways) {
        IsomerList list = Check.of(formula);
        Check.retype(list, text);
        int i = list.read();
        Check.due("ways of " + text, list.ways(i), ways);
        Check.due("ways again", list.ways(i), ways);
        Check.dueLine(list, text);
    }

    private static void promise11Ways() {
        Check.sentence("Promise 11", "In how many ways the ATOMS of STRUCTURE i can be numbered anew, "
                + "each by one of its element, with the same BONDS for the same numbers.");
        dueWays("CH4", "C", 1);
        dueWays("CBrClIF", "C(Br)(Cl)(I)F", 1);
        dueWays("C2H6", "CC", 2);
        dueWays("CNH5", "CN", 1);
        dueWays("CF4", "C(F)(F)(F)F", 24);
        dueWays("CF3Cl", "C(F)(F)(F)Cl", 6);
        dueWays("C5H12", "C(C)(C)(C)C", 24);
        dueWays("C6H12", "C1CCCCC1", 12);
        dueWays("C6H6", "C1=CC=CC=C1", 6);
        // Six atoms each bound with all but one; six each bound with the three of the other half.
        dueWays("C6", "C123C45C16C47C26C357", 48);
        dueWays("C6H6", "C12C3C4C1C3C24", 72);
        dueWays("P4", "P12P3P1P23", 24);
        dueWays("C5", "C124C35C16C23C456", 120);
        dueWays("C3H4", "C1=CC1", 2);
        dueWays("C3H4", "C=C=C", 2);
        dueWays("C3H4", "C#CC", 1);
    }

    private static void promise11NoSuch() {
        Check.sentence("Promise 11", "IndexOutOfBounds: there is no such STRUCTURE.");
        for (IsomerList list : new IsomerList[] {new IsomerList(), Check.of("C2H7"), Check.of("C2H6O"), Check.of("C6H6")}) {
            for (int i : new int[] {-1, list.count(0), 499, 500, 501, LEAST, GREATEST}) {
                Check.dueThrow("ways of structure " + i, () -> list.ways(i), NO_SUCH);
            }
        }
        Check.due("ways of the last one", Check.of("C2H6O").ways(1), 2);
    }

    private static void promise12Becomes() {
        Check.sentence("Promise 12", "THE LINE becomes the TEXT of STRUCTURE i: how many characters.");
        for (String before : new String[] {"", "x", "C(C)O", "C".repeat(60)}) {
            IsomerList list = Check.of("C2H6O");
            Check.retype(list, before);
            Check.due("write 0 over " + before, list.write(0), 5);
            Check.dueLine(list, "C(C)O");
            Check.due("write 1 over the longer one", list.write(1), 3);
            Check.dueLine(list, "COC");
            Check.due("nothing is left of it", list.character(4), ' ');
            Check.due("write 1 again", list.write(1), 3);
            Check.due("its length", list.erase(), 3);
        }
        Check.due("the shortest", Check.of("CH4").write(0), 1);
        Check.due("the shortest of two characters", Check.of("HBr").write(0), 2);
    }

    private static void promise12NoSuch() {
        Check.sentence("Promise 12", "IndexOutOfBounds: there is no such STRUCTURE.");
        for (IsomerList list : new IsomerList[] {new IsomerList(), Check.of("C2H7"), Check.of("C2H6O"), Check.of("C6H6")}) {
            Check.retype(list, "xyz");
            for (int i : new int[] {-1, list.count(0), 499, 500, 501, LEAST, GREATEST}) {
                Check.dueThrow("write of structure " + i, () -> list.write(i), NO_SUCH);
            }
            Check.dueLine(list, "xyz");
            Check.due("its length", list.erase(), 3);
        }
    }

    // ---- Promise 13 ----

    private static void promise13Character() {
        Check.sentence("Promise 13", "Character k of THE LINE");
        IsomerList list = new IsomerList();
        for (int k = 0; k < 60; k++) {
            list.type((char) ('A' + k));
        }
        for (int k = 0; k < 60; k++) {
            Check.due("character " + k, list.character(k), 'A' + k);
        }
        list.erase();
        list.type('\0');
        Check.due("a character that is no sign", list.character(0), '\0');
    }

    private static void promise13NoneSuch() {
        Check.sentence("Promise 13", "a space if there is none such.");
        IsomerList list = new IsomerList();
        for (int length = 0; length <= 60; length++) {
            Check.due("character behind " + length, list.character(length), ' ');
            Check.due("character -1 of " + length, list.character(-1), ' ');
            if (length < 60) {
                list.type('x');
            }
        }
        for (int k : new int[] {60, 61, -60, LEAST, GREATEST}) {
            Check.due("character " + k, list.character(k), ' ');
        }
        list.erase();
        Check.due("character 0 after erase", list.character(0), ' ');
        list.type('y');
        Check.due("character 1 of what was longer", list.character(1), ' ');
    }
}
