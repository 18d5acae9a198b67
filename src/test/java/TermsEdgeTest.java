import java.util.Arrays;

/**
 * The edges that "What it is" and "Terms" name, a method for each sentence or part of one;
 * the promises that use the term stand behind its name.
 */
public final class TermsEdgeTest {
    private static final int NONE = IsomerList.NONE;
    private static final String[] SIGNS = {"C", "N", "O", "S", "P", "F", "Cl", "Br", "I"};
    private static final int[] VALENCES = {4, 3, 2, 2, 3, 1, 1, 1, 1};
    // Six atoms with a bond between each two, each bond told: 57 characters, which three more make a full line.
    private static final String ALL_BOUND = "Cl-1-2-3-4-Cl-5-6-7-Cl-1-8-9-Cl-2-5-1-Cl-3-6-8-Cl-4-7-9-1";

    public static void main(String[] args) {
        eachOnceHoweverNumbered();
        readBackToTheSamePlace();
        fiveHundredAndTwelveCalls();
        valencesOfTheElements();
        numbersOfTheElements();
        hydrogenIsNoAtom();
        lineOfSixty();
        formulaEachAtMostOnce();
        formulaNumbers();
        formulaNumberWithZeroInFront();
        formulaWithoutNumber();
        atomsByElements();
        oneToSixAtoms();
        bondsZeroToThree();
        atMostItsValence();
        hydrogensInSum();
        oneComesToEachOther();
        sameByNumberingAnew();
        greatestCode();
        greaterCodesFirst();
        textFromAtomZero();
        textRingsByRisingDigits();
        textBranchesButTheLast();
        textBondSigns();
        textGoesOnFirst();
        textRings();
        textNextDigit();
        readAnyNumberOfRings();
        readDigitsOneToNine();
        readAnyNumberOfBranches();
        readNothingBehind();
        readDash();
        readDigitFreeAgain();
        readBondAtOneEndOrBoth();
        readFirstFault();
        readMissingSign();
        readWrongSign();
        readSeventhAtom();
        readRingWithItself();
        readRingWithBound();
        readRingWithAnotherBond();
        readRingOpen();
        readValence();
        throwingChangesNothing();
        Check.end();
    }

    // ---- What it is ----

    private static void eachOnceHoweverNumbered() {
        Check.sentence("What it is (promises 4, 5)",
                "all ways to bind its atoms are listed, each once however it is numbered");
        for (String text : new String[] {"CCO", "OCC", "C(C)O", "C(O)C", "O(CC)", "C(C)(O)", "C(O)(C)"}) {
            Check.dueFound("C2H6O", text, 0);
        }
        String[] formulas = {"C6H14", "C6H12", "C6H6", "C5", "P4", "C2F4", "CNOH5"};
        int[] counts = {5, 25, 217, 6, 2, 1, 3};
        for (int k = 0; k < formulas.length; k++) {
            Check.dueFormula(formulas[k], counts[k], NONE);
        }
    }

    private static void readBackToTheSamePlace() {
        Check.sentence("What it is (promises 5, 12)",
                "each written as a line of signs, which is read back to the same place of the list");
        for (String formula : new String[] {"CH4", "C6H6", "C6", "C2NOSFH4", "CNOSPFH", "CBrClIF", "N6"}) {
            int size = Check.of(formula).count(0);
            Check.due("structures of " + formula, size > 0 ? 1 : 0, 1);
            for (int i = 0; i < size; i++) {
                IsomerList list = Check.of(formula);
                list.write(i);
                Check.due("read of text " + i + " of " + formula, list.read(), i);
            }
        }
    }

    private static void fiveHundredAndTwelveCalls() {
        Check.sentence("What it is (all promises)",
                "An object is used for at most 512 calls after it has been made");
        IsomerList list = new IsomerList();
        for (char c : "C6H6".toCharArray()) {
            list.type(c);
        }
        Check.due("call 5, formula", list.formula(), 217);
        for (int call = 6; call <= 510; call += 3) {
            int i = call % 217;
            list.write(i);
            Check.due("call " + (call + 1) + ", read", list.read(), i);
            Check.due("call " + (call + 2) + ", place", list.place(), NONE);
        }
        IsomerList typed = new IsomerList();
        for (int call = 1; call <= 512; call++) {
            boolean full = (call - 1) % 61 == 60;
            Check.due("call " + call, full ? typed.erase() : typed.type('C'), full ? 60 : (call - 1) % 61 + 1);
        }
    }

    // ---- Elements, the line, a formula ----

    private static void valencesOfTheElements() {
        Check.sentence("Terms, ELEMENTS (promises 4, 10)",
                "C, N, O, S, P, F, Cl, Br, I, with VALENCES 4, 3, 2, 2, 3, 1, 1, 1, 1");
        for (int e = 0; e < 9; e++) {
            for (int h = 0; h <= 6; h++) {
                String formula = SIGNS[e] + (h == 0 ? "" : h == 1 ? "H" : "H" + h);
                IsomerList list = Check.dueFormula(formula, h == VALENCES[e] ? 1 : 0, NONE);
                if (h == VALENCES[e]) {
                    Check.due("hydrogens of " + formula, list.hydrogens(0, 0), h);
                }
            }
            for (int f = 0; f <= 5; f++) {
                String text = SIGNS[e] + "(F)".repeat(f);
                int answer = f > VALENCES[e] ? IsomerList.VALENCE : NONE;
                Check.dueRead("CH3I", text, answer, f > VALENCES[e] ? text.length() : NONE);
            }
        }
    }

    private static void numbersOfTheElements() {
        Check.sentence("Terms, ELEMENTS (promise 8)", "their numbers are 0 .. 8");
        for (int e = 0; e < 9; e++) {
            Check.due("element of " + SIGNS[e], Check.of(SIGNS[e]).element(0), e);
        }
    }

    private static void hydrogenIsNoAtom() {
        Check.sentence("Terms, ELEMENTS (promises 4, 5, 7)", "H has number 9 and VALENCE 1.");
        IsomerList list = Check.of("HF");
        Check.due("atoms of HF", list.count(1), 1);
        Check.due("hydrogens of HF", list.count(2), 1);
        Check.due("element 0 of HF", list.element(0), 5);
        Check.due("H binds one", list.hydrogens(0, 0), 1);
        Check.dueRead("HF", "HF", IsomerList.SIGN, 0);
        Check.dueRead("HF", "FH", IsomerList.SIGN, 1);
        Check.dueRead("HF", "F(H)", IsomerList.SIGN, 2);
    }

    private static void lineOfSixty() {
        Check.sentence("Terms, THE LINE (promises 2, 4, 5)", "THE LINE are the characters typed, at most 60.");
        Check.dueFormula("C" + "9".repeat(59), IsomerList.NUMBER, 1);
        Check.dueFormula("C99N99O99S99P99F99Cl99Br99I99H99" + "C".repeat(28), IsomerList.TWICE, 32);
        Check.dueRead("CH4", "C" + "1".repeat(59), IsomerList.RING, 2);
        Check.dueRead("CH4", "C-" + "C".repeat(58), IsomerList.HEAVY, 7);
        dueFullRead(full("Cl1-2-3-4", "(", "(", "))"), IsomerList.VALENCE, 60);
        dueFullRead(full("Cl-1-2-3-4", "(", "(", ")"), IsomerList.SIGN, 60);
        dueFullRead(full("Cl-1-2-3-4", "", "(", ")x"), IsomerList.SIGN, 59);
        dueFullRead(full("Cl-1-2-3-4", "", "(", ")-"), IsomerList.SIGN, 60);
        dueFullRead(full("Cl-1-2-3-4", "", "(", "1)"), IsomerList.RING, 60);
        dueFullRead(full("Cl-1-2-3-4", "", "", "-11"), IsomerList.RING, 59);
        dueFullRead(full("Cl-1-2-3-4", "(", "", ")C"), IsomerList.HEAVY, 59);
        dueFullRead(full("Cl-1-2-3-4", "", "", "-Cl"), IsomerList.HEAVY, 58);
    }

    private static String full(String first, String fifth, String sixth, String end) {
        return ALL_BOUND.replace("Cl-1-2-3-4", first).replace("-Cl-3", fifth + "-Cl-3").replace("-Cl-4", sixth + "-Cl-4") + end;
    }

    private static void dueFullRead(String text, int answer, int place) {
        Check.due("length of " + text, text.length(), 60);
        Check.dueRead("C6H6", text, answer, place);
    }

    private static void formulaEachAtMostOnce() {
        Check.sentence("Terms, FORMULA (promise 4)", "a row of elements (and H), each at most once");
        for (int e = 0; e < 9; e++) {
            Check.dueFormula(SIGNS[e] + SIGNS[e], IsomerList.TWICE, SIGNS[e].length());
            Check.dueFormula(SIGNS[e] + "2H" + SIGNS[e], IsomerList.TWICE, SIGNS[e].length() + 2);
        }
        Check.dueFormula("HCH3", IsomerList.TWICE, 2);
        Check.due("each of six once", Check.of("BrClFINO").count(1), 6);
        Check.dueFormula("CCl", 0, NONE);
        Check.dueFormula("ClCH3", 1, NONE);
    }

    private static void formulaNumbers() {
        Check.sentence("Terms, FORMULA (promises 4, 7)", "each with a number 2 .. 99 behind it");
        Check.dueFormula("CH0", IsomerList.NUMBER, 2);
        Check.dueFormula("CH1", IsomerList.NUMBER, 2);
        for (int h = 2; h <= 99; h++) {
            IsomerList list = Check.dueFormula("CH" + h, h == 4 ? 1 : 0, NONE);
            Check.due("hydrogens of CH" + h, list.count(2), h);
        }
        Check.dueFormula("CH100", IsomerList.NUMBER, 2);
        Check.dueFormula("CH101", IsomerList.NUMBER, 2);
        Check.dueFormula("CH400", IsomerList.NUMBER, 2);
        Check.dueFormula("CH4294967300", IsomerList.NUMBER, 2);
        Check.dueFormula("CH18446744073709551620", IsomerList.NUMBER, 2);
    }

    private static void formulaNumberWithZeroInFront() {
        Check.sentence("Terms, FORMULA (promise 4)", "without a 0 in front");
        for (String number : new String[] {"0", "00", "01", "02", "04", "004", "0004", "099", "000"}) {
            Check.dueFormula("CH" + number, IsomerList.NUMBER, 2);
        }
        Check.due("a 0 behind is none in front", Check.dueFormula("C4H10", 2, NONE).count(2), 10);
    }

    private static void formulaWithoutNumber() {
        Check.sentence("Terms, FORMULA (promises 4, 7)", "or none (1)");
        IsomerList list = Check.dueFormula("HCN", 1, NONE);
        Check.due("atoms of HCN", list.count(1), 2);
        Check.due("hydrogens of HCN", list.count(2), 1);
    }

    private static void atomsByElements() {
        Check.sentence("Terms, FORMULA (promise 8)",
                "Its ATOMS are those that are not H, numbered from 0 on by elements in their order");
        IsomerList first = Check.of("FPSONC");
        IsomerList last = Check.of("IBrClFPS");
        IsomerList many = Check.of("H2I2OC3");
        for (int a = 0; a < 6; a++) {
            Check.due("element " + a + " of FPSONC", first.element(a), a);
            Check.due("element " + a + " of IBrClFPS", last.element(a), a + 3);
            Check.due("element " + a + " of H2I2OC3", many.element(a), a < 3 ? 0 : a < 4 ? 2 : 8);
        }
    }

    private static void oneToSixAtoms() {
        Check.sentence("Terms, FORMULA (promises 4, 7)", "there are 1 to 6.");
        Check.dueFormula("H", IsomerList.HEAVY, 1);
        Check.dueFormula("H99", IsomerList.HEAVY, 3);
        Check.due("one atom", Check.dueFormula("CH4", 1, NONE).count(1), 1);
        Check.due("six atoms", Check.dueFormula("C6H14", 5, NONE).count(1), 6);
        Check.due("six atoms of six elements", Check.dueFormula("CClBrIFO", 4, NONE).count(1), 6);
        Check.dueFormula("C7H16", IsomerList.HEAVY, 5);
        Check.dueFormula("C6N", IsomerList.HEAVY, 3);
        Check.dueFormula("CNOSPFCl", IsomerList.HEAVY, 8);
        Check.dueFormula("C99", IsomerList.HEAVY, 3);
    }

    // ---- A structure, its code, the list ----

    private static void bondsZeroToThree() {
        Check.sentence("Terms, STRUCTURE (promises 4, 9)", "binds each two ATOMS a, b with b(a, b) BONDS, 0 .. 3");
        Check.dueFormula("C2", 0, NONE);
        String[] formulas = {"C2H2", "C2H4", "C2H6"};
        for (int k = 0; k < 3; k++) {
            Check.due("bonds of " + formulas[k], Check.dueFormula(formulas[k], 1, NONE).bond(0, 0, 1), 3 - k);
        }
        Check.due("atoms that are not bound", Check.of("C2H6O").bond(1, 0, 1), 0);
    }

    private static void atMostItsValence() {
        Check.sentence("Terms, STRUCTURE (promises 4, 10)", "each ATOM has at most as many as its VALENCE");
        Check.dueFormula("CF4", 1, NONE);
        Check.dueFormula("CF5H", 0, NONE);
        Check.dueFormula("OF2", 1, NONE);
        Check.dueFormula("OF4", 0, NONE);
        Check.dueFormula("NF3", 1, NONE);
        Check.dueFormula("F2", 1, NONE);
        Check.dueFormula("F3", 0, NONE);
        Check.due("none is left of C in CF4", Check.of("CF4").hydrogens(0, 0), 0);
    }

    private static void hydrogensInSum() {
        Check.sentence("Terms, STRUCTURE (promises 4, 10)",
                "what it lacks are its HYDROGENS, which are in sum as many as the FORMULA has");
        int[] counts = {0, 0, 1, 0, 1, 0, 1, 0, 0};
        for (int h = 2; h < counts.length; h++) {
            Check.dueFormula("C2H" + h, counts[h], NONE);
        }
        Check.dueFormula("C2H", 0, NONE);
        Check.dueFormula("C6H99", 0, NONE);
        for (String formula : new String[] {"C3H6O", "C4H6", "C2H5NO", "C3H7Cl", "C5"}) {
            IsomerList list = Check.of(formula);
            for (int i = 0; i < list.count(0); i++) {
                int sum = 0;
                for (int a = 0; a < list.count(1); a++) {
                    sum += list.hydrogens(i, a);
                }
                Check.due("hydrogens in sum of " + i + " of " + formula, sum, list.count(2));
            }
        }
    }

    private static void oneComesToEachOther() {
        Check.sentence("Terms, STRUCTURE (promise 4)", "from each ATOM one comes to each other one by BONDS");
        Check.due("one atom alone", Check.of("CH4").count(0), 1);
        Check.dueFormula("C2H8", 0, NONE);
        Check.dueFormula("O2H4", 0, NONE);
        Check.dueFormula("F4", 0, NONE);
        Check.dueFormula("Cl2Br2", 0, NONE);
        // Two pairs with three bonds each would be a third one.
        Check.dueWrite("P4", "P1=PP=P1", "P12P3P1P23");
        Check.due("no third one", Check.of("P4").count(0), 2);
    }

    private static void sameByNumberingAnew() {
        Check.sentence("Terms, STRUCTURE (promises 4, 5)",
                "the same one if the ATOMS of one can be numbered anew, each by one of its element");
        Check.dueWrite("CH5NO", "C(N)O", "CNO", "CON");
        Check.due("the chain of three with each in its middle", Check.of("CH5NO").count(0), 3);
        Check.due("the chain of three alike", Check.of("C3H8").count(0), 1);
        Check.dueFound("CH5NO", "ONC", 1);
        Check.dueFound("CH5NO", "NOC", 2);
        Check.dueFound("CH5NO", "NCO", 0);
    }

    // Each structure is asked of an object of its own, so that none is used too often.
    private static int[][] bondsOf(String formula, int i) {
        IsomerList list = Check.of(formula);
        int atoms = list.count(1);
        int[][] bonds = new int[atoms][atoms];
        for (int a = 0; a < atoms; a++) {
            for (int b = 0; b < atoms; b++) {
                bonds[a][b] = list.bond(i, a, b);
            }
        }
        return bonds;
    }

    private static int[] kindsOf(String formula) {
        IsomerList list = Check.of(formula);
        int[] kinds = new int[list.count(1)];
        for (int a = 0; a < kinds.length; a++) {
            kinds[a] = list.element(a);
        }
        return kinds;
    }

    private static int[] code(int[][] bonds, int[] numbering) {
        int[] code = new int[15];
        int at = 0;
        for (int a = 1; a < numbering.length; a++) {
            for (int b = 0; b < a; b++) {
                code[at++] = bonds[numbering[a]][numbering[b]];
            }
        }
        return code;
    }

    private static int[] toldCode(int[][] bonds) {
        int[] numbering = new int[bonds.length];
        Arrays.setAll(numbering, a -> a);
        return code(bonds, numbering);
    }

    private static void greatestCode() {
        Check.sentence("Terms, THE CODE (promises 9, 12)",
                "A STRUCTURE is told in the numbering with the greatest CODE (by the first number that differs).");
        for (String formula : new String[] {"C3H4", "C4H6", "C4H8O", "C2N2H4", "C5H8", "C6H12", "C2F4", "N3P2H"}) {
            int[] kinds = kindsOf(formula);
            int size = Check.of(formula).count(0);
            Check.due("structures of " + formula, size > 0 ? 1 : 0, 1);
            for (int i = 0; i < size; i++) {
                int[][] bonds = bondsOf(formula, i);
                int greater = 0;
                for (int[] numbering : Model.numberings(kinds, kinds)) {
                    greater += Arrays.compare(code(bonds, numbering), toldCode(bonds)) > 0 ? 1 : 0;
                }
                Check.due("greater codes of " + i + " of " + formula, greater, 0);
            }
        }
    }

    private static void greaterCodesFirst() {
        Check.sentence("Terms, THE LIST (promises 9, 12)", "those with greater CODES first, from 0 on");
        Check.dueWrite("C3H4", "C(#C)C", "C(=C)=C", "C1=CC1");
        for (String formula : new String[] {"C6H6", "C2NOSFH4", "C6", "CNOSPFH5"}) {
            int size = Check.of(formula).count(0);
            int[] before = toldCode(bondsOf(formula, 0));
            for (int i = 1; i < size; i++) {
                int[] code = toldCode(bondsOf(formula, i));
                int order = Arrays.compare(before, code);
                Check.due("code " + i + " of " + formula + " is less than the one before", order > 0 ? 1 : 0, 1);
                before = code;
            }
        }
    }

    // ---- Its text ----

    private static void textFromAtomZero() {
        Check.sentence("Terms, ITS TEXT (promise 12)", "ITS TEXT is written from ATOM 0 on.");
        for (int e = 0; e < 9; e++) {
            int h = VALENCES[e];
            Check.dueWrite(SIGNS[e] + (h == 1 ? "H" : "H" + h), SIGNS[e]);
        }
        Check.dueWrite("OCH4", "CO");
        Check.dueWrite("ClBr", "ClBr");
        Check.dueWrite("BrCl", "ClBr");
    }

    private static void textRingsByRisingDigits() {
        Check.sentence("Terms, ITS TEXT (promise 12)",
                "then its RINGS, by rising digits, each the BOND's sign and its digit");
        Check.dueWrite("C5", "C1#CC12C#C2", "C1#CC=2C1=C=2", "C=1=C=C=C=C=1", "C=1=C2C=3C=1C2=3", "C12=C3C14C2=C34",
                "C124C35C16C23C456");
    }

    private static void textBranchesButTheLast() {
        Check.sentence("Terms, ITS TEXT (promise 12)",
                "for each of its ATOMS further on, but the last, ( , the BOND's sign, what that is written as, )");
        Check.dueWrite("CH4", "C");
        Check.dueWrite("C2H6", "CC");
        Check.dueWrite("C3H8", "C(C)C");
        Check.dueWrite("CCl2F2", "C(F)(F)(Cl)Cl");
        Check.dueWrite("C3H4", "C(#C)C", "C(=C)=C");
        Check.dueWrite("C4H10", "C(C)(C)C", "C(CC)C");
    }

    private static void textBondSigns() {
        Check.sentence("Terms, ITS TEXT (promise 12)", "A BOND's sign is nothing, = or # (1, 2, 3).");
        Check.dueWrite("C2H6", "CC");
        Check.dueWrite("C2H4", "C=C");
        Check.dueWrite("C2H2", "C#C");
        Check.dueWrite("O2", "O=O");
        Check.dueWrite("N2", "N#N");
    }

    private static void textGoesOnFirst() {
        Check.sentence("Terms, ITS TEXT (promise 12)",
                "one that was not come to is one further on, and one goes on from that first");
        Check.dueWrite("O3", "O1OO1");
        Check.dueWrite("S4", "S1SSS1");
        Check.dueWrite("N4H2", "N1=NN1N", "N1=NNN1", "N(=N)N=N", "N12N(N1)N2");
    }

    private static void textRings() {
        Check.sentence("Terms, ITS TEXT (promise 12)", "a BOND to one that was come to is a RING, "
                + "if it is not the one from which one came, and this BOND is no RING yet");
        Check.dueWrite("ClF", "FCl");
        Check.dueWrite("O2", "O=O");
        Check.dueWrite("O3", "O1OO1");
        Check.dueWrite("P4", "P1=PP=P1", "P12P3P1P23");
    }

    private static void textNextDigit() {
        Check.sentence("Terms, ITS TEXT (promise 12)", "it gets the next digit, from 1 on, when it is met");
        IsomerList list = Check.of("C6");
        // Six atoms each bound with four: twelve bonds and so seven rings, the most there can be.
        Check.retype(list, "C-1-2-3(-C-4-5(-C-1-6(-C-4-7(-C-2-6(-C-3-5-7)))))");
        Check.due("the longest text without fault", Check.text(list, 60).trim().length(), 49);
        int i = list.read();
        Check.due("it is found", i >= 0 ? 1 : 0, 1);
        int digits = 0;
        list.write(i);
        for (int digit = 1; digit <= 9; digit++) {
            int seen = 0;
            for (int k = 0; k < 60; k++) {
                seen += list.character(k) == '0' + digit ? 1 : 0;
            }
            Check.due("digit " + digit + " is met at two ends, up to 7", seen, digit <= 7 ? 2 : 0);
            digits += seen;
        }
        Check.due("digits in all", digits, 14);
        Check.due("read again", list.read(), i);
    }

    // ---- Reading a text ----

    private static void readAnyNumberOfRings() {
        Check.sentence("Terms, READING (promise 5)", "any number of RINGS (a BOND's sign, or nothing, and a digit 1 .. 9)");
        Check.dueFound("CH4", "C", 0);
        Check.dueFound("P4", "P12P3P1P23", 1);
        Check.dueRead("CH4", "C123456789", IsomerList.RING, 10);
        Check.dueRead("CH4", "C1=2#3-4=5#6-7=8#9", IsomerList.RING, 18);
        IsomerList list = Check.of("C5H6");
        Check.retype(list, "C123CC1C2C3");
        Check.due("three rings of one atom", list.ways(list.read()), 2);
    }

    private static void readDigitsOneToNine() {
        Check.sentence("Terms, READING (promise 5)", "a digit 1 .. 9");
        for (int digit = 1; digit <= 9; digit++) {
            Check.dueFound("C3H6", "C" + digit + "CC" + digit, 1);
        }
        Check.dueRead("C3H6", "C0CC0", IsomerList.SIGN, 1);
        Check.dueRead("C3H6", "C=0CC=0", IsomerList.SIGN, 2);
        Check.dueRead("C3H6", "C10CC10", IsomerList.SIGN, 2);
        Check.dueRead("C3H6", "C:CC:", IsomerList.SIGN, 1);
        Check.dueRead("C3H6", "C/CC/", IsomerList.SIGN, 1);
    }

    private static void readAnyNumberOfBranches() {
        Check.sentence("Terms, READING (promise 5)", "any number of ( and a BOND's sign, or nothing, a CHAIN and )");
        Check.dueFound("CF4", "C(F)(F)(F)F", 0);
        Check.dueFound("CF4", "C(F)(F)(F)(F)", 0);
        Check.dueFound("CF4", "FC(F)(F)F", 0);
        Check.dueFound("C6H14", "C(C(C(C(C(C)))))", 4);
        Check.dueFound("C6H14", "CCCCCC", 4);
        Check.dueRead("CF4", "C(F)(F)(F)(F)(F)", IsomerList.VALENCE, 16);
        Check.dueRead("CF4", "C()", IsomerList.SIGN, 2);
        Check.dueRead("CF4", "C((F))", IsomerList.SIGN, 2);
        Check.dueRead("CF4", "(C)", IsomerList.SIGN, 0);
        Check.dueRead("CF4", "C(=)", IsomerList.SIGN, 3);
        Check.dueRead("CF4", "C(1)", IsomerList.SIGN, 2);
        Check.dueRead("CF4", "C(F)1", IsomerList.SIGN, 4);
    }

    private static void readNothingBehind() {
        Check.sentence("Terms, READING (promise 5)", "then nothing, or a BOND's sign (or none) and a CHAIN");
        Check.dueFound("C2H6", "C(C)", 0);
        Check.dueFound("C2H6", "CC", 0);
        Check.dueFound("C2H4", "C=C", 0);
        Check.dueFound("C2H4", "C(=C)", 0);
        Check.dueFound("C3H4", "C(C)#C", 0);
        Check.dueRead("C2H4", "C(=C)=", IsomerList.SIGN, 6);
        Check.dueRead("C2H4", "C=", IsomerList.SIGN, 2);
    }

    private static void readDash() {
        Check.sentence("Terms, READING (promise 5)", "A BOND's sign may be -, too (1).");
        Check.dueFound("C2H6", "C-C", 0);
        Check.dueFound("C2H6", "C(-C)", 0);
        Check.dueFound("C3H6", "C-1CC-1", 1);
        Check.dueFound("C3H6", "C-1-C-C-1", 1);
        Check.dueRead("C2H6", "-C", IsomerList.SIGN, 0);
        Check.dueRead("C2H6", "C-", IsomerList.SIGN, 2);
        Check.dueRead("C2H6", "C--C", IsomerList.SIGN, 2);
        Check.dueRead("C2H6", "C-=C", IsomerList.SIGN, 2);
    }

    private static void readDigitFreeAgain() {
        Check.sentence("Terms, READING (promise 5)",
                "A digit opens a RING, and the next one like it closes it and is free again");
        IsomerList list = Check.of("C6H10");
        Check.retype(list, "C1CC1C2CC2");
        int i = list.read();
        Check.due("two rings are found", i >= 0 ? 1 : 0, 1);
        Check.dueFound("C6H10", "C1CC1C1CC1", i);
        Check.dueFound("C6H10", "C9CC9C9CC9", i);
        Check.dueRead("C6H10", "C1CC1C1CC", IsomerList.RING, 9);
        // The bond told at the first ring is not that of the second.
        Check.retype(list, "C=1CC1C1CC1");
        Check.due("a ring with two bonds, then one with one", list.read(), NONE);
        Check.dueRead("C6H10", "C1CC11CC1", NONE, NONE);
    }

    private static void readBondAtOneEndOrBoth() {
        Check.sentence("Terms, READING (promise 5)",
                "the BOND is that told at one end or at both (1, if at none)");
        for (String text : new String[] {"C=1CC1", "C1CC=1", "C=1CC=1", "C1=CC1", "C1C=C1"}) {
            Check.dueFound("C3H4", text, 2);
        }
        for (String text : new String[] {"C1CC1", "C-1CC1", "C1CC-1", "C-1CC-1"}) {
            Check.dueFound("C3H6", text, 1);
        }
        for (String text : new String[] {"C#1CCC1", "C1CCC#1", "C#1CCC#1", "C1#CCC1"}) {
            IsomerList list = Check.of("C4H4");
            Check.retype(list, text);
            list.write(list.read());
            Check.dueLine(list, "C1#CCC1");
        }
    }

    private static void readFirstFault() {
        Check.sentence("Terms, READING (promises 5, 6)", "FAULTS, the first that shows, with the place of the character");
        Check.dueRead("CH4", "C11xF(F)(F", IsomerList.RING, 2);
        Check.dueRead("CH4", "CxC11", IsomerList.SIGN, 1);
        Check.dueRead("CH4", "CCCCCCCx11", IsomerList.HEAVY, 6);
        Check.dueRead("CH4", "FFFFFF)", IsomerList.SIGN, 6);
        Check.dueRead("CH4", "FFF1", IsomerList.RING, 4);
        Check.dueRead("CH4", "FFF", IsomerList.VALENCE, 3);
        Check.dueRead("CH4", "F1(F", IsomerList.SIGN, 4);
    }

    private static void readMissingSign() {
        Check.sentence("Terms, READING (promises 5, 6)", "(that behind the last one, if something is missing)");
        Check.dueRead("CH4", "", IsomerList.SIGN, 0);
        Check.dueRead("CH4", "C-", IsomerList.SIGN, 2);
        Check.dueRead("CH4", "C=", IsomerList.SIGN, 2);
        Check.dueRead("CH4", "C#", IsomerList.SIGN, 2);
        Check.dueRead("CH4", "C(", IsomerList.SIGN, 2);
        Check.dueRead("CH4", "C(=", IsomerList.SIGN, 3);
        Check.dueRead("CH4", "C(C", IsomerList.SIGN, 3);
        Check.dueRead("CH4", "C(C(C)", IsomerList.SIGN, 6);
        Check.dueRead("CH4", "C(C)=", IsomerList.SIGN, 5);
        Check.dueRead("CH4", "C(C(C(C(C(C(", IsomerList.SIGN, 12);
        Check.dueRead("CH4", "CCCCCC=", IsomerList.SIGN, 7);
    }

    private static void readWrongSign() {
        Check.sentence("Terms, READING (promises 5, 6)", "SIGN, a character that cannot be there");
        for (char c = 0; c < 256; c++) {
            boolean begins = "CNOSPFI".indexOf(c) >= 0;
            Check.dueRead("CBrF3", String.valueOf(c), begins ? NONE : IsomerList.SIGN, begins ? NONE : 0);
            if (!begins && "123456789-=#(l".indexOf(c) < 0) {
                Check.dueRead("CH4", "C" + c, IsomerList.SIGN, 1);
                Check.dueRead("CH4", "C" + c + "C", IsomerList.SIGN, 1);
            }
        }
        Check.dueRead("HCl", "Cl", 0, NONE);
        Check.dueRead("HCl", "CL", IsomerList.SIGN, 1);
        Check.dueRead("HCl", "cl", IsomerList.SIGN, 0);
        Check.dueRead("HCl", "Cll", IsomerList.SIGN, 2);
        Check.dueRead("HBr", "Br", 0, NONE);
        Check.dueRead("HBr", "BR", IsomerList.SIGN, 0);
        Check.dueRead("HBr", "CBC", IsomerList.SIGN, 1);
        Check.dueRead("HBr", "\uff23", IsomerList.SIGN, 0);
        Check.dueRead("HBr", "C)", IsomerList.SIGN, 1);
        Check.dueRead("HBr", "C(C))", IsomerList.SIGN, 4);
    }

    private static void readSeventhAtom() {
        Check.sentence("Terms, READING (promises 5, 6)", "HEAVY, the seventh ATOM's sign");
        Check.dueFound("C6H14", "CCCCCC", 4);
        Check.dueRead("C6H14", "CCCCCCC", IsomerList.HEAVY, 6);
        Check.dueRead("C6H14", "ClClClClClClCl", IsomerList.HEAVY, 12);
        Check.dueRead("C6H14", "CCCCCC=C", IsomerList.HEAVY, 7);
        Check.dueRead("C6H14", "CCCCCC(-C)", IsomerList.HEAVY, 8);
        Check.dueRead("C6H14", "C(C)(C)(C)(C)(C)(C)", IsomerList.HEAVY, 17);
        Check.dueRead("C6H14", "CCCCCCH", IsomerList.SIGN, 6);
        Check.dueRead("C6H14", "CCCCCCB", IsomerList.SIGN, 6);
    }

    private static void readRingWithItself() {
        Check.sentence("Terms, READING (promises 5, 6)", "RING, the digit that closes a RING of an ATOM with itself");
        Check.dueRead("CH4", "C11", IsomerList.RING, 2);
        Check.dueRead("CH4", "C1=1", IsomerList.RING, 3);
        Check.dueRead("CH4", "C123-1", IsomerList.RING, 5);
        Check.dueRead("CH4", "CC99", IsomerList.RING, 3);
    }

    private static void readRingWithBound() {
        Check.sentence("Terms, READING (promises 5, 6)", "or with one to which it is bound already");
        Check.dueRead("CH4", "C1C1", IsomerList.RING, 3);
        Check.dueRead("CH4", "C1=C-1", IsomerList.RING, 5);
        Check.dueRead("CH4", "C1(C)C1", IsomerList.RING, 6);
        Check.dueRead("CH4", "C12CC12", IsomerList.RING, 6);
        Check.dueRead("CH4", "C12CC2=1", IsomerList.RING, 7);
    }

    private static void readRingWithAnotherBond() {
        Check.sentence("Terms, READING (promises 5, 6)", "or with another BOND than at its beginning");
        Check.dueRead("CH4", "C-1CC=1", IsomerList.RING, 6);
        Check.dueRead("CH4", "C=1CC-1", IsomerList.RING, 6);
        Check.dueRead("CH4", "C=1CC#1", IsomerList.RING, 6);
        Check.dueRead("CH4", "C#1CC=1", IsomerList.RING, 6);
        Check.dueRead("CH4", "C-1CC#1", IsomerList.RING, 6);
        Check.dueRead("CH4", "C#1CC-1", IsomerList.RING, 6);
    }

    private static void readRingOpen() {
        Check.sentence("Terms, READING (promises 5, 6)", "or, at the end, one that is open");
        for (int digit = 1; digit <= 9; digit++) {
            Check.dueRead("CH4", "C" + digit, IsomerList.RING, 2);
        }
        Check.dueRead("CH4", "C=1", IsomerList.RING, 3);
        Check.dueRead("CH4", "C12CC1", IsomerList.RING, 6);
        Check.dueRead("CH4", "F1(F)(F)F", IsomerList.RING, 9);
    }

    private static void readValence() {
        Check.sentence("Terms, READING (promises 5, 6)", "then VALENCE, at the end, if an ATOM has more BONDS than it may "
                + "(at the end: the place is how many characters there are)");
        Check.dueRead("CH4", "C(F)(F)(F)F", NONE, NONE);
        Check.dueRead("CH4", "C(F)(F)(F)(F)F", IsomerList.VALENCE, 14);
        Check.dueRead("CH4", "C=C=C", NONE, NONE);
        Check.dueRead("CH4", "C=C#C", IsomerList.VALENCE, 5);
        Check.dueRead("CH4", "N#N", NONE, NONE);
        Check.dueRead("CH4", "N#N-F", IsomerList.VALENCE, 5);
        Check.dueRead("CH4", "F=F", IsomerList.VALENCE, 3);
        Check.dueRead("CH4", "O1=CC1", IsomerList.VALENCE, 6);
        Check.dueRead("CH4", "CC=1CO1", IsomerList.VALENCE, 7);
        Check.dueRead("CH4", "IFC", IsomerList.VALENCE, 3);
    }

    // ---- Calls that throw ----

    private static void throwingChangesNothing() {
        Check.sentence("Terms (promises 2, 8, 9, 10, 11, 12)", "A call that throws changes nothing");
        IsomerList list = Check.of("C2H6O");
        Check.retype(list, "C".repeat(60));
        list.read();
        Check.due("place", list.place(), 6);
        String before = Check.state(list);
        Class<?> none = IndexOutOfBoundsException.class;
        Check.dueThrow("type", () -> list.type('x'), IllegalStateException.class);
        Check.dueThrow("element", () -> list.element(3), none);
        Check.dueThrow("bond of no structure", () -> list.bond(2, 0, 1), none);
        Check.dueThrow("bond of no atom", () -> list.bond(1, 3, 1), none);
        Check.dueThrow("bond to no atom", () -> list.bond(1, 1, -1), none);
        Check.dueThrow("hydrogens of no structure", () -> list.hydrogens(-1, 0), none);
        Check.dueThrow("hydrogens of no atom", () -> list.hydrogens(0, 3), none);
        Check.dueThrow("ways", () -> list.ways(2), none);
        Check.dueThrow("write", () -> list.write(2), none);
        Check.dueThrow("write of -1", () -> list.write(-1), none);
        Check.due("state", Check.state(list), before);
        Check.due("the line is as long", list.erase(), 60);
    }
}
