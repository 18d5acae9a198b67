/** Each promise of the document: ordinary inputs, the edges it names, and wrong inputs. */
public final class PromiseTest {
    private static final Class<?> FULL = IllegalStateException.class;
    private static final Class<?> NO_SUCH = IndexOutOfBoundsException.class;

    public static void main(String[] args) {
        promise1NewObject();
        promise2Type();
        promise3Erase();
        promise4FormulaCounts();
        promise4FormulaFaults();
        promise4FaultsLeaveTheList();
        promise5ReadFinds();
        promise5ReadFaults();
        promise6Place();
        promise7Count();
        promise8Element();
        promise9Bond();
        promise10Hydrogens();
        promise11Ways();
        promise12Write();
        promise13Character();
        Check.end();
    }

    private static void promise1NewObject() {
        IsomerList list = new IsomerList();
        Check.due("new: count 0", list.count(0), 0);
        Check.due("new: count 1", list.count(1), 0);
        Check.due("new: count 2", list.count(2), 0);
        Check.due("new: place", list.place(), IsomerList.NONE);
        Check.due("new: character 0", list.character(0), ' ');
        Check.due("new: erase", list.erase(), 0);
        Check.dueThrow("new: element 0", () -> list.element(0), NO_SUCH);
        Check.dueThrow("new: write 0", () -> list.write(0), NO_SUCH);
        Check.typeAll(list, "C");
        Check.due("new: read without a formula", list.read(), IsomerList.NONE);
        Check.due("other objects know nothing of it", new IsomerList().erase(), 0);
    }

    private static void promise2Type() {
        IsomerList list = new IsomerList();
        for (int k = 1; k <= 60; k++) {
            Check.due("type number " + k, list.type((char) ('@' + k)), k);
        }
        Check.dueThrow("type number 61", () -> list.type('x'), FULL);
        Check.due("the 60th is still there", list.character(59), '@' + 60);
        Check.due("no 61st came", list.character(60), ' ');
        Check.due("erase after the full line", list.erase(), 60);
        Check.due("type of any character", list.type('\uffff'), 1);
        Check.due("it is kept", list.character(0), '\uffff');
    }

    private static void promise3Erase() {
        IsomerList list = Check.of("C2H6O");
        Check.due("erase", list.erase(), 5);
        Check.due("erase again", list.erase(), 0);
        Check.due("nothing is left", list.character(0), ' ');
        Check.due("the list stays", list.count(0), 2);
        Check.due("type begins anew", list.type('O'), 1);
        list.write(1);
        Check.due("erase of what was written", list.erase(), 3);
    }

    private static void promise4FormulaCounts() {
        String[] formulas = {"CH4", "C2H6", "C3H8", "C4H10", "C5H12", "C6H14", "C6H12", "C6H10", "C6H8", "C6H6",
            "C5H10", "C5H8", "C4H8", "C4H6", "C3H4", "C2H6O", "C3H8O", "C4H10O", "CH2O", "C2H4O2", "HCl", "H2O",
            "C2NOSFH4", "N2", "BrI", "C4", "C", "C2", "C2H7", "C6H99", "CH3", "F3", "H4C", "CHClBrF", "IH"};
        int[] counts = {1, 1, 1, 2, 3, 5, 25, 77, 159, 217,
            10, 26, 5, 9, 3, 2, 3, 7, 1, 10, 1, 1,
            491, 1, 1, 3, 0, 0, 0, 0, 0, 0, 1, 1, 1};
        for (int k = 0; k < formulas.length; k++) {
            Check.dueFormula(formulas[k], counts[k], IsomerList.NONE);
        }
    }

    private static void promise4FormulaFaults() {
        Check.dueFormula("", IsomerList.SIGN, 0);
        Check.dueFormula("2C", IsomerList.SIGN, 0);
        Check.dueFormula("Cx", IsomerList.SIGN, 1);
        Check.dueFormula("C2h6", IsomerList.SIGN, 2);
        Check.dueFormula("CB", IsomerList.SIGN, 1);
        Check.dueFormula("BC", IsomerList.SIGN, 0);
        Check.dueFormula("C2 H6", IsomerList.SIGN, 2);
        Check.dueFormula("CL", IsomerList.SIGN, 1);
        Check.dueFormula("CHC", IsomerList.TWICE, 2);
        Check.dueFormula("CH2H", IsomerList.TWICE, 3);
        Check.dueFormula("BrCBr", IsomerList.TWICE, 3);
        Check.dueFormula("CC0", IsomerList.TWICE, 1);
        Check.dueFormula("ClC", 0, IsomerList.NONE);
        Check.dueFormula("C0", IsomerList.NUMBER, 1);
        Check.dueFormula("C1", IsomerList.NUMBER, 1);
        Check.dueFormula("C02", IsomerList.NUMBER, 1);
        Check.dueFormula("CH100", IsomerList.NUMBER, 2);
        Check.dueFormula("CH99", 0, IsomerList.NONE);
        Check.dueFormula("CH10", 0, IsomerList.NONE);
        Check.dueFormula("CCl01x", IsomerList.NUMBER, 3);
        Check.dueFormula("C9999999999999999999999999999999999999", IsomerList.NUMBER, 1);
        Check.dueFormula("C4294967298", IsomerList.NUMBER, 1);
        Check.dueFormula("H", IsomerList.HEAVY, 1);
        Check.dueFormula("H2", IsomerList.HEAVY, 2);
        Check.dueFormula("C7H2", IsomerList.HEAVY, 4);
        Check.dueFormula("C4N3", IsomerList.HEAVY, 4);
        Check.dueFormula("C99N99O99S99P99F99Cl99Br99I99H99", IsomerList.HEAVY, 32);
        Check.dueFormula("C7H2x", IsomerList.SIGN, 4);
        Check.dueFormula("C2N2O2H2", IsomerList.MANY, 8);
        Check.dueFormula("C2H4N4", IsomerList.MANY, 6);
    }

    private static void promise4FaultsLeaveTheList() {
        for (String wrong : new String[] {"", "x", "CC", "C1", "H2", "C7", "C2N4H4"}) {
            IsomerList list = Check.of("C2H6O");
            Check.retype(list, wrong);
            Check.due("fault of " + wrong, list.formula() < IsomerList.NONE ? 1 : 0, 1);
            Check.due("structures after " + wrong, list.count(0), 2);
            Check.due("atoms after " + wrong, list.count(1), 3);
            Check.due("hydrogens after " + wrong, list.count(2), 6);
            Check.due("bond after " + wrong, list.bond(1, 2, 1), 1);
            Check.retype(list, "OCC");
            Check.due("read after " + wrong, list.read(), 0);
        }
        IsomerList list = Check.of("C6H6");
        Check.retype(list, "C2H7");
        Check.due("an empty list is no fault", list.formula(), 0);
        Check.due("and takes the place of the other", list.count(1), 2);
        Check.dueThrow("whose structures are gone", () -> list.ways(0), NO_SUCH);
        Check.retype(list, "C2H6O");
        Check.due("a new formula", list.formula(), 2);
        Check.due("the same again", list.formula(), 2);
        Check.retype(list, "C2H6S");
        Check.due("one that differs in an element alone", list.formula(), 2);
        Check.due("which is the list's now", list.element(2), 3);
    }

    private static void promise5ReadFinds() {
        Check.dueFound("C2H6O", "OCC", 0);
        Check.dueFound("C2H6O", "C(O)C", 0);
        Check.dueFound("C2H6O", "C(C)(O)", 0);
        Check.dueFound("C2H6O", "C-O-C", 1);
        Check.dueFound("C2H6O", "O(C)C", 1);
        Check.dueFound("C2H6O", "O(-C)(-C)", 1);
        Check.dueFound("C2H6O", "CC=O", IsomerList.NONE);
        Check.dueFound("C2H6O", "CCC", IsomerList.NONE);
        Check.dueFound("C2H6O", "C", IsomerList.NONE);
        Check.dueFound("C6H6", "C1=CC=CC=C1", 200);
        Check.dueFound("C6H6", "C=1C=CC=CC1", 200);
        Check.dueFound("C6H6", "C=1C=CC=CC=1", 200);
        Check.dueFound("C6H6", "C9C=CC=CC=9", 200);
        Check.dueFound("C6H6", "C-7=CC=CC=C7", 200);
        Check.dueFound("HCl", "Cl", 0);
        Check.dueFound("HBr", "Br", 0);
        Check.dueFound("N2", "N#N", 0);
        Check.dueFound("CH4", "C", 0);
        Check.dueFound("CH4", "CC", IsomerList.NONE);
        Check.dueFound("CH4", "CO", IsomerList.NONE);
        Check.dueFound("C2H6", "CCO", IsomerList.NONE);
        Check.dueFound("PH3", "N", IsomerList.NONE);
        Check.dueFound("C2H6O", "CCS", IsomerList.NONE);
        Check.dueFound("C2H6O", "C(C)(C)(C)(C)", IsomerList.NONE);
        IsomerList list = Check.of("C6H10");
        Check.retype(list, "C1CC1C2CC2");
        int two = list.read();
        Check.retype(list, "C1CC1C1CC1");
        Check.due("a digit is free again", list.read(), two);
        Check.due("and it is found", two >= 0 ? 1 : 0, 1);
    }

    private static void promise5ReadFaults() {
        Check.dueRead("C2H6O", "", IsomerList.SIGN, 0);
        Check.dueRead("C2H6O", "x", IsomerList.SIGN, 0);
        Check.dueRead("C2H6O", "H", IsomerList.SIGN, 0);
        Check.dueRead("C2H6O", "CH", IsomerList.SIGN, 1);
        Check.dueRead("C2H6O", "1C", IsomerList.SIGN, 0);
        Check.dueRead("C2H6O", "=C", IsomerList.SIGN, 0);
        Check.dueRead("C2H6O", "(C)", IsomerList.SIGN, 0);
        Check.dueRead("C2H6O", "C0", IsomerList.SIGN, 1);
        Check.dueRead("C2H6O", "C=", IsomerList.SIGN, 2);
        Check.dueRead("C2H6O", "C==C", IsomerList.SIGN, 2);
        Check.dueRead("C2H6O", "C()", IsomerList.SIGN, 2);
        Check.dueRead("C2H6O", "C(", IsomerList.SIGN, 2);
        Check.dueRead("C2H6O", "C(=", IsomerList.SIGN, 3);
        Check.dueRead("C2H6O", "C(1)", IsomerList.SIGN, 2);
        Check.dueRead("C2H6O", "C=(C)", IsomerList.SIGN, 2);
        Check.dueRead("C2H6O", "C((C))", IsomerList.SIGN, 2);
        Check.dueRead("C2H6O", "C(C", IsomerList.SIGN, 3);
        Check.dueRead("C2H6O", "C1(C", IsomerList.SIGN, 4);
        Check.dueRead("C2H6O", "C)", IsomerList.SIGN, 1);
        Check.dueRead("C2H6O", "C(C))", IsomerList.SIGN, 4);
        Check.dueRead("C2H6O", "C(C=)", IsomerList.SIGN, 4);
        Check.dueRead("C2H6O", "C(C)1", IsomerList.SIGN, 4);
        Check.dueRead("C2H6O", "C(C)=1", IsomerList.SIGN, 5);
        Check.dueRead("C2H6O", "CB", IsomerList.SIGN, 1);
        Check.dueRead("C2H6O", "C C", IsomerList.SIGN, 1);
        Check.dueRead("C2H6O", "C\u0000", IsomerList.SIGN, 1);
        Check.dueRead("C2H6O", "CCCCCCC", IsomerList.HEAVY, 6);
        Check.dueRead("C2H6O", "ClClClClClClBr", IsomerList.HEAVY, 12);
        Check.dueRead("C2H6O", "C(C(C(C(C(C(=C", IsomerList.HEAVY, 13);
        Check.dueRead("C2H6O", "CCCCCCCx", IsomerList.HEAVY, 6);
        Check.dueRead("C2H6O", "C(C(C(C(C(C(", IsomerList.SIGN, 12);
        Check.dueRead("C2H6O", "CCCCCCx", IsomerList.SIGN, 6);
        Check.dueRead("C2H6O", "C11", IsomerList.RING, 2);
        Check.dueRead("C2H6O", "C1C1", IsomerList.RING, 3);
        Check.dueRead("C2H6O", "C1(C1)", IsomerList.RING, 4);
        Check.dueRead("C2H6O", "C12CC12", IsomerList.RING, 6);
        Check.dueRead("C2H6O", "C=1CC#1", IsomerList.RING, 6);
        Check.dueRead("C2H6O", "C-1CC=1", IsomerList.RING, 6);
        Check.dueRead("C2H6O", "C1CC1C1", IsomerList.RING, 7);
        Check.dueRead("C2H6O", "C1CCx", IsomerList.SIGN, 4);
        Check.dueRead("C2H6O", "F1FFFF", IsomerList.RING, 6);
        Check.dueRead("C2H6O", "FFF", IsomerList.VALENCE, 3);
        Check.dueRead("C2H6O", "C#C=C", IsomerList.VALENCE, 5);
        Check.dueRead("C2H6O", "O=1CC1", IsomerList.VALENCE, 6);
        Check.dueRead("C2H6O", "O=O", IsomerList.NONE, IsomerList.NONE);
        Check.dueRead("C2H6O", "O#C", IsomerList.VALENCE, 3);
    }

    private static void promise6Place() {
        IsomerList list = Check.of("C2H6O");
        Check.due("place of a formula without fault", list.place(), IsomerList.NONE);
        Check.retype(list, "CC-");
        Check.due("place before the read", list.place(), IsomerList.NONE);
        list.read();
        Check.due("place after the read", list.place(), 3);
        list.erase();
        list.type('C');
        list.write(0);
        list.count(0);
        Check.due("other calls leave it", list.place(), 3);
        list.formula();
        Check.due("place of a faulty formula", list.place(), 1);
        list.read();
        Check.due("place of a read without fault", list.place(), IsomerList.NONE);
        Check.retype(list, "N");
        list.read();
        Check.due("a text that is not there is no fault", list.place(), IsomerList.NONE);
    }

    private static void promise7Count() {
        IsomerList list = Check.of("H5C2NO");
        Check.due("count 0", list.count(0), list.formula());
        Check.due("count 1", list.count(1), 4);
        Check.due("count 2", list.count(2), 5);
        Check.due("count 3", list.count(3), IsomerList.NONE);
        Check.due("count -1", list.count(-1), IsomerList.NONE);
        Check.due("count of the greatest int", list.count(Integer.MAX_VALUE), IsomerList.NONE);
        Check.due("count of the least int", list.count(Integer.MIN_VALUE), IsomerList.NONE);
        IsomerList many = Check.of("CH99");
        Check.due("count 0 of an empty list", many.count(0), 0);
        Check.due("count 2 of an empty list", many.count(2), 99);
    }

    private static void promise8Element() {
        IsomerList list = Check.of("IBrClFPS");
        for (int a = 0; a < 6; a++) {
            Check.due("element " + a, list.element(a), a + 3);
        }
        IsomerList other = Check.of("OHNC2");
        int[] kinds = {0, 0, 1, 2};
        for (int a = 0; a < 4; a++) {
            Check.due("element " + a, other.element(a), kinds[a]);
        }
        Check.dueThrow("element 4", () -> other.element(4), NO_SUCH);
        Check.dueThrow("element -1", () -> other.element(-1), NO_SUCH);
        Check.dueThrow("element of the least int", () -> other.element(Integer.MIN_VALUE), NO_SUCH);
    }

    private static void promise9Bond() {
        IsomerList list = Check.of("C3H4");
        int[][] codes = {{3, 1, 0}, {2, 2, 0}, {2, 1, 1}};
        for (int i = 0; i < 3; i++) {
            Check.due("bond 1 0 of " + i, list.bond(i, 1, 0), codes[i][0]);
            Check.due("bond 2 0 of " + i, list.bond(i, 2, 0), codes[i][1]);
            Check.due("bond 2 1 of " + i, list.bond(i, 2, 1), codes[i][2]);
            Check.due("bond 1 2 of " + i, list.bond(i, 1, 2), codes[i][2]);
            Check.due("bond 2 2 of " + i, list.bond(i, 2, 2), 0);
        }
        Check.dueThrow("bond of structure 3", () -> list.bond(3, 0, 0), NO_SUCH);
        Check.dueThrow("bond of structure -1", () -> list.bond(-1, 0, 0), NO_SUCH);
        Check.dueThrow("bond of atom 3", () -> list.bond(0, 3, 0), NO_SUCH);
        Check.dueThrow("bond to atom 3", () -> list.bond(0, 0, 3), NO_SUCH);
        Check.dueThrow("bond of atom -1", () -> list.bond(0, -1, 0), NO_SUCH);
        Check.dueThrow("bond of atom 3 with itself", () -> list.bond(0, 3, 3), NO_SUCH);
        Check.dueThrow("bond in an empty list", () -> Check.of("C2H7").bond(0, 0, 0), NO_SUCH);
    }

    private static void promise10Hydrogens() {
        IsomerList list = Check.of("C2H6O");
        int[][] lacks = {{2, 3, 1}, {3, 3, 0}};
        for (int i = 0; i < 2; i++) {
            for (int a = 0; a < 3; a++) {
                Check.due("hydrogens " + i + " " + a, list.hydrogens(i, a), lacks[i][a]);
            }
        }
        Check.due("hydrogens of one atom", Check.of("PH3").hydrogens(0, 0), 3);
        Check.dueThrow("hydrogens of structure 2", () -> list.hydrogens(2, 0), NO_SUCH);
        Check.dueThrow("hydrogens of structure -1", () -> list.hydrogens(-1, 0), NO_SUCH);
        Check.dueThrow("hydrogens of atom 3", () -> list.hydrogens(0, 3), NO_SUCH);
        Check.dueThrow("hydrogens of atom -1", () -> list.hydrogens(0, -1), NO_SUCH);
    }

    private static void dueWays(String formula, String text, int ways) {
        IsomerList list = Check.of(formula);
        Check.retype(list, text);
        Check.due("ways of " + text, list.ways(list.read()), ways);
    }

    private static void promise11Ways() {
        dueWays("C5H12", "C(C)(C)(C)C", 24);
        dueWays("C5H12", "CCCCC", 2);
        dueWays("C6H12", "C1CCCCC1", 12);
        dueWays("C6H6", "C1=CC=CC=C1", 6);
        dueWays("P4", "P12P3P1P23", 24);
        dueWays("CF4", "C(F)(F)(F)F", 24);
        dueWays("CHClBrF", "C(Cl)(Br)F", 1);
        dueWays("CH4", "C", 1);
        dueWays("C2F4", "C(F)(F)=C(F)F", 8);
        IsomerList list = Check.of("C2H6O");
        Check.dueThrow("ways of structure 2", () -> list.ways(2), NO_SUCH);
        Check.dueThrow("ways of structure -1", () -> list.ways(-1), NO_SUCH);
    }

    private static void promise12Write() {
        Check.dueWrite("C2H6O", "C(C)O", "COC");
        Check.dueWrite("C3H4", "C(#C)C", "C(=C)=C", "C1=CC1");
        Check.dueWrite("C4H10", "C(C)(C)C", "C(CC)C");
        Check.dueWrite("N2", "N#N");
        Check.dueWrite("HBr", "Br");
        Check.dueWrite("P4", "P1=PP=P1", "P12P3P1P23");
        Check.dueWrite("N4H2", "N1=NN1N", "N1=NNN1", "N(=N)N=N", "N12N(N1)N2");
        Check.dueWrite("C5", "C1#CC12C#C2", "C1#CC=2C1=C=2", "C=1=C=C=C=C=1", "C=1=C2C=3C=1C2=3", "C12=C3C14C2=C34",
                "C124C35C16C23C456");
        Check.dueWrite("CCl2F2", "C(F)(F)(Cl)Cl");
        IsomerList list = Check.of("C2H6O");
        Check.dueThrow("write of structure 2", () -> list.write(2), NO_SUCH);
        Check.dueThrow("write of structure -1", () -> list.write(-1), NO_SUCH);
        Check.due("a write that throws leaves the line", Check.text(list, 6), "C2H6O ");
        Check.due("whole", list.erase(), 5);
    }

    private static void promise13Character() {
        IsomerList list = Check.of("C2H6O");
        Check.due("the line", Check.text(list, 5), "C2H6O");
        Check.due("character 5", list.character(5), ' ');
        Check.due("character -1", list.character(-1), ' ');
        Check.due("character 60", list.character(60), ' ');
        Check.due("character of the greatest int", list.character(Integer.MAX_VALUE), ' ');
        Check.due("character of the least int", list.character(Integer.MIN_VALUE), ' ');
        list.write(1);
        Check.due("what was longer is gone", list.character(3), ' ');
    }
}
