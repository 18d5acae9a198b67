import java.util.ArrayList;
import java.util.HashSet;
import java.util.List;
import java.util.Set;
import java.util.TreeSet;

/**
 * The document's words in their slowest form, to be compared with the program:
 * no pruning, no packed codes, every numbering tried, texts read by recursive descent.
 */
final class Model {
    static final String[] SIGNS = {"C", "N", "O", "S", "P", "F", "Cl", "Br", "I", "H"};
    static final int[] VALENCES = {4, 3, 2, 2, 3, 1, 1, 1, 1, 1};

    /** A fault with its place, thrown where it shows. */
    static final class Fault extends RuntimeException {
        private static final long serialVersionUID = 1L;
        final int kind;
        final int place;

        Fault(int kind, int place) {
            this.kind = kind;
            this.place = place;
        }
    }

    final StringBuilder line = new StringBuilder();
    int[] kinds = new int[0];
    int hydrogenSum = 0;
    List<String> codes = new ArrayList<>();
    int faultPlace = -1;

    int type(char c) {
        if (line.length() == 60) {
            throw new IllegalStateException();
        }
        line.append(c);
        return line.length();
    }

    int erase() {
        int had = line.length();
        line.setLength(0);
        return had;
    }

    int place() {
        return faultPlace;
    }

    char character(int k) {
        return k < 0 || k >= line.length() ? ' ' : line.charAt(k);
    }

    int count(int what) {
        return what == 0 ? codes.size() : what == 1 ? kinds.length : what == 2 ? hydrogenSum : -1;
    }

    int element(int a) {
        return kinds[a];
    }

    int bond(int i, int a, int b) {
        return matrix(codes.get(i), kinds.length)[a][b];
    }

    int hydrogens(int i, int a) {
        int lacks = VALENCES[kinds[a]];
        for (int n : matrix(codes.get(i), kinds.length)[a]) {
            lacks -= n;
        }
        if (a < 0) {
            throw new IndexOutOfBoundsException();
        }
        return lacks;
    }

    int ways(int i) {
        int[][] bonds = matrix(codes.get(i), kinds.length);
        int same = 0;
        for (int[] p : numberings(kinds, kinds)) {
            if (code(bonds, p).equals(codes.get(i))) {
                same++;
            }
        }
        return same;
    }

    // ---- formula ----

    int formula() {
        try {
            int[] counts = parseFormula(line.toString());
            List<Integer> atoms = new ArrayList<>();
            for (int e = 0; e < 9; e++) {
                for (int k = 0; k < counts[e]; k++) {
                    atoms.add(e);
                }
            }
            if (atoms.isEmpty() || atoms.size() > 6) {
                throw new Fault(IsomerList.HEAVY, line.length());
            }
            int[] newKinds = atoms.stream().mapToInt(e -> e).toArray();
            List<String> newCodes = allCodes(newKinds, counts[9]);
            if (newCodes.size() > 500) {
                throw new Fault(IsomerList.MANY, line.length());
            }
            kinds = newKinds;
            hydrogenSum = counts[9];
            codes = newCodes;
            faultPlace = -1;
            return codes.size();
        } catch (Fault fault) {
            faultPlace = fault.place;
            return fault.kind;
        }
    }

    private static int signAt(String text, int at) {
        for (int length = 2; length >= 1; length--) {
            for (int e = 0; e < SIGNS.length; e++) {
                if (SIGNS[e].length() == length && text.startsWith(SIGNS[e], at)) {
                    return e;
                }
            }
        }
        return -1;
    }

    private static int[] parseFormula(String text) {
        int[] counts = new int[10];
        int at = 0;
        do {
            int e = signAt(text, at);
            if (e < 0) {
                throw new Fault(IsomerList.SIGN, at);
            }
            if (counts[e] != 0) {
                throw new Fault(IsomerList.TWICE, at);
            }
            at += SIGNS[e].length();
            String digits = "";
            while (at + digits.length() < text.length() && "0123456789".indexOf(text.charAt(at + digits.length())) >= 0) {
                digits += text.charAt(at + digits.length());
            }
            if (!digits.isEmpty() && !digits.matches("[2-9]|[1-9][0-9]")) {
                throw new Fault(IsomerList.NUMBER, at);
            }
            counts[e] = digits.isEmpty() ? 1 : Integer.parseInt(digits);
            at += digits.length();
        } while (at < text.length());
        return counts;
    }

    private static List<String> allCodes(int[] kinds, int hydrogens) {
        Set<String> seen = new HashSet<>();
        TreeSet<String> greatest = new TreeSet<>();
        collect(kinds, hydrogens, new int[kinds.length][kinds.length], 0, 0, seen, greatest);
        return new ArrayList<>(greatest.descendingSet());
    }

    private static void collect(int[] kinds, int hydrogens, int[][] bonds, int a, int b,
                                Set<String> seen, TreeSet<String> greatest) {
        int n = kinds.length;
        if (a == n) {
            if (!isStructure(kinds, hydrogens, bonds) || seen.contains(code(bonds, identity(n)))) {
                return;
            }
            TreeSet<String> own = new TreeSet<>();
            for (int[] p : numberings(kinds, kinds)) {
                own.add(code(bonds, p));
            }
            seen.addAll(own);
            greatest.add(own.last());
            return;
        }
        if (b == a) {
            collect(kinds, hydrogens, bonds, a + 1, 0, seen, greatest);
            return;
        }
        for (int v = 0; v <= 3 && v + used(bonds, a) <= VALENCES[kinds[a]] && v + used(bonds, b) <= VALENCES[kinds[b]]; v++) {
            bonds[a][b] = v;
            bonds[b][a] = v;
            collect(kinds, hydrogens, bonds, a, b + 1, seen, greatest);
            bonds[a][b] = 0;
            bonds[b][a] = 0;
        }
    }

    private static int used(int[][] bonds, int a) {
        int sum = 0;
        for (int v : bonds[a]) {
            sum += v;
        }
        return sum;
    }

    private static boolean isStructure(int[] kinds, int hydrogens, int[][] bonds) {
        int lacks = 0;
        for (int a = 0; a < kinds.length; a++) {
            int own = VALENCES[kinds[a]] - used(bonds, a);
            if (own < 0) {
                return false;
            }
            lacks += own;
        }
        return lacks == hydrogens && reach(bonds, 0, new HashSet<>()).size() == kinds.length;
    }

    private static Set<Integer> reach(int[][] bonds, int a, Set<Integer> reached) {
        reached.add(a);
        for (int b = 0; b < bonds.length; b++) {
            if (bonds[a][b] > 0 && !reached.contains(b)) {
                reach(bonds, b, reached);
            }
        }
        return reached;
    }

    private static int[] identity(int n) {
        int[] p = new int[n];
        for (int a = 0; a < n; a++) {
            p[a] = a;
        }
        return p;
    }

    /** All p that put at each number k an atom p[k] whose element is the one wanted there. */
    static List<int[]> numberings(int[] kinds, int[] wanted) {
        List<int[]> all = new ArrayList<>();
        number(kinds, wanted, new int[kinds.length], 0, all);
        return all;
    }

    private static void number(int[] kinds, int[] wanted, int[] p, int k, List<int[]> all) {
        if (k == p.length) {
            all.add(p.clone());
            return;
        }
        for (int a = 0; a < kinds.length; a++) {
            boolean free = kinds[a] == wanted[k];
            for (int j = 0; j < k; j++) {
                free &= p[j] != a;
            }
            if (free) {
                p[k] = a;
                number(kinds, wanted, p, k + 1, all);
            }
        }
    }

    private static String code(int[][] bonds, int[] p) {
        StringBuilder code = new StringBuilder();
        for (int a = 1; a < p.length; a++) {
            for (int b = 0; b < a; b++) {
                code.append(bonds[p[a]][p[b]]);
            }
        }
        return code.toString();
    }

    private static int[][] matrix(String code, int n) {
        int[][] bonds = new int[n][n];
        int at = 0;
        for (int a = 1; a < n; a++) {
            for (int b = 0; b < a; b++) {
                bonds[a][b] = code.charAt(at++) - '0';
                bonds[b][a] = bonds[a][b];
            }
        }
        return bonds;
    }

    // ---- write ----

    int write(int i) {
        String text = textOf(kinds, matrix(codes.get(i), kinds.length));
        line.setLength(0);
        line.append(text);
        return text.length();
    }

    private static String textOf(int[] kinds, int[][] bonds) {
        int n = kinds.length;
        List<List<Integer>> further = new ArrayList<>();
        for (int a = 0; a < n; a++) {
            further.add(new ArrayList<>());
        }
        int[][] digits = new int[n][n];
        go(bonds, 0, -1, further, digits, new boolean[n], new int[] {0});
        return spell(kinds, bonds, 0, further, digits);
    }

    private static void go(int[][] bonds, int a, int from, List<List<Integer>> further, int[][] digits,
                           boolean[] came, int[] lastDigit) {
        came[a] = true;
        for (int b = 0; b < bonds.length; b++) {
            if (bonds[a][b] == 0) {
                continue;
            }
            if (!came[b]) {
                further.get(a).add(b);
                go(bonds, b, a, further, digits, came, lastDigit);
            } else if (b != from && digits[a][b] == 0) {
                lastDigit[0]++;
                digits[a][b] = lastDigit[0];
                digits[b][a] = lastDigit[0];
            }
        }
    }

    private static String spell(int[] kinds, int[][] bonds, int a, List<List<Integer>> further, int[][] digits) {
        StringBuilder text = new StringBuilder(SIGNS[kinds[a]]);
        for (int digit = 1; digit <= 9; digit++) {
            for (int b = 0; b < kinds.length; b++) {
                if (digits[a][b] == digit) {
                    text.append(bondSign(bonds[a][b])).append(digit);
                }
            }
        }
        List<Integer> ahead = further.get(a);
        for (int k = 0; k < ahead.size(); k++) {
            String one = bondSign(bonds[a][ahead.get(k)]) + spell(kinds, bonds, ahead.get(k), further, digits);
            text.append(k < ahead.size() - 1 ? "(" + one + ")" : one);
        }
        return text.toString();
    }

    private static String bondSign(int bonds) {
        return bonds == 1 ? "" : bonds == 2 ? "=" : "#";
    }

    // ---- read ----

    private int at;
    private List<Integer> readKinds;
    private int[][] readBonds;
    private int[] openAtom;
    private int[] openBond;

    int read() {
        try {
            at = 0;
            readKinds = new ArrayList<>();
            readBonds = new int[6][6];
            openAtom = new int[] {-1, -1, -1, -1, -1, -1, -1, -1, -1, -1};
            openBond = new int[10];
            chain(-1, 0);
            if (at < line.length()) {
                throw new Fault(IsomerList.SIGN, at);
            }
            checkEnd();
            faultPlace = -1;
            return find();
        } catch (Fault fault) {
            faultPlace = fault.place;
            return fault.kind;
        }
    }

    private boolean isAhead(int ahead, String allowed) {
        return at + ahead < line.length() && allowed.indexOf(line.charAt(at + ahead)) >= 0;
    }

    private int bondSignRead() {
        int told = isAhead(0, "-=#") ? "-=#".indexOf(line.charAt(at)) + 1 : 0;
        at += told > 0 ? 1 : 0;
        return told;
    }

    private void chain(int before, int told) {
        int e = signAt(line.toString(), at);
        if (e < 0 || e == 9) {
            throw new Fault(IsomerList.SIGN, at);
        }
        if (readKinds.size() == 6) {
            throw new Fault(IsomerList.HEAVY, at);
        }
        int own = readKinds.size();
        readKinds.add(e);
        if (before >= 0) {
            readBonds[before][own] = readBonds[own][before] = told == 0 ? 1 : told;
        }
        at += SIGNS[e].length();
        while (isAhead(0, "123456789") || isAhead(0, "-=#") && isAhead(1, "123456789")) {
            int ringTold = bondSignRead();
            ring(own, ringTold, line.charAt(at) - '0');
            at++;
        }
        while (isAhead(0, "(")) {
            at++;
            chain(own, bondSignRead());
            if (!isAhead(0, ")")) {
                throw new Fault(IsomerList.SIGN, at);
            }
            at++;
        }
        int next = bondSignRead();
        if (next > 0 || signAt(line.toString(), at) >= 0) {
            chain(own, next);
        }
    }

    private void ring(int own, int told, int digit) {
        int other = openAtom[digit];
        if (other < 0) {
            openAtom[digit] = own;
            openBond[digit] = told;
            return;
        }
        int begun = openBond[digit];
        if (other == own || readBonds[own][other] > 0 || begun > 0 && told > 0 && begun != told) {
            throw new Fault(IsomerList.RING, at);
        }
        int bonds = begun > 0 ? begun : told > 0 ? told : 1;
        readBonds[own][other] = readBonds[other][own] = bonds;
        openAtom[digit] = -1;
    }

    private void checkEnd() {
        for (int atom : openAtom) {
            if (atom >= 0) {
                throw new Fault(IsomerList.RING, line.length());
            }
        }
        for (int a = 0; a < readKinds.size(); a++) {
            if (used(readBonds, a) > VALENCES[readKinds.get(a)]) {
                throw new Fault(IsomerList.VALENCE, line.length());
            }
        }
    }

    private int find() {
        int[] atoms = readKinds.stream().mapToInt(e -> e).toArray();
        if (atoms.length != kinds.length) {
            return -1;
        }
        Set<String> own = new HashSet<>();
        for (int[] p : numberings(atoms, kinds)) {
            own.add(code(readBonds, p));
        }
        for (int i = 0; i < codes.size(); i++) {
            if (own.contains(codes.get(i))) {
                return i;
            }
        }
        return -1;
    }
}
