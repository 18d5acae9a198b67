import java.util.Arrays;

/**
 * Structures of molecules: reads a formula, lists all ways to bind its atoms,
 * writes each as a line of signs and reads such a line back to its place.
 */
public final class IsomerList {
    public static final int NONE = -1;
    public static final int SIGN = -2;
    public static final int TWICE = -3;
    public static final int NUMBER = -4;
    public static final int HEAVY = -5;
    public static final int MANY = -6;
    public static final int RING = -7;
    public static final int VALENCE = -8;

    private static final int MOST_CHARACTERS = 60;
    private static final int MOST_ATOMS = 6;
    private static final int MOST_STRUCTURES = 500;
    private static final int MOST_BONDS = 3;
    private static final int HIGHEST_DIGIT = 9;

    private static final int KINDS = 10;
    private static final int HYDROGEN = 9;
    private static final int[] VALENCES = {4, 3, 2, 2, 3, 1, 1, 1, 1, 1};
    private static final char NO_LETTER = '\0';
    private static final char[] FIRST_LETTERS = {'C', 'N', 'O', 'S', 'P', 'F', 'C', 'B', 'I', 'H'};
    private static final char[] SECOND_LETTERS =
            {'\0', '\0', '\0', '\0', '\0', '\0', 'l', 'r', '\0', '\0'};

    // A code is kept in one int, two bits a number and the first number highest,
    // so that the greater code is the greater int.
    private static final int CODE_BITS = 30;
    private static final int NUMBER_BITS = 2;
    private static final int NUMBER_MASK = 3;

    private final Line line;
    private final FormulaReader formulaReader;
    private final TextReader textReader;
    private final TextWriter textWriter;
    private final Numbering numbering;
    private final Lister lister;
    private final Molecule shown;
    private final Catalogue current;
    private int faultPlace;

    public IsomerList() {
        line = new Line();
        formulaReader = new FormulaReader();
        textReader = new TextReader();
        textWriter = new TextWriter();
        numbering = new Numbering();
        lister = new Lister();
        shown = new Molecule();
        current = new Catalogue();
        faultPlace = NONE;
    }

    public int type(char c) throws IllegalStateException {
        if (line.length == MOST_CHARACTERS) {
            throw new IllegalStateException();
        }
        line.add(c);
        return line.length;
    }

    public int erase() {
        int had = line.length;
        line.clear();
        return had;
    }

    public int formula() {
        int fault = formulaReader.readFrom(line);
        if (fault == NONE) {
            fault = listAnew(formulaReader.counts);
        }
        faultPlace = fault == NONE ? NONE : formulaReader.at;
        return fault == NONE ? current.size : fault;
    }

    public int read() {
        int fault = textReader.readFrom(line);
        faultPlace = fault == NONE ? NONE : textReader.at;
        return fault == NONE ? findInList(textReader.molecule) : fault;
    }

    public int place() {
        return faultPlace;
    }

    public int count(int what) {
        switch (what) {
            case 0:
                return current.size;
            case 1:
                return current.atoms;
            case 2:
                return current.hydrogenSum;
            default:
                return NONE;
        }
    }

    public int element(int a) throws IndexOutOfBoundsException {
        checkAtom(a);
        return current.kinds[a];
    }

    public int bond(int i, int a, int b) throws IndexOutOfBoundsException {
        checkStructure(i);
        checkAtom(a);
        checkAtom(b);
        shown.build(current, i);
        return shown.between(a, b);
    }

    public int hydrogens(int i, int a) throws IndexOutOfBoundsException {
        checkStructure(i);
        checkAtom(a);
        shown.build(current, i);
        return shown.free[a];
    }

    public int ways(int i) throws IndexOutOfBoundsException {
        checkStructure(i);
        shown.build(current, i);
        numbering.search(shown, current.kinds, current.codes[i]);
        return numbering.sharers;
    }

    public int write(int i) throws IndexOutOfBoundsException {
        checkStructure(i);
        shown.build(current, i);
        textWriter.writeAnew(line, shown);
        return line.length;
    }

    public char character(int k) {
        return line.at(k);
    }

    private void checkStructure(int i) {
        if (i < 0 || i >= current.size) {
            throw new IndexOutOfBoundsException();
        }
    }

    private void checkAtom(int a) {
        if (a < 0 || a >= current.atoms) {
            throw new IndexOutOfBoundsException();
        }
    }

    // The list is made beside the current one, which must stay if the new one is too long.
    private int listAnew(int[] counts) {
        Catalogue draft = lister.draft;
        draft.take(counts);
        if (draft.hasSameFormula(current)) {
            return NONE;
        }
        lister.fillDraft();
        if (draft.isOverfull()) {
            return MANY;
        }
        current.copy(draft);
        return NONE;
    }

    private int findInList(Molecule molecule) {
        if (!current.hasFormulaOf(molecule)) {
            return NONE;
        }
        numbering.search(molecule, current.kinds, 0);
        return current.find(numbering.greatest);
    }

    private static boolean isDigit(char c) {
        return c >= '0' && c <= '9';
    }

    private static int signLength(int kind) {
        return SECOND_LETTERS[kind] == NO_LETTER ? 1 : 2;
    }

    private static int occurrences(int kind, int[] kinds, int atoms) {
        int found = 0;
        for (int a = 0; a < atoms; a++) {
            if (kinds[a] == kind) {
                found++;
            }
        }
        return found;
    }

    // How far left the last number of row a (the bonds of atom a to those before it) stands in a code.
    private static int rowShift(int a) {
        return CODE_BITS - a * (a + 1);
    }

    /** The characters typed or written. */
    private static final class Line {
        private final char[] characters = new char[MOST_CHARACTERS];
        private int length;

        void clear() {
            length = 0;
        }

        void add(char c) {
            if (length < MOST_CHARACTERS) {
                characters[length] = c;
                length++;
            }
        }

        char at(int k) {
            return k >= 0 && k < length ? characters[k] : ' ';
        }

        int elementAt(int k) {
            int found = NONE;
            for (int kind = 0; kind < KINDS; kind++) {
                if (FIRST_LETTERS[kind] == at(k)) {
                    if (SECOND_LETTERS[kind] == NO_LETTER) {
                        found = kind;
                    } else if (SECOND_LETTERS[kind] == at(k + 1)) {
                        return kind;
                    }
                }
            }
            return found;
        }

        void addElement(int kind) {
            add(FIRST_LETTERS[kind]);
            if (SECOND_LETTERS[kind] != NO_LETTER) {
                add(SECOND_LETTERS[kind]);
            }
        }

        void addBond(int bonds) {
            if (bonds == 2) {
                add('=');
            } else if (bonds == 3) {
                add('#');
            }
        }
    }

    /** Reads a line as a formula; where a fault is found, it stands at its place. */
    private static final class FormulaReader {
        private final int[] counts = new int[KINDS];
        private int at;

        int readFrom(Line line) {
            Arrays.fill(counts, 0);
            at = 0;
            if (line.length == 0) {
                return SIGN;
            }
            for (int step = 0; step < MOST_CHARACTERS && at < line.length; step++) {
                int fault = readElement(line);
                if (fault != NONE) {
                    return fault;
                }
            }
            int atoms = heavyAtoms();
            return atoms < 1 || atoms > MOST_ATOMS ? HEAVY : NONE;
        }

        private int readElement(Line line) {
            int kind = line.elementAt(at);
            if (kind == NONE) {
                return SIGN;
            }
            if (counts[kind] > 0) {
                return TWICE;
            }
            at += signLength(kind);
            int digits = digitsAhead(line);
            int number = digits == 0 ? 1 : numberAhead(line, digits);
            if (number == NONE) {
                return NUMBER;
            }
            counts[kind] = number;
            at += digits;
            return NONE;
        }

        private int digitsAhead(Line line) {
            int end = at;
            while (end < line.length && isDigit(line.at(end))) {
                end++;
            }
            return end - at;
        }

        // Three digits or more are above 99 or have a 0 in front.
        private int numberAhead(Line line, int digits) {
            if (digits > 2 || line.at(at) == '0') {
                return NONE;
            }
            int number = line.at(at) - '0';
            if (digits == 2) {
                number = number * 10 + line.at(at + 1) - '0';
            }
            return number == 1 ? NONE : number;
        }

        private int heavyAtoms() {
            int sum = 0;
            for (int kind = 0; kind < KINDS; kind++) {
                if (kind != HYDROGEN) {
                    sum += counts[kind];
                }
            }
            return sum;
        }
    }

    /** A formula and the codes of its structures, greatest first. */
    private static final class Catalogue {
        private final int[] kinds = new int[MOST_ATOMS];
        private final int[] codes = new int[MOST_STRUCTURES];
        private int atoms;
        private int hydrogenSum;
        private int size;

        void take(int[] counts) {
            atoms = 0;
            size = 0;
            hydrogenSum = counts[HYDROGEN];
            for (int kind = 0; kind < HYDROGEN; kind++) {
                for (int k = 0; k < counts[kind] && atoms < MOST_ATOMS; k++) {
                    kinds[atoms] = kind;
                    atoms++;
                }
            }
        }

        void copy(Catalogue other) {
            atoms = other.atoms;
            hydrogenSum = other.hydrogenSum;
            size = other.size;
            System.arraycopy(other.kinds, 0, kinds, 0, MOST_ATOMS);
            System.arraycopy(other.codes, 0, codes, 0, MOST_STRUCTURES);
        }

        // One structure too many is counted, but not kept: it only tells that there are too many.
        void add(int code) {
            if (size < MOST_STRUCTURES) {
                codes[size] = code;
            }
            size++;
        }

        boolean isOverfull() {
            return size > MOST_STRUCTURES;
        }

        boolean hasSameFormula(Catalogue other) {
            if (atoms != other.atoms || hydrogenSum != other.hydrogenSum) {
                return false;
            }
            for (int a = 0; a < atoms; a++) {
                if (kinds[a] != other.kinds[a]) {
                    return false;
                }
            }
            return true;
        }

        // The atoms of a molecule that was read stand in the order of its text.
        boolean hasFormulaOf(Molecule molecule) {
            if (atoms != molecule.atoms || hydrogenSum != molecule.freeSum()) {
                return false;
            }
            for (int a = 0; a < atoms; a++) {
                int kind = kinds[a];
                if (occurrences(kind, molecule.kinds, atoms) != occurrences(kind, kinds, atoms)) {
                    return false;
                }
            }
            return true;
        }

        int find(int code) {
            for (int i = 0; i < size; i++) {
                if (codes[i] == code) {
                    return i;
                }
            }
            return NONE;
        }
    }

    /** Atoms with their elements, the bonds between each two, and what each may still bind. */
    private static final class Molecule {
        private final int[] kinds = new int[MOST_ATOMS];
        private final int[] free = new int[MOST_ATOMS];
        private final int[] bonds = new int[MOST_ATOMS * MOST_ATOMS];
        private int atoms;

        void clear() {
            atoms = 0;
            Arrays.fill(bonds, 0);
        }

        void addAtom(int kind) {
            if (atoms < MOST_ATOMS) {
                kinds[atoms] = kind;
                free[atoms] = VALENCES[kind];
                atoms++;
            }
        }

        void addAtomsOf(Catalogue catalogue) {
            clear();
            for (int a = 0; a < catalogue.atoms; a++) {
                addAtom(catalogue.kinds[a]);
            }
        }

        void build(Catalogue catalogue, int i) {
            addAtomsOf(catalogue);
            int code = catalogue.codes[i];
            for (int a = 1; a < atoms; a++) {
                int row = code >> rowShift(a);
                for (int b = a - 1; b >= 0; b--) {
                    bind(a, b, row & NUMBER_MASK);
                    row >>= NUMBER_BITS;
                }
            }
        }

        int between(int a, int b) {
            return bonds[a * MOST_ATOMS + b];
        }

        void bind(int a, int b, int number) {
            int more = number - between(a, b);
            free[a] -= more;
            free[b] -= more;
            bonds[a * MOST_ATOMS + b] = number;
            bonds[b * MOST_ATOMS + a] = number;
        }

        int freeSum() {
            int sum = 0;
            for (int a = 0; a < atoms; a++) {
                sum += free[a];
            }
            return sum;
        }

        boolean isOverbound() {
            for (int a = 0; a < atoms; a++) {
                if (free[a] < 0) {
                    return true;
                }
            }
            return false;
        }
    }

    /** Tries the numberings of a molecule: which code is the greatest, and how many share it. */
    private static final class Numbering {
        private final int[] chosen = new int[MOST_ATOMS];
        private final boolean[] taken = new boolean[MOST_ATOMS];
        private int atoms;
        private int greatest;
        private int sharers;

        // The floor is a code that some numbering has, or 0: numberings below it need not be tried.
        void search(Molecule tried, int[] kindsByNumber, int floor) {
            atoms = tried.atoms;
            greatest = floor;
            sharers = 0;
            choose(tried, kindsByNumber, 0, 0);
        }

        // Rows of the first atoms begin the code of all: who can be told better there, can be for good.
        boolean isGreatest(Molecule tried, int first, int code) {
            atoms = first;
            return !canBeBeaten(tried, 0, code);
        }

        private void choose(Molecule tried, int[] kindsByNumber, int k, int code) {
            if (k >= atoms) {
                noteCode(code);
                return;
            }
            int shift = rowShift(k);
            for (int a = 0; a < atoms; a++) {
                if (!taken[a] && tried.kinds[a] == kindsByNumber[k]) {
                    int next = code | row(tried, k, a) << shift;
                    if (next >> shift >= greatest >> shift) {
                        chosen[k] = a;
                        taken[a] = true;
                        choose(tried, kindsByNumber, k + 1, next);
                        taken[a] = false;
                    }
                }
            }
        }

        private void noteCode(int code) {
            if (code > greatest) {
                greatest = code;
                sharers = 0;
            }
            sharers++;
        }

        private boolean canBeBeaten(Molecule tried, int k, int code) {
            if (k >= atoms) {
                return false;
            }
            int own = code >> rowShift(k) & (1 << NUMBER_BITS * k) - 1;
            for (int a = 0; a < atoms; a++) {
                if (!taken[a] && tried.kinds[a] == tried.kinds[k]) {
                    int row = row(tried, k, a);
                    if (row > own || row == own && canBeBeatenWith(tried, k, a, code)) {
                        return true;
                    }
                }
            }
            return false;
        }

        private boolean canBeBeatenWith(Molecule tried, int k, int a, int code) {
            chosen[k] = a;
            taken[a] = true;
            boolean beaten = canBeBeaten(tried, k + 1, code);
            taken[a] = false;
            return beaten;
        }

        private int row(Molecule tried, int k, int a) {
            int row = 0;
            for (int j = 0; j < k; j++) {
                row = row << NUMBER_BITS | tried.bonds[a * MOST_ATOMS + chosen[j]];
            }
            return row;
        }
    }

    /** Makes all structures of a formula, greatest codes first. */
    private static final class Lister {
        private final Catalogue draft = new Catalogue();
        private final Numbering numbering = new Numbering();
        private final Molecule molecule = new Molecule();
        private final int[] valencesFrom = new int[MOST_ATOMS + 1];
        private final int[] groups = new int[MOST_ATOMS];

        void fillDraft() {
            molecule.addAtomsOf(draft);
            sumValences();
            int ends = valencesFrom[0] - draft.hydrogenSum;
            if (ends >= 0 && ends % 2 == 0) {
                endRow(0, ends / 2, 0);
            }
        }

        private void sumValences() {
            valencesFrom[molecule.atoms] = 0;
            for (int a = molecule.atoms - 1; a >= 0; a--) {
                valencesFrom[a] = valencesFrom[a + 1] + molecule.free[a];
            }
        }

        // Greater numbers are tried first, so codes come in the order of the list.
        private void bindOn(int a, int b, int left, int code) {
            if (b >= a) {
                endRow(a, left, code);
                return;
            }
            int shift = rowShift(a) + NUMBER_BITS * (a - 1 - b);
            int most = Math.min(Math.min(MOST_BONDS, left), Math.min(molecule.free[a], molecule.free[b]));
            for (int number = most; number >= 0 && !draft.isOverfull(); number--) {
                molecule.bind(a, b, number);
                bindOn(a, b + 1, left - number, code | number << shift);
            }
            molecule.bind(a, b, 0);
        }

        private void endRow(int a, int left, int code) {
            int done = a + 1;
            if (!canBeEnded(done, left) || !numbering.isGreatest(molecule, done, code)) {
                return;
            }
            if (done >= molecule.atoms) {
                draft.add(code);
            } else {
                bindOn(done, 0, left, code);
            }
        }

        // Each bond that is left has an end at an atom that is not done, and joins two groups at most.
        private boolean canBeEnded(int done, int left) {
            int undone = molecule.atoms - done;
            return left <= valencesFrom[done] && left >= countGroups(done) + undone - 1;
        }

        private int countGroups(int done) {
            int count = 0;
            for (int a = 0; a < done; a++) {
                groups[a] = a;
                count++;
                for (int b = 0; b < a; b++) {
                    if (molecule.between(a, b) > 0 && groups[b] != groups[a]) {
                        joinGroups(groups[b], groups[a], a);
                        count--;
                    }
                }
            }
            return count;
        }

        private void joinGroups(int from, int to, int last) {
            for (int a = 0; a <= last; a++) {
                if (groups[a] == from) {
                    groups[a] = to;
                }
            }
        }
    }

    /** Writes a molecule as a text. */
    private static final class TextWriter {
        private static final int NOT_YET = -2;

        private final int[] cameFrom = new int[MOST_ATOMS];
        private final int[] ringStarts = new int[HIGHEST_DIGIT + 1];
        private final int[] ringEnds = new int[HIGHEST_DIGIT + 1];
        private int rings;

        void writeAnew(Line line, Molecule molecule) {
            rings = 0;
            Arrays.fill(cameFrom, NOT_YET);
            // Rings are met on the way back to atoms whose sign stands earlier, so all are found first.
            goThrough(molecule, 0, NONE, 0);
            line.clear();
            putAtom(line, molecule, 0, 0);
        }

        private void goThrough(Molecule molecule, int a, int before, int depth) {
            if (depth >= MOST_ATOMS) {
                return;
            }
            cameFrom[a] = before;
            for (int b = 0; b < molecule.atoms; b++) {
                if (molecule.between(a, b) > 0) {
                    if (cameFrom[b] == NOT_YET) {
                        goThrough(molecule, b, a, depth + 1);
                    } else if (b != before) {
                        meetRing(a, b);
                    }
                }
            }
        }

        private void meetRing(int a, int b) {
            for (int digit = 1; digit <= rings; digit++) {
                if (ringStarts[digit] == b && ringEnds[digit] == a) {
                    return;
                }
            }
            if (rings < HIGHEST_DIGIT) {
                rings++;
                ringStarts[rings] = a;
                ringEnds[rings] = b;
            }
        }

        private void putAtom(Line line, Molecule molecule, int a, int depth) {
            if (depth >= MOST_ATOMS) {
                return;
            }
            line.addElement(molecule.kinds[a]);
            putRings(line, molecule, a);
            int last = lastFurtherOn(a);
            for (int b = 0; b < last; b++) {
                if (cameFrom[b] == a) {
                    line.add('(');
                    line.addBond(molecule.between(a, b));
                    putAtom(line, molecule, b, depth + 1);
                    line.add(')');
                }
            }
            if (last != NONE) {
                line.addBond(molecule.between(a, last));
                putAtom(line, molecule, last, depth + 1);
            }
        }

        private void putRings(Line line, Molecule molecule, int a) {
            for (int digit = 1; digit <= rings; digit++) {
                if (ringStarts[digit] == a || ringEnds[digit] == a) {
                    line.addBond(molecule.between(ringStarts[digit], ringEnds[digit]));
                    line.add((char) ('0' + digit));
                }
            }
        }

        private int lastFurtherOn(int a) {
            for (int b = MOST_ATOMS - 1; b >= 0; b--) {
                if (cameFrom[b] == a) {
                    return b;
                }
            }
            return NONE;
        }
    }

    /** Reads a line as a text; where a fault is found, it stands at its place. */
    private static final class TextReader {
        private static final int UNTOLD = 0;

        private final Molecule molecule = new Molecule();
        private final int[] ringAtoms = new int[HIGHEST_DIGIT + 1];
        private final int[] ringBonds = new int[HIGHEST_DIGIT + 1];
        private final int[] branchAtoms = new int[MOST_ATOMS];
        private int branches;
        private int last;
        private boolean ringsMayFollow;
        private int at;

        int readFrom(Line line) {
            molecule.clear();
            Arrays.fill(ringAtoms, NONE);
            branches = 0;
            last = NONE;
            at = 0;
            int fault = readAtom(line, UNTOLD);
            for (int step = 0; step < MOST_CHARACTERS && fault == NONE && at < line.length; step++) {
                fault = readPart(line);
            }
            return fault == NONE ? faultAtEnd() : fault;
        }

        private int readPart(Line line) {
            char c = line.at(at);
            if (c == ')') {
                return closeBranch();
            }
            if (c == '(') {
                return openBranch(line);
            }
            int told = readBond(line);
            char next = line.at(at);
            if (ringsMayFollow && isDigit(next) && next != '0') {
                return readRing(next - '0', told);
            }
            return readAtom(line, told);
        }

        // Each open branch but the newest has an atom of its own, so there is room for it.
        private int openBranch(Line line) {
            if (branches < MOST_ATOMS) {
                branchAtoms[branches] = last;
                branches++;
            }
            at++;
            int told = readBond(line);
            return readAtom(line, told);
        }

        private int closeBranch() {
            if (branches == 0) {
                return SIGN;
            }
            branches--;
            last = branchAtoms[branches];
            ringsMayFollow = false;
            at++;
            return NONE;
        }

        private int readBond(Line line) {
            char c = line.at(at);
            int told = c == '-' ? 1 : c == '=' ? 2 : c == '#' ? 3 : UNTOLD;
            if (told != UNTOLD) {
                at++;
            }
            return told;
        }

        private int readAtom(Line line, int told) {
            int kind = line.elementAt(at);
            if (kind == NONE || kind == HYDROGEN) {
                return SIGN;
            }
            int atom = molecule.atoms;
            if (atom >= MOST_ATOMS) {
                return HEAVY;
            }
            molecule.addAtom(kind);
            if (last != NONE) {
                molecule.bind(last, atom, Math.max(told, 1));
            }
            last = atom;
            ringsMayFollow = true;
            at += signLength(kind);
            return NONE;
        }

        private int readRing(int digit, int told) {
            int start = ringAtoms[digit];
            if (start == NONE) {
                ringAtoms[digit] = last;
                ringBonds[digit] = told;
            } else {
                int begun = ringBonds[digit];
                boolean differs = begun != UNTOLD && told != UNTOLD && begun != told;
                if (differs || start == last || molecule.between(start, last) > 0) {
                    return RING;
                }
                molecule.bind(start, last, Math.max(1, Math.max(begun, told)));
                ringAtoms[digit] = NONE;
            }
            at++;
            return NONE;
        }

        private int faultAtEnd() {
            if (branches > 0) {
                return SIGN;
            }
            for (int digit = 1; digit <= HIGHEST_DIGIT; digit++) {
                if (ringAtoms[digit] != NONE) {
                    return RING;
                }
            }
            return molecule.isOverbound() ? VALENCE : NONE;
        }
    }
}
