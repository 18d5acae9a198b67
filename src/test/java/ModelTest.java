import java.util.ArrayList;
import java.util.List;
import java.util.Random;

/** The same calls on the program and on the model must have the same answers. */
public final class ModelTest {
    private static final String[] FORMULAS = {
        "C6H6", "C6H14", "C6H2", "C6", "C5H5N", "C4H4N2", "C3H4BrClO", "CNOSPF", "CNOSPFH", "C2N2O2", "C4H8O2",
        "C3H6O3", "N6", "P4", "P6", "S6", "O2", "N2", "C2", "C2H2", "CH4", "C", "CH5", "C99", "H2", "C2H5OH",
        "CNOPSClH2", "CClBrIF", "C2F4", "C2ClH3", "N4H4", "C2N4H4", "C2N4H6", "FIClBrC2", "IBr", "I2", "ClF", "BrH",
        "C3N3H3", "NP2SO2H", "C4S2H4", "H3PO4", "H2SO4", "NH3", "C6H99", "C5H10O", "C3H3N3", "CO2", "C3O2", "F2O"};
    private static final String CHARACTERS = "CCCCNOSPFClBrIH()()==##--1122339087654x B l r\u0000\u0100";
    private static final Random RANDOM = new Random(20261115);

    private IsomerList list = new IsomerList();
    private final Model model = new Model();
    private final String name;
    private int calls = 0;

    private ModelTest(String name) {
        this.name = name;
    }

    public static void main(String[] args) {
        for (String formula : FORMULAS) {
            compareList(formula);
        }
        compareSmallFormulas(new int[9], 0, 0);
        for (int run = 0; run < 300; run++) {
            compareRandomCalls(run);
        }
        for (int run = 0; run < 60; run++) {
            compareSpellings(FORMULAS[run % FORMULAS.length]);
        }
        for (String formula : new String[] {"C6H6", "C4H4N2", "C3H4BrClO", "C2", "C5H5N"}) {
            compareMangled(formula);
        }
        Check.end();
    }

    private void same(String call, Check.Call got, Check.Call want) {
        calls++;
        String due = Check.outcome(want).replace("ArrayIndexOutOf", "IndexOutOf");
        Check.due(name + " call " + calls + " " + call, Check.outcome(got), due);
    }

    // An object's promises end with its 512th call; the model, which is slow to list, can stay.
    private void renew(String formula) {
        list = Check.of(formula);
        list.erase();
        model.erase();
    }

    private void type(char c) {
        same("type " + (int) c, () -> list.type(c), () -> model.type(c));
    }

    private void retype(String text) {
        same("erase", list::erase, model::erase);
        for (char c : text.toCharArray()) {
            type(c);
        }
    }

    private void formula() {
        same("formula", list::formula, model::formula);
        same("place", list::place, model::place);
    }

    private void read() {
        same("read of " + model.line, list::read, model::read);
        same("place", list::place, model::place);
    }

    private void counts() {
        for (int what = -1; what <= 3; what++) {
            int w = what;
            same("count " + w, () -> list.count(w), () -> model.count(w));
        }
    }

    private void write(int i) {
        same("write " + i, () -> list.write(i), () -> model.write(i));
        Check.due(name + " line after write " + i, Check.text(list, model.line.length()), model.line.toString());
    }

    private void bonds(int i) {
        for (int a = -1; a <= model.kinds.length; a++) {
            int from = a;
            same("hydrogens " + i + " " + a, () -> list.hydrogens(i, from), () -> model.hydrogens(i, from));
            for (int b = -1; b <= model.kinds.length; b++) {
                int to = b;
                same("bond " + i + " " + a + " " + b, () -> list.bond(i, from, to), () -> model.bond(i, from, to));
            }
        }
    }

    private static void compareList(String formula) {
        ModelTest test = new ModelTest(formula);
        test.retype(formula);
        test.formula();
        test.counts();
        for (int a = -1; a <= 6; a++) {
            int atom = a;
            test.same("element " + a, () -> test.list.element(atom), () -> test.model.element(atom));
        }
        for (int i = -1; i <= test.model.codes.size(); i++) {
            int number = i;
            test.renew(formula);
            test.bonds(i);
            test.same("ways " + i, () -> test.list.ways(number), () -> test.model.ways(number));
            test.write(i);
            test.read();
        }
    }

    private static void compareSmallFormulas(int[] counts, int e, int atoms) {
        if (e == 9) {
            for (int h = 0; h <= 10; h++) {
                StringBuilder formula = new StringBuilder();
                for (int k = 0; k < 10; k++) {
                    int number = k == 9 ? h : counts[k];
                    formula.append(number == 0 ? "" : Model.SIGNS[k] + (number == 1 ? "" : number));
                }
                if (atoms > 0) {
                    compareWritten(formula.toString());
                }
            }
            return;
        }
        for (int k = 0; k + atoms <= 3; k++) {
            counts[e] = k;
            compareSmallFormulas(counts, e + 1, atoms + k);
        }
        counts[e] = 0;
    }

    private static void compareWritten(String formula) {
        ModelTest test = new ModelTest(formula);
        test.retype(formula);
        test.formula();
        for (int i = 0; i < test.model.codes.size(); i++) {
            test.write(i);
            test.read();
        }
    }

    private static void compareRandomCalls(int run) {
        ModelTest test = new ModelTest("random run " + run);
        while (test.calls < 500) {
            test.randomCall();
        }
    }

    private void randomCall() {
        int i = RANDOM.nextInt(12) == 0 ? RANDOM.nextInt(600) - 50 : RANDOM.nextInt(Math.max(1, model.codes.size()));
        int a = RANDOM.nextInt(8) - 1;
        int b = RANDOM.nextInt(8) - 1;
        switch (RANDOM.nextInt(16)) {
            case 0 -> retype(randomFormula());
            case 1, 2 -> formula();
            case 3, 4 -> read();
            case 5 -> counts();
            case 6 -> same("element " + a, () -> list.element(a), () -> model.element(a));
            case 7 -> same("bond", () -> list.bond(i, a, b), () -> model.bond(i, a, b));
            case 8 -> same("hydrogens", () -> list.hydrogens(i, a), () -> model.hydrogens(i, a));
            case 9 -> same("ways", () -> list.ways(i), () -> model.ways(i));
            case 10, 11 -> write(i);
            case 12 -> same("character", () -> list.character(i - 2), () -> model.character(i - 2));
            default -> type(CHARACTERS.charAt(RANDOM.nextInt(CHARACTERS.length())));
        }
    }

    private static String randomFormula() {
        StringBuilder formula = new StringBuilder();
        int parts = 1 + RANDOM.nextInt(4);
        for (int k = 0; k < parts; k++) {
            formula.append(Model.SIGNS[RANDOM.nextInt(3) == 0 ? RANDOM.nextInt(9) : RANDOM.nextInt(3)]);
            formula.append(RANDOM.nextInt(2) == 0 ? "" : String.valueOf(RANDOM.nextInt(30) == 0 ? RANDOM.nextInt(120) : 2));
        }
        return formula + (RANDOM.nextInt(2) == 0 ? "H" + (2 + RANDOM.nextInt(7)) : "");
    }

    /** Each structure spelled from any atom on, in any order, with any digits, is read as itself. */
    private static void compareSpellings(String formula) {
        ModelTest test = new ModelTest("spellings of " + formula);
        test.retype(formula);
        test.formula();
        for (int i = 0; i < test.model.codes.size(); i++) {
            test.renew(formula);
            Speller speller = new Speller(test.model, i);
            test.retype(speller.text);
            Check.due("spelling " + speller.text + " in " + formula, test.list.read(), i);
        }
    }

    private static final class Speller {
        final String text;
        private final Model model;
        private final int i;
        private final boolean[] came;
        private final int[] from;
        private final List<int[]> rings = new ArrayList<>();

        Speller(Model model, int i) {
            this.model = model;
            this.i = i;
            came = new boolean[model.kinds.length];
            from = new int[model.kinds.length];
            int start = RANDOM.nextInt(model.kinds.length);
            List<List<Integer>> further = new ArrayList<>();
            for (int a = 0; a < model.kinds.length; a++) {
                further.add(new ArrayList<>());
            }
            go(start, -1, further);
            text = spell(start, further);
        }

        private void go(int a, int before, List<List<Integer>> further) {
            came[a] = true;
            from[a] = before;
            for (int b : shuffled()) {
                if (model.bond(i, a, b) == 0) {
                    continue;
                }
                if (!came[b]) {
                    further.get(a).add(b);
                    go(b, a, further);
                } else if (b != before && rings.stream().noneMatch(r -> r[0] == b && r[1] == a)) {
                    rings.add(new int[] {a, b, digit()});
                }
            }
        }

        private int digit() {
            int digit = 1 + RANDOM.nextInt(9);
            while (isUsed(digit)) {
                digit = 1 + RANDOM.nextInt(9);
            }
            return digit;
        }

        private boolean isUsed(int digit) {
            return rings.stream().anyMatch(r -> r[2] == digit);
        }

        private List<Integer> shuffled() {
            List<Integer> atoms = new ArrayList<>();
            for (int a = 0; a < model.kinds.length; a++) {
                atoms.add(RANDOM.nextInt(a + 1), a);
            }
            return atoms;
        }

        private String sign(int bonds) {
            return bonds == 1 ? RANDOM.nextInt(6) == 0 ? "-" : "" : bonds == 2 ? "=" : "#";
        }

        private String spell(int a, List<List<Integer>> further) {
            StringBuilder spelled = new StringBuilder(Model.SIGNS[model.kinds[a]]);
            for (int[] ring : rings) {
                if (ring[0] == a || ring[1] == a) {
                    int bonds = model.bond(i, ring[0], ring[1]);
                    // The end at ring[1] always tells the bond, so the other may leave it out.
                    boolean tells = ring[1] == a || RANDOM.nextBoolean();
                    spelled.append(tells ? sign(bonds) : "").append(ring[2]);
                }
            }
            List<Integer> ahead = further.get(a);
            for (int k = 0; k < ahead.size(); k++) {
                String one = sign(model.bond(i, a, ahead.get(k))) + spell(ahead.get(k), further);
                boolean bare = k == ahead.size() - 1 && RANDOM.nextInt(4) != 0;
                spelled.append(bare ? one : "(" + one + ")");
            }
            return spelled.toString();
        }
    }

    private static void compareMangled(String formula) {
        ModelTest test = new ModelTest("mangled texts of " + formula);
        test.retype(formula);
        test.formula();
        for (int run = 0; run < 4000; run++) {
            test.renew(formula);
            test.mangle();
        }
    }

    private void mangle() {
        StringBuilder text = new StringBuilder("CC(=C)C1CC=1");
        if (!model.codes.isEmpty()) {
            text = new StringBuilder(new Speller(model, RANDOM.nextInt(model.codes.size())).text);
        }
        int changes = RANDOM.nextInt(4);
        for (int change = 0; change < changes && text.length() > 0; change++) {
            int at = RANDOM.nextInt(text.length());
            char c = CHARACTERS.charAt(RANDOM.nextInt(CHARACTERS.length()));
            switch (RANDOM.nextInt(3)) {
                case 0 -> text.insert(at, c);
                case 1 -> text.deleteCharAt(at);
                default -> text.setCharAt(at, c);
            }
        }
        retype(text.toString());
        read();
    }
}
