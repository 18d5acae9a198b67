/** Compares answers with those that are due, and tells at the end whether all were right. */
final class Check {
    interface Call {
        long answer();
    }

    private static int right = 0;
    private static int wrong = 0;
    private static int sentences = 0;
    private static String source = "";

    /** What is checked from here on is a sentence of the document: of which part, and its words. */
    static void sentence(String part, String words) {
        sentences++;
        source = part + ", \"" + words + "\": ";
    }

    static void due(String what, long got, long want) {
        if (got == want) {
            right++;
        } else {
            wrong++;
            System.out.println(source + what + " answered " + got + ", due is " + want);
        }
    }

    static void due(String what, String got, String want) {
        if (got.equals(want)) {
            right++;
        } else {
            wrong++;
            System.out.println(source + what + " answered \"" + got + "\", due is \"" + want + "\"");
        }
    }

    /** The formula on a new object: its answer, the place of its fault, and that the line stays. */
    static IsomerList dueFormula(String formula, int answer, int place) {
        IsomerList list = new IsomerList();
        typeAll(list, formula);
        due("formula " + formula, list.formula(), answer);
        due("place in " + formula, list.place(), place);
        dueLine(list, formula);
        return list;
    }

    /** The text read on a new object with this formula: its answer, the place of its fault, and that the line stays. */
    static IsomerList dueRead(String formula, String text, int answer, int place) {
        IsomerList list = of(formula);
        retype(list, text);
        due("read " + text + " in " + formula, list.read(), answer);
        due("place in " + text, list.place(), place);
        dueLine(list, text);
        return list;
    }

    static void dueFound(String formula, String text, int answer) {
        dueRead(formula, text, answer, IsomerList.NONE);
    }

    /** The first texts of a formula's list: as written, and read back. */
    static void dueWrite(String formula, String... texts) {
        IsomerList list = of(formula);
        for (int i = 0; i < texts.length; i++) {
            due("write " + i + " of " + formula, list.write(i), texts[i].length());
            dueLine(list, texts[i]);
            due("read of " + texts[i], list.read(), i);
        }
    }

    static void dueLine(IsomerList list, String line) {
        due("the line", text(list, line.length()), line);
        due("what is behind " + line, list.character(line.length()), ' ');
    }

    /** All that can be asked without a change; it takes some 60 calls and more with each structure. */
    static String state(IsomerList list) {
        StringBuilder state = new StringBuilder(text(list, 60));
        state.append("|place ").append(list.place());
        int atoms = list.count(1);
        for (int what = 0; what < 3; what++) {
            state.append("|count ").append(list.count(what));
        }
        for (int a = 0; a < atoms; a++) {
            state.append("|element ").append(list.element(a));
        }
        for (int i = 0; i < list.count(0); i++) {
            state.append("|structure");
            for (int a = 0; a < atoms; a++) {
                state.append(' ').append(list.hydrogens(i, a));
                for (int b = 0; b < a; b++) {
                    state.append(' ').append(list.bond(i, a, b));
                }
            }
        }
        return state.toString();
    }

    static void dueThrow(String what, Call call, Class<?> want) {
        due(what, outcome(call), "throws " + want.getName());
    }

    static String outcome(Call call) {
        try {
            return String.valueOf(call.answer());
        } catch (RuntimeException e) {
            return "throws " + e.getClass().getName();
        }
    }

    static void typeAll(IsomerList list, String text) {
        for (char c : text.toCharArray()) {
            list.type(c);
        }
    }

    static void retype(IsomerList list, String text) {
        list.erase();
        typeAll(list, text);
    }

    static IsomerList of(String formula) {
        IsomerList list = new IsomerList();
        typeAll(list, formula);
        list.formula();
        return list;
    }

    static String text(IsomerList list, int length) {
        StringBuilder text = new StringBuilder();
        for (int k = 0; k < length; k++) {
            text.append(list.character(k));
        }
        return text.toString();
    }

    static void end() {
        String of = sentences == 0 ? "" : " of " + sentences + " sentences";
        System.out.println(right + " answers" + of + " right, " + wrong + " wrong");
        if (wrong != 0) {
            System.exit(1);
        }
    }

    private Check() {
    }
}
