/** Compares answers with those that are due, and tells at the end whether all were right. */
final class Check {
    interface Call {
        long answer();
    }

    private static int right = 0;
    private static int wrong = 0;

    static void due(String what, long got, long want) {
        if (got == want) {
            right++;
        } else {
            wrong++;
            System.out.println(what + " answered " + got + ", due is " + want);
        }
    }

    static void due(String what, String got, String want) {
        if (got.equals(want)) {
            right++;
        } else {
            wrong++;
            System.out.println(what + " answered \"" + got + "\", due is \"" + want + "\"");
        }
    }

    static void dueThrow(String what, Call call, Class<?> want) {
        due(what, outcome(call), "throws " + want.getName());
    }

    static String outcome(Call call) {
        try {
            return String.valueOf(call.answer());
        } catch (RuntimeException e) {
            return "throws " + e.getClass().getName();
        }
    }

    static void typeAll(IsomerList list, String text) {
        for (char c : text.toCharArray()) {
            list.type(c);
        }
    }

    static void retype(IsomerList list, String text) {
        list.erase();
        typeAll(list, text);
    }

    static IsomerList of(String formula) {
        IsomerList list = new IsomerList();
        typeAll(list, formula);
        list.formula();
        return list;
    }

    static String text(IsomerList list, int length) {
        StringBuilder text = new StringBuilder();
        for (int k = 0; k < length; k++) {
            text.append(list.character(k));
        }
        return text.toString();
    }

    static void end() {
        System.out.println(right + " answers right, " + wrong + " wrong");
        if (wrong != 0) {
            System.exit(1);
        }
    }

    private Check() {
    }
}
