/** All that can be asked of an object, as a text: two are equal if nothing that can be seen has changed. */
final class Snapshot {
    private static final int PLACES = 4;

    private Snapshot() {
    }

    static String of(VectorLanguage language) {
        StringBuilder text = new StringBuilder("failure " + language.failure());
        for (int what = 0; what <= 3; what++) {
            int which = what;
            tell(text, "count " + what, () -> language.count(which));
        }
        for (int k = 0; k < PLACES; k++) {
            int place = k;
            tell(text, "element " + k, () -> language.element(place));
        }
        for (int variable = 0; variable <= 9; variable++) {
            int which = variable;
            tell(text, "variable " + variable, () -> language.variable(which));
            for (int k = 0; k < PLACES; k++) {
                int place = k;
                tell(text, "value " + variable + " " + k, () -> language.value(which, place));
            }
        }
        return text.toString();
    }

    private static void tell(StringBuilder text, String what, Check.Call call) {
        text.append(", ").append(what).append(' ').append(Check.outcome(call));
    }
}
