import java.util.function.IntSupplier;

/** Scripts that are one character off, compared with the model: promises 57 to 60. */
final class FormsTest {
    private static final int MOST_CHARACTERS = 60;
    private static final String[] SCRIPTS = {"insure 5 1 9", "insure 15 1 59", "end 0", "end 07", "treaty 0+1*2 3",
        "treaty 10+11*12 13", "void 0", "claim 0r3", "claim 00g03", "claim 0w3", "claim 0f13", "pay 0 3", "pay 00 30",
        "close 0", "close 10", "waive 0", "waive 10", "offer 1-2 3", "offer 01-02 03", "wait 1", "wait 10",
        "end 0;end 1", "wait 1;claim 1r1;pay 0 1", "waive 1;wait 1", "claim 1r1;close 1", "insure 5 1 9;claim 0r3;void 0",
        "wait 1;wait 1;wait 1;wait 1;wait 1;wait 1;wait 1;offer 1-2 3"};

    public static void main(String[] arguments) {
        Check.begin();
        look("");
        for (String script : SCRIPTS) {
            look(script);
            for (int place = 0; place < script.length(); place++) {
                lookAt(script, place);
            }
        }
        Check.end();
    }

    /** The script cut off, with the character left out, and with each other character in its place or before it. */
    private static void lookAt(String script, int place) {
        String before = script.substring(0, place);
        String after = script.substring(place + 1);
        look(before);
        look(before + after);
        for (char character = 32; character <= 126; character++) {
            look(before + character + after);
            look(before + character + script.substring(place));
        }
    }

    private static void look(String script) {
        if (script.length() <= MOST_CHARACTERS) {
            Check.due("run of " + script, ofClass(script), ofModel(script));
        }
    }

    private static String ofClass(String script) {
        Insurer insurer = new Insurer();
        for (int i = 0; i < script.length(); i++) {
            insurer.ask("type", script.charAt(i));
        }
        return insurer.ask("runScript") + ", " + insurer.ask("errorPosition") + ", " + insurer.ask("failedCommand");
    }

    private static String ofModel(String script) {
        Model model = new Model();
        for (int i = 0; i < script.length(); i++) {
            model.type(script.charAt(i));
        }
        return answer(model::runScript) + ", " + answer(model::errorPosition) + ", " + answer(model::failedCommand);
    }

    private static String answer(IntSupplier call) {
        try {
            return String.valueOf(call.getAsInt());
        } catch (RuntimeException thrown) {
            return "throws " + thrown.getClass().getSimpleName();
        }
    }
}
