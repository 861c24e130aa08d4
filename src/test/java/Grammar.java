import java.util.ArrayList;
import java.util.List;
import java.util.regex.Matcher;
import java.util.regex.Pattern;

/** Another reading of the grammar of HEDGES and SEASONS: all TOKENS first, then PART by PART, STEP within STEP. */
final class Grammar {
    static final int SPRIG = 0;
    static final int HEAP = 1;
    static final int BET = 2;
    static final int CUT = 0;
    static final int TAKE = 1;
    static final int LESS = 2;
    static final int GROW = 3;
    static final int ANY = 4;
    static final int WHEN = 5;
    static final int LOOP = 6;
    static final int STOP = 7;

    private static final Pattern TOKEN = Pattern.compile("[ \n]*(?:([a-z]+)|([0-9]+)|([;<>=])|(.)|$)", Pattern.DOTALL);
    private static final String[] COLOURS = {"blue", "red", "green"};
    private static final String[] SIDES = {"left", "right"};

    /** What a text is refused with. */
    static final class Fault extends RuntimeException {
        private static final long serialVersionUID = 1;
        final int kind;
        final int place;

        Fault(int kind, int place) {
            super(null, null, false, false);
            this.kind = kind;
            this.place = place;
        }
    }

    /** A PART of a HEDGE: COLOUR and ground (-1 for none) of a SPRIG, the number of a HEAP, the two of a BET. */
    static final class Part {
        final int kind;
        int a;
        int b;

        Part(int kind) {
            this.kind = kind;
        }
    }

    /** A STEP of SEASONS: what it names, in that order; of a test which one, its number, its comparison. */
    static final class Step {
        int kind;
        int a;
        int b;
        int c;
        List<Step> within;
    }

    private final List<String> tokens = new ArrayList<>();
    private final List<Integer> places = new ArrayList<>();
    private int at = 0;
    /** How many STEPS were read. */
    int steps = 0;

    Grammar(String text) {
        Matcher matcher = TOKEN.matcher(text);
        int from = 0;
        while (matcher.find(from)) {
            boolean found = false;
            for (int group = 1; group <= 4; group++) {
                if (matcher.group(group) == null) continue;
                boolean strange = group == 4 || group == 2 && matcher.group(2).length() > 4;
                tokens.add(strange ? "?" : matcher.group(group));
                places.add(matcher.start(group));
                found = true;
            }
            if (!found) break;
            from = matcher.end();
        }
        tokens.add("");
        places.add(text.length());
    }

    List<Part> hedge() {
        List<Part> parts = new ArrayList<>();
        List<Integer> colours = new ArrayList<>();
        while (!token().isEmpty()) {
            String[] kinds = {"sprig", "heap", "bet"};
            int[] most = {20, 4, 5};
            for (int kind = 0; kind < 3; kind++) {
                if (token().equals(kinds[kind]) && count(parts, kind) == most[kind]) throw fault(6);
            }
            Part part = new Part(word(kinds));
            if (part.kind == SPRIG) {
                readSprig(part, colours);
            } else if (part.kind == HEAP) {
                part.a = number(0, 15);
            } else {
                part.a = number(0, 20);
                part.b = number(part.a > 0 ? 0 : 1, 20);
            }
            word(";");
            parts.add(part);
        }
        return parts;
    }

    static int count(List<Part> parts, int kind) {
        int counted = 0;
        for (Part part : parts) {
            if (part.kind == kind) counted++;
        }
        return counted;
    }

    private void readSprig(Part part, List<Integer> colours) {
        part.a = word(COLOURS);
        part.b = -1;
        if (token().equals("on")) {
            at++;
            part.b = number(0, colours.size() - 1);
            at--;
            if ((part.a == 2) != (colours.get(part.b) == 2)) throw fault(5);
            at++;
        }
        colours.add(part.a);
    }

    List<Step> seasons() {
        return block(0);
    }

    private List<Step> block(int depth) {
        List<Step> all = new ArrayList<>();
        while (!(depth == 0 ? token().isEmpty() : token().equals("end"))) {
            if (token().isEmpty()) throw fault(2);
            all.add(step(depth));
        }
        if (depth > 0) {
            word("end");
            word(";");
        }
        return all;
    }

    private Step step(int depth) {
        Step step = new Step();
        step.kind = word("cut", "take", "less", "grow", "any", "when", "loop", "stop");
        at--;
        if (steps == 30) throw fault(6);
        if ((step.kind == WHEN || step.kind == LOOP) && depth == 3) throw fault(7);
        at++;
        steps++;
        switch (step.kind) {
            case CUT: case TAKE:
                step.a = word(SIDES);
                step.b = number(0, step.kind == CUT ? 19 : 4);
                break;
            case LESS:
                step.a = number(0, 3);
                step.b = number(0, 15);
                break;
            case GROW:
                step.a = word(COLOURS);
                step.b = -1;
                if (!token().equals("on")) break;
                at++;
                step.b = number(0, 19);
                break;
            case WHEN: readTest(step); break;
            case LOOP: step.a = number(1, 99); break;
            default:
        }
        word(";");
        if (step.kind == WHEN || step.kind == LOOP) step.within = block(depth + 1);
        return step;
    }

    private void readTest(Step step) {
        step.a = word("stands", "worth", "nimber", "wins");
        if (step.a == 1 || step.a == 2) step.c = word("<", ">", "=");
        if (step.a == 3) step.b = word(SIDES);
        else step.b = number(0, step.a == 0 ? 19 : step.a == 1 ? 20 : 31);
    }

    private String token() {
        return tokens.get(at);
    }

    private Fault fault(int kind) {
        return new Fault(token().equals("?") ? 1 : kind, places.get(at));
    }

    private int word(String... words) {
        for (int i = 0; i < words.length; i++) {
            if (!token().equals(words[i])) continue;
            at++;
            return i;
        }
        throw fault(2);
    }

    private int number(int least, int most) {
        if (!token().matches("[0-9]+")) throw fault(2);
        int value = Integer.parseInt(token());
        if (value < least || value > most) throw fault(4);
        at++;
        return value;
    }
}
