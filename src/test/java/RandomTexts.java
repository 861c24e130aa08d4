import java.util.Random;

/** HEDGES and SEASONS by chance, as texts. */
final class RandomTexts {
    private static final String[] COLOURS = {"blue", "red", "green"};
    private static final String[] WORDS = {"sprig", "heap", "bet", "on", "blue", "red", "green", "cut", "take", "less", "grow", "any",
        "when", "loop", "end", "stop", "left", "right", "stands", "worth", "nimber", "wins", ";", ";", ";", "<", ">", "=", "0", "1", "2",
        "3", "15", "16", "19", "20", "21", "31", "32", "99", "100", "0000", "00000", "!", "A", "sprigs", "\t", " ", "\n"};

    private RandomTexts() {
    }

    /** So many PARTS, of which few are HEAPS and BETS: there may be too many of a kind, and COLOURS that can't be. */
    static String hedge(Random random, int parts) {
        StringBuilder text = new StringBuilder();
        int sprigs = 0;
        for (int i = 0; i < parts; i++) {
            int kind = random.nextInt(12);
            if (kind == 0) text.append("heap ").append(random.nextInt(16)).append(";");
            else if (kind == 1) text.append("bet ").append(random.nextInt(21)).append(" ").append(1 + random.nextInt(20)).append(";");
            else {
                text.append("sprig ").append(colour(random));
                if (sprigs > 0 && random.nextInt(4) == 0) text.append(" on ").append(random.nextInt(sprigs));
                text.append(";");
                sprigs++;
            }
        }
        return text.toString();
    }

    /** A HEDGE that is right, with so many SPRIGS, most of them on another one. */
    static String rightHedge(Random random, int sprigs, int heaps, int bets) {
        StringBuilder text = new StringBuilder();
        int[] colour = new int[sprigs];
        int greens = random.nextInt(4);
        for (int i = 0; i < sprigs; i++) {
            int on = random.nextInt(3) > 0 ? random.nextInt(i + 1) - 1 : -1;
            boolean green = on >= 0 ? colour[on] == 2 : random.nextInt(6) < greens;
            colour[i] = green ? 2 : random.nextInt(2);
            text.append("sprig ").append(COLOURS[colour[i]]);
            if (on >= 0) text.append(" on ").append(on);
            text.append(";");
        }
        for (int i = 0; i < heaps; i++) text.append("heap ").append(random.nextInt(16)).append(';');
        for (int i = 0; i < bets; i++) {
            int left = random.nextInt(5);
            text.append("bet ").append(left).append(' ').append(random.nextInt(5) + (left == 0 ? 1 : 0)).append(';');
        }
        return text.toString();
    }

    static String seasons(Random random) {
        StringBuilder text = new StringBuilder();
        for (int i = 1 + random.nextInt(6); i > 0; i--) step(random, text, 0);
        return text.toString();
    }

    /** The text with a few words and signs put in, others left out. */
    static String spoilt(Random random, String text) {
        StringBuilder soup = new StringBuilder(text);
        for (int i = random.nextInt(3); i > 0; i--) {
            int at = random.nextInt(soup.length() + 1);
            int many = Math.min(random.nextInt(4), soup.length() - at);
            String word = random.nextInt(3) == 0 ? "" : " " + WORDS[random.nextInt(WORDS.length)];
            soup.replace(at, at + many, word);
        }
        return soup.toString();
    }

    private static String colour(Random random) {
        return COLOURS[random.nextInt(3)];
    }

    private static String side(Random random) {
        return random.nextBoolean() ? "left" : "right";
    }

    private static void step(Random random, StringBuilder text, int depth) {
        int kind = random.nextInt(depth < 3 ? 11 : 8);
        String small = " " + random.nextInt(6);
        if (kind == 0) text.append("cut ").append(side(random)).append(small);
        else if (kind == 1) text.append("take ").append(side(random)).append(" ").append(random.nextInt(5));
        else if (kind == 2) text.append("less ").append(random.nextInt(4)).append(" ").append(random.nextInt(10));
        else if (kind == 3) text.append("grow ").append(colour(random));
        else if (kind == 4) text.append("grow ").append(colour(random)).append(" on").append(small);
        else if (kind <= 6) text.append("any");
        else if (kind == 7) text.append(random.nextInt(8) == 0 ? "stop" : "any");
        else {
            if (kind <= 9) text.append("when ").append(test(random));
            else text.append("loop ").append(random.nextInt(5) == 0 ? 99 : 1 + random.nextInt(6));
            text.append(";");
            for (int i = random.nextInt(4); i > 0; i--) step(random, text, depth + 1);
            text.append("end");
        }
        text.append(";");
    }

    private static String test(Random random) {
        String comparison = new String[] {"<", ">", "="}[random.nextInt(3)];
        switch (random.nextInt(4)) {
            case 0: return "stands " + random.nextInt(8);
            case 1: return "worth " + comparison + " " + random.nextInt(3);
            case 2: return "nimber" + comparison + random.nextInt(4);
            default: return "wins " + side(random);
        }
    }
}
