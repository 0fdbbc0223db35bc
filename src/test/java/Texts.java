import java.util.Random;

/** Texts of queries by chance: mostly right ones that the rules of rewriting like, some with a fault. */
final class Texts {
    private static final String AXES = ".%#>}^~<{";
    private static final String ALL_SIGNS = AXES + "abcdefgh*/[]|+,-$=?0123456789 i~\u0000";

    private final Random random;

    Texts(Random chance) {
        random = chance;
    }

    String text() {
        StringBuilder out = new StringBuilder();
        int paths = random.nextInt(3) > 0 ? 1 : 1 + random.nextInt(random.nextInt(8) == 0 ? 5 : 4);
        for (int path = 0; path < paths; path++) {
            out.append(path > 0 ? "|" : "");
            // Paths that are alike are wanted too.
            out.append(path > 0 && random.nextInt(4) == 0 ? out.toString().split("\\|")[0] : path());
        }
        if (random.nextInt(5) == 0) {
            spoil(out);
        }
        return out.substring(0, Math.min(out.length(), 80));
    }

    private void spoil(StringBuilder out) {
        int at = random.nextInt(out.length() + 1);
        char sign = ALL_SIGNS.charAt(random.nextInt(ALL_SIGNS.length()));
        int kind = random.nextInt(4);
        if (kind == 0) {
            out.setLength(at);
        } else if (kind == 1 && at < out.length()) {
            out.deleteCharAt(at);
        } else if (kind == 2 && at < out.length()) {
            out.setCharAt(at, sign);
        } else {
            out.insert(at, sign);
        }
    }

    private String path() {
        StringBuilder out = new StringBuilder(slash(3));
        int steps = random.nextInt(4) == 0 ? 1 + random.nextInt(random.nextInt(6) == 0 ? 10 : 8) : 1 + random.nextInt(4);
        for (int step = 0; step < steps; step++) {
            out.append(step == 0 ? "" : random.nextInt(4) == 0 ? "//" : "/").append(step());
        }
        return out.toString();
    }

    private String slash(int rest) {
        int kind = random.nextInt(2 + rest);
        return kind == 0 ? "/" : kind == 1 ? "//" : "";
    }

    private String step() {
        int kind = random.nextInt(12);
        if (kind == 0) {
            return ".*";
        }
        if (kind == 1) {
            return "^*";
        }
        if (kind == 2) {
            return "#*";
        }
        StringBuilder out = new StringBuilder(kind == 3 ? ".*" : test());
        if (kind == 3 || random.nextInt(2) == 0) {
            int predicates = random.nextInt(10) == 0 ? 4 : random.nextInt(4);
            String before = null;
            for (int predicate = 0; predicate < predicates; predicate++) {
                before = before != null && random.nextInt(3) == 0 ? before : predicate();
                out.append(before);
            }
        }
        return out.toString();
    }

    private String test() {
        String axis = random.nextInt(3) == 0 ? "" : AXES.substring(random.nextInt(9)).substring(0, 1);
        return axis + (random.nextInt(3) == 0 ? '*' : (char) ('a' + random.nextInt(random.nextInt(6) == 0 ? 8 : 3)));
    }

    private String predicate() {
        StringBuilder out = new StringBuilder("[");
        int alternatives = few();
        for (int alternative = 0; alternative < alternatives; alternative++) {
            int conditions = few();
            for (int condition = 0; condition < conditions; condition++) {
                out.append(condition > 0 ? "," : alternative > 0 ? "+" : "").append(condition());
            }
        }
        return out.append("]").toString();
    }

    private int few() {
        return random.nextInt(3) > 0 ? 1 : 1 + random.nextInt(random.nextInt(10) == 0 ? 4 : 3);
    }

    private String condition() {
        String opposite = random.nextInt(4) == 0 ? "-" : "";
        switch (random.nextInt(5)) {
            case 0:
                return opposite + (1 + random.nextInt(random.nextInt(2) == 0 ? 9 : 2));
            case 1:
                return opposite + "$";
            case 2:
                return opposite + "=" + random.nextInt(random.nextInt(3) == 0 ? 10 : 3);
            case 3:
                return opposite + "?.*";
            default:
                StringBuilder out = new StringBuilder(opposite + "?");
                int steps = few();
                for (int step = 0; step < steps; step++) {
                    out.append(step > 0 ? "/" : "").append(test());
                }
                return out.toString();
        }
    }
}
