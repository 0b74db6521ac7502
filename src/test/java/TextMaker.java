import java.util.Random;

/** Makes nets and orders by chance, some with a fault. */
final class TextMaker {
    private TextMaker() {
    }

    static int length(Random chance, int span) {
        if (span > 1000) {
            return switch (chance.nextInt(6)) {
                case 0 -> chance.nextInt(2 * span + 1) - span;
                case 1 -> -span / (1 + chance.nextInt(2));
                case 2 -> span / 2;
                default -> span;
            };
        }
        return chance.nextInt(span + span / 3 + 1) - span / 3;
    }

    static String net(Random chance, int mostTowns, int span) {
        StringBuilder text = new StringBuilder();
        int towns = 2;
        if (chance.nextInt(12) > 0) {
            towns = 2 + chance.nextInt(mostTowns - 1);
            text.append("towns ").append(towns);
        }
        int roads = 1 + chance.nextInt(2 * towns + 2);
        // A rising number for each town keeps most rings above 0 though many lengths are below.
        int[] height = new int[towns];
        for (int t = 0; t < towns; t++) {
            height[t] = span > 1000 ? 0 : chance.nextInt(span + 1);
        }
        for (int i = 0; i < roads; i++) {
            int a = chance.nextInt(towns);
            int b = chance.nextInt(30) == 0 ? a : (a + 1 + chance.nextInt(towns - 1)) % towns;
            int l = span > 1000 ? length(chance, span) : height[b] - height[a] + chance.nextInt(1 + span / 2);
            String clause = "road " + a + " " + b + " " + l;
            if (text.length() + clause.length() + 1 > 200) {
                break;
            }
            text.append(text.length() > 0 ? ";" : "").append(clause);
        }
        return spoiled(chance, text);
    }

    static String orders(Random chance, int towns, int roads, int span) {
        StringBuilder text = new StringBuilder();
        int many = 1 + chance.nextInt(chance.nextInt(6) == 0 ? 27 : 5);
        for (int i = 0; i < many; i++) {
            int t = chance.nextInt(towns);
            int r = chance.nextInt(chance.nextInt(20) == 0 || roads == 0 ? 37 : roads);
            String clause = switch (chance.nextInt(many > 8 ? 6 : 7)) {
                case 0 -> "length " + r + " " + length(chance, span);
                case 1 -> "close " + r;
                case 2 -> "open " + r;
                case 3 -> "origin " + t;
                case 4 -> "watch " + t + " " + length(chance, span);
                case 5 -> "forget " + t;
                default -> "lay " + t + " " + (t + 1 + chance.nextInt(towns - 1)) % towns + " " + length(chance, span);
            };
            if (many > 20) {
                clause = "open " + chance.nextInt(9);
            }
            text.append(i > 0 ? ";" : "").append(clause);
        }
        return spoiled(chance, text);
    }

    private static String spoiled(Random chance, StringBuilder text) {
        if (chance.nextInt(4) > 0 || text.length() == 0) {
            return text.toString();
        }
        String signs = " ;-0123456789adeorstwx\u00e9A";
        int times = 1 + chance.nextInt(2);
        for (int i = 0; i < times; i++) {
            int at = chance.nextInt(text.length());
            char sign = signs.charAt(chance.nextInt(signs.length()));
            switch (chance.nextInt(5)) {
                case 0 -> text.deleteCharAt(at);
                case 1 -> text.insert(at, sign);
                case 2 -> text.setCharAt(at, sign);
                case 3 -> text.setLength(at);
                default -> text.insert(at, "0000000" + chance.nextInt(100000));
            }
            if (text.length() == 0) {
                text.append(sign);
            }
        }
        return text.toString();
    }
}
