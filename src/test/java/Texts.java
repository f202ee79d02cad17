import java.util.Random;

/** Texts and days that chance makes. */
final class Texts {
    private Texts() {
    }

    static String text(Random chance) {
        int d = 1 + chance.nextInt(4);
        StringBuilder text = new StringBuilder("d").append(d);
        for (int k = chance.nextInt(6); k > 0; k--) {
            char form = "ctjn".charAt(chance.nextInt(4));
            text.append(';').append("pbw".charAt(chance.nextInt(3))).append(1 + chance.nextInt(9)).append(form);
            for (int part = form == 'c' || form == 't' ? 2 : 3; part > 0; part--) {
                text.append(chance.nextInt(d));
            }
        }
        for (int k = chance.nextInt(6); k > 0; k--) {
            text.append(',').append(chance.nextInt(d)).append(chance.nextInt(4)).append(chance.nextInt(4));
        }
        return text.toString();
    }

    /** A text with up to two signs changed, put in, left out or cut off. */
    static String spoiled(Random chance) {
        StringBuilder text = new StringBuilder(text(chance));
        String signs = "dpbwctjn;,0123459x";
        for (int k = chance.nextInt(3); k > 0 && text.length() > 0; k--) {
            int at = chance.nextInt(text.length());
            char sign = signs.charAt(chance.nextInt(signs.length()));
            switch (chance.nextInt(4)) {
                case 0: text.setCharAt(at, sign); break;
                case 1: text.insert(at, sign); break;
                case 2: text.deleteCharAt(at); break;
                default: text.setLength(at);
            }
        }
        if (text.length() > 60) {
            text.setLength(60);
        }
        return text.toString();
    }

    /** The threes of a day; of one in four many are no acts, or can't be. */
    static int[] threes(Random chance) {
        int[] threes = new int[3 * chance.nextInt(8)];
        boolean wild = chance.nextInt(4) == 0;
        for (int k = 0; k < threes.length; k += 3) {
            boolean ofRule = chance.nextInt(3) == 0;
            threes[k] = ofRule ? 10 + chance.nextInt(wild ? 6 : 3) : chance.nextInt(wild ? 5 : 3);
            threes[k + 1] = wild ? chance.nextInt(6) - 1 : chance.nextInt(4);
            threes[k + 2] = wild ? chance.nextInt(6) - 1 : chance.nextInt(4);
        }
        return threes;
    }
}
