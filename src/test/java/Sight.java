/** All that can be seen of a workshop, as one text: two workshops that are alike look alike. */
final class Sight {
    private Sight() {
    }

    static String of(Beadslant x) {
        StringBuilder seen = new StringBuilder();
        seen.append(x.checksum()).append(' ').append(x.money()).append(' ').append(x.isSound());
        for (char kind : "bstcxl".toCharArray()) {
            seen.append(' ').append(x.account(kind));
        }
        seen.append(" thread ").append(x.thread(0));
        addWords(x, seen);
        addCloths(x, seen);
        addShapes(x, seen);
        addString(x, seen);
        return seen.toString();
    }

    private static void addWords(Beadslant x, StringBuilder seen) {
        for (int region = 0; region < 3; region++) {
            seen.append(" words ").append(x.isClear(region));
            for (int colour = 0; colour < 8; colour++) {
                int word = x.setWord(region, colour, 0);
                x.setWord(region, colour, word);
                seen.append(',').append(word);
            }
        }
    }

    private static void addCloths(Beadslant x, StringBuilder seen) {
        for (int cloth = 0; cloth < 6; cloth++) {
            char state;
            try {
                state = x.state(cloth);
            } catch (IndexOutOfBoundsException e) {
                return;
            }
            int rules = x.setRules(cloth, 0);
            x.setRules(cloth, rules);
            seen.append(" cloth ").append(state).append(rules).append(':');
            if (state != 'd') {
                for (int row = 0; row < 12; row++) {
                    for (int column = 0; column < 12; column++) {
                        addPasses(x, cloth, row, column, seen);
                    }
                }
            }
        }
    }

    private static void addPasses(Beadslant x, int cloth, int row, int column, StringBuilder seen) {
        try {
            seen.append(x.passes(cloth, row, column)).append(',');
        } catch (IndexOutOfBoundsException e) {
            seen.append('.');
        }
    }

    private static void addShapes(Beadslant x, StringBuilder seen) {
        for (int shape = 0; shape < 4; shape++) {
            try {
                seen.append(" shape ").append(x.form(shape));
            } catch (IndexOutOfBoundsException e) {
                return;
            }
            for (int round = 1; round < 20; round++) {
                try {
                    seen.append(',').append(x.bend(shape, round));
                } catch (java.util.NoSuchElementException e) {
                    break;
                }
            }
        }
    }

    private static void addString(Beadslant x, StringBuilder seen) {
        seen.append(" string ");
        for (int place = 0; place < x.account('t'); place++) {
            seen.append(x.strung(place));
        }
    }
}
