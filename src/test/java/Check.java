/** Counts the answers that are not as due; a test ends with exit code 1 if there was one. */
final class Check {
    private int asked;
    private int wrong;

    void due(String what, long got, long want) {
        asked++;
        if (got != want) {
            wrong++;
            System.out.println(what + ": answered " + got + ", due is " + want);
        }
    }

    boolean allRight() {
        return wrong == 0;
    }

    void end() {
        System.out.println(asked + " answers, " + wrong + " not as due");
        if (wrong != 0 || asked == 0) {
            System.exit(1);
        }
    }

    /** Types the text behind the page. */
    static void type(CubeTower tower, String text) {
        for (int at = 0; at < text.length(); at++) {
            tower.letter(text.charAt(at));
        }
    }

    /** A new object that has read the text as its tower. */
    static CubeTower read(String text) {
        CubeTower tower = new CubeTower();
        type(tower, text);
        tower.tower();
        return tower;
    }
}
