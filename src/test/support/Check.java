/** Counts what is not as due, and ends the program accordingly. */
final class Check {
    private static int checks;
    private static int wrong;
    private static String sentence = "";

    private Check() {
    }

    /** The sentence of the document that the next checks are about; promise 0 stands for its terms. */
    static void about(int promise, String words) {
        sentence = (promise == 0 ? "Terms" : "Promise " + promise) + ", '" + words + "': ";
    }

    static void due(String what, long got, long want) {
        checks++;
        if (got != want) {
            wrong++;
            System.out.println(sentence + what + " answered " + got + ", due is " + want);
        }
    }

    static void holds(String what, boolean holds) {
        due(what, holds ? 1 : 0, 1);
    }

    static boolean failed() {
        return wrong > 0;
    }

    static void end() {
        System.out.println(checks + " checks, " + wrong + " not as due");
        System.exit(wrong == 0 ? 0 : 1);
    }
}
