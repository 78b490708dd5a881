/** Compares answers with those that are due. */
final class Check {
    private int compared = 0;
    private int wrong = 0;
    private int sentences = 0;
    private String sentence = "";
    private int comparedBefore = 0;

    /** Names the sentence of the document, or the case of it, by which the answers that follow are due. */
    void of(String words) {
        closeSentence();
        sentence = words;
        sentences++;
        comparedBefore = compared;
    }

    private void closeSentence() {
        if (sentences > 0 && compared == comparedBefore) {
            wrong++;
            System.out.println("\"" + sentence + "\": no answer was looked at");
        }
    }

    void due(String call, long got, long want) {
        compared++;
        if (got != want) {
            wrong++;
            String words = sentences == 0 ? "" : "\"" + sentence + "\": ";
            System.out.println(words + call + " answered " + got + ", due is " + want);
        }
    }

    /** Does a run, and looks at all that it leaves behind but for its pile and output. */
    void dueRun(String program, BefungeTrace trace, int ending, int steps, int where) {
        due(program + ": run", trace.run(), ending);
        dueLastRun(program, trace, ending, steps, where);
    }

    void dueLastRun(String program, BefungeTrace trace, int ending, int steps, int where) {
        due(program + ": ending", trace.ending(), ending);
        due(program + ": steps", trace.steps(), steps);
        due(program + ": where", trace.where(), where);
    }

    void duePile(String program, BefungeTrace trace, int... numbers) {
        due(program + ": height", trace.height(), numbers.length);
        for (int i = -1; i <= 10; i++) {
            int want = i >= 0 && i < numbers.length ? numbers[i] : 0;
            due(program + ": pile(" + i + ")", trace.pile(i), want);
        }
    }

    void dueOutput(String program, BefungeTrace trace, int... numbers) {
        due(program + ": outputs", trace.outputs(), numbers.length);
        for (int i = -1; i <= 16; i++) {
            int want = i >= 0 && i < numbers.length ? numbers[i] : 0;
            due(program + ": output(" + i + ")", trace.output(i), want);
        }
    }

    void dueGrid(String when, BefungeTrace trace, int[] codes) {
        for (int i = 0; i < 32; i++) {
            due(when + ": get(" + i % 8 + ", " + i / 8 + ")", trace.get(i % 8, i / 8), codes[i]);
        }
    }

    void finish() {
        closeSentence();
        String by = sentences == 0 ? "" : " by " + sentences + " sentences";
        System.out.println(compared + " answers looked at" + by + ", " + wrong + " not as due");
        if (wrong != 0 || compared == 0) {
            System.exit(1);
        }
    }
}
