/** What the tests share: it types sources, compares answers with those that are due, and ends a test. */
final class Probe {
    private final String test;
    private String sentence = "";
    private int compared;
    private int wrong;

    Probe(String test) {
        this.test = test;
    }

    /** Names the sentence of the document that the next comparisons are for; what is not as due tells it. */
    void sentence(String words) {
        sentence = "\n  for: " + words;
    }

    void due(String what, long got, long want) {
        compared++;
        if (got != want) {
            wrong++;
            System.out.println(test + ": " + what + " answered " + got + ", due is " + want + sentence);
        }
    }

    void due(String what, boolean got, boolean want) {
        due(what, got ? 1 : 0, want ? 1 : 0);
    }

    void due(String what, String got, String want) {
        compared++;
        if (!got.equals(want)) {
            wrong++;
            System.out.println(test + ": " + what + " is\n" + got + "\ndue is\n" + want + sentence);
        }
    }

    /** Types a source in place of the one before, eight characters at a time. */
    static void type(SpecRunner runner, String source) {
        runner.clear();
        for (int i = 0; i < source.length(); i += 8) {
            String piece = source.substring(i, Math.min(i + 8, source.length()));
            if (!runner.type(bytes(piece), piece.length())) {
                throw new IllegalStateException("refused: " + piece + " of " + source);
            }
        }
    }

    static long bytes(String piece) {
        long chars = 0;
        for (char c : piece.toCharArray()) {
            chars = chars << 8 | c;
        }
        return chars;
    }

    /** An object with the source typed, judged to be a feature, and run. */
    SpecRunner ran(String source, int failed) {
        SpecRunner runner = new SpecRunner();
        type(runner, source);
        due("judge of " + source, runner.judge(), 0);
        due("run of " + source, runner.run(), failed);
        return runner;
    }

    /** How one iteration ends: its first failure and the place of that (0 and -1: none). */
    SpecRunner ends(String source, int status, int failedAt) {
        SpecRunner runner = ran(source, status == 0 ? 0 : 1);
        due("iterations of " + source, runner.iterations(), 1);
        due("status of " + source, runner.status(0), status);
        due("failedAt of " + source, runner.failedAt(0), failedAt);
        return runner;
    }

    void verdict(String source, int verdict, int place) {
        SpecRunner runner = new SpecRunner();
        type(runner, source);
        due("judge of '" + source + "'", runner.judge(), verdict);
        due("place of '" + source + "'", runner.place(), place);
    }

    /** The lines of a drawing, without the spaces at their ends. */
    static String drawing(SpecRunner runner, int k) {
        StringBuilder all = new StringBuilder();
        for (int line = 0; line < runner.lines(k); line++) {
            StringBuilder text = new StringBuilder();
            for (int column = 0; column < 150; column++) {
                text.append((char) runner.drawn(k, line, column));
            }
            all.append(text.toString().stripTrailing()).append('\n');
        }
        return all.toString();
    }

    /** Everything that an object tells of its latest judge and run. */
    static String told(SpecRunner runner) {
        StringBuilder all = new StringBuilder();
        all.append("place ").append(runner.place()).append(", iterations ").append(runner.iterations()).append('\n');
        for (int k = 0; k < 7; k++) {
            all.append(runner.status(k)).append(' ').append(runner.failedAt(k)).append(' ').append(runner.second(k));
            all.append(", called ").append(runner.calls(k, 0)).append(' ').append(runner.calls(k, 1)).append(", variables");
            for (int v = 0; v < 26; v++) {
                all.append(' ').append(runner.variable(k, v));
            }
            all.append(", values");
            for (int j = 0; j < runner.values(k) + 1; j++) {
                all.append(' ').append(runner.column(k, j)).append(':').append(runner.value(k, j));
            }
            all.append('\n').append(drawing(runner, k));
        }
        return all.toString();
    }

    void finish() {
        System.out.println(test + ": " + compared + " answers compared, " + wrong + " wrong");
        if (wrong != 0) {
            System.exit(1);
        }
    }
}
