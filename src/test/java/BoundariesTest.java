import java.nio.file.Path;

/**
 * Each sentence of ../shared/DOC.md that names a boundary case has a trial of its own in src/test/boundaries.txt,
 * which quotes it; and no sentence that names one is left without.
 */
public final class BoundariesTest {
    private BoundariesTest() {
    }

    public static void main(String[] args) throws Exception {
        Document document = new Document(Path.of("../shared/DOC.md"));
        int trials = 0;
        for (Trial trial : Trial.readAll(Path.of("src/test/boundaries.txt"))) {
            Due.promise(trial.section + " '" + trial.words + "'");
            Due.due("how often these words stand there", 1, document.tries(trial.section, trial.words));
            trial.run();
            trials++;
        }
        document.dueAllTried("# EndsWhenRead", "What it is", "The public face", "Not promised");
        System.out.println(trials + " trials");
        Due.end();
    }
}
