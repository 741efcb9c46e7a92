/** Holds the class against the plain model, in runs that a seed makes. */
public final class ModelRunsTest {
    public static void main(String[] args) {
        Checks checks = new Checks();
        int runs = args.length > 0 ? Integer.parseInt(args[0]) : 400;
        int first = args.length > 1 ? Integer.parseInt(args[1]) : 0;
        for (int seed = first; seed < first + runs && checks.wrong() < 5; seed++) {
            switch (seed % 4) {
                case 0 -> calls(new RandomRuns(seed, checks), false);
                case 1 -> calls(new RandomRuns(seed, checks), true);
                case 2 -> walks(new RandomRuns(seed, checks));
                default -> texts(new RandomRuns(seed, checks));
            }
        }
        checks.finish();
    }

    private static void texts(RandomRuns run) {
        boolean ok = true;
        for (int i = 0; i < 20 && ok; i++) {
            String text = run.someText(false);
            ok = run.feedText(text) && run.feedText(run.spoilt(text)) && run.feedText(run.shuffled(text))
                && run.feedText(run.shuffled(text));
            for (int n = 0; n < 5 && ok; n++) {
                ok = run.ask();
            }
        }
    }

    private static void walks(RandomRuns run) {
        boolean ok = run.feedText(run.denseText());
        for (int i = 0; i < 300 && ok; i++) {
            int dice = run.random.nextInt(40);
            ok = dice == 0 ? run.change() : dice < 6 ? run.send() : dice == 6 ? run.ask() : run.askOfWalks();
        }
    }

    private static void calls(RandomRuns run, boolean loops) {
        boolean ok = run.feedText(run.someText(loops));
        int filling = run.random.nextInt(40);
        for (int i = 0; i < filling && ok; i++) {
            ok = run.send();
        }
        for (int i = 0; i < 380 && ok; i++) {
            ok = run.random.nextInt(4) == 0 ? run.change() : run.ask();
        }
    }
}
