import java.util.List;

/** What is asked leaves everything as it was: the same is answered in whatever order it's asked. */
final class EdgeOrderTest {
    private static final int AT_ONCE = 380;

    private EdgeOrderTest() {
    }

    public static void main(String[] args) {
        Check.says("Not promised",
                "Nothing is promised beyond the answers and state changes described above");
        inWhateverOrder(Story.world());
        inWhateverOrder(Story.world().day(700).fact(0, 3, 3, 900).rules(2, "allow run best 0 90;"
                + "allow power mean 1 80;share power 30 60;tilt 4;return 11 unless worth>9000;"));
        Check.end();
    }

    private static void inWhateverOrder(Story story) {
        List<Questions.Question> asked = Questions.asked();
        long[] alone = new long[asked.size()];
        for (int i = 0; i < alone.length; i++) {
            alone[i] = asked.get(i).call().on(story.told());
        }
        for (int step : new int[] {1, -1, 7, 11, -13}) {
            WaterReview x = null;
            int at = 0;
            for (int i = 0; i < alone.length; i++) {
                if (i % AT_ONCE == 0) {
                    x = story.told();
                }
                at = Math.floorMod(at + step, alone.length);
                Check.due("behind others, by " + step + ": " + asked.get(at).name(),
                        asked.get(at).call().on(x), alone[at]);
            }
        }
    }
}
