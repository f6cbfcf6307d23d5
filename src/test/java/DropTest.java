/** Promise 5. */
public final class DropTest {
    public static void main(String[] args) {
        Due due = new Due("DropTest");
        TwinLog x = new TwinLog();
        due.is("empty link", x.drop(0), false);
        for (int i = 0; i < 4; i++) {
            x.put(0, i, i);
        }
        int[] wrong = {-1, 4, 16, Integer.MIN_VALUE, Integer.MAX_VALUE};
        for (int i : wrong) {
            due.is("drop(" + i + ")", x.drop(i), false);
        }
        due.is("one in the middle", x.drop(1), true);
        due.link("middle", x, Runs.row(1, 1, 2, 0), Runs.row(1, 1, 2, 2), Runs.row(1, 1, 2, 3));
        due.is("the newest", x.drop(2), true);
        due.link("newest", x, Runs.row(1, 1, 2, 0), Runs.row(1, 1, 2, 2));
        due.is("the oldest", x.drop(0), true);
        due.link("oldest", x, Runs.row(1, 1, 2, 2));
        due.is("behind the last", x.drop(1), false);
        due.is("the last", x.drop(0), true);
        due.is("none left", x.drop(0), false);
        due.log("what is lost arrives nowhere", x, 1);
        fullLink(due);
        due.end();
    }

    private static void fullLink(Due due) {
        TwinLog x = Runs.fullLink();
        due.is("drop(16)", x.drop(16), false);
        due.is("drop(15)", x.drop(15), true);
        due.is("drop(15) again", x.drop(15), false);
        due.is("room again", x.put(0, 0, 0), 16);
        due.is("the new one", x.message(15, 3), 16);
    }
}
