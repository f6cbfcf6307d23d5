/** Promise 14. */
public final class SameTest {
    public static void main(String[] args) {
        Due due = new Due("SameTest");
        TwinLog x = new TwinLog();
        due.is("two empty logs", x.same(), 0);
        x.put(0, 1, 1);
        due.is("one is empty", x.same(), 0);
        Runs.pumpAll(x);
        due.is("one entry each", x.same(), 1);
        Runs.putUnshipped(x, 0, 2);
        due.is("one is longer", x.same(), 1);
        x.crash(0);
        x.crash(1);
        due.is("also when both are down", x.same(), 1);
        due.is("whole logs", Runs.inStep(64).same(), 64);
        differs(due);
        sameAgainBehindADifference(due);
        due.end();
    }

    private static void differs(Due due) {
        TwinLog x = Runs.inStep(2);
        x.promote(1);
        x.put(0, 3, 30);
        x.put(1, 3, 30);
        due.is("another term, the same key and value", x.same(), 2);
        TwinLog y = new TwinLog();
        y.promote(1);
        y.put(0, 3, 30);
        y.put(1, 3, 30);
        due.is("another term at number 0", y.same(), 0);
    }

    private static void sameAgainBehindADifference(Due due) {
        TwinLog x = Runs.apartAtOne();
        due.is("apart", x.same(), 1);
        Runs.pumpAll(x);
        due.is("brought together", x.same(), 2);
    }
}
