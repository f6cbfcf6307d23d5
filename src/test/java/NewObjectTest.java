/** Promise 1. */
public final class NewObjectTest {
    public static void main(String[] args) {
        Due due = new Due("NewObjectTest");
        TwinLog x = new TwinLog();
        due.node("new", x, 0, 2, 0, 1, 1, -1, -1, 0);
        due.node("new", x, 1, 0, 0, 1, 0, -1, -1, 0);
        due.link("new", x);
        due.log("new", x, 0);
        due.log("new", x, 1);
        due.is("pump()", x.pump(), 0);
        due.is("same()", x.same(), 0);
        objectsAreApart(due);
        due.end();
    }

    private static void objectsAreApart(Due due) {
        TwinLog used = new TwinLog();
        used.put(0, 1, 1);
        used.pump();
        used.fuse(0, 3);
        used.crash(1);
        TwinLog x = new TwinLog();
        due.node("beside a used one", x, 0, 2, 0, 1, 1, -1, -1, 0);
        due.node("beside a used one", x, 1, 0, 0, 1, 0, -1, -1, 0);
        due.link("beside a used one", x);
    }
}
