/** Counts the answers that are as due, and tells those that are not. */
final class Due {
    private final String name;
    private int passed = 0;
    private int failed = 0;
    private String section = "";

    Due(String name) {
        this.name = name;
    }

    /** What follows stands under this section of the document. */
    void in(String section) {
        this.section = section + ": ";
    }

    void is(String what, long want, long got) {
        if (want == got) {
            passed++;
        } else {
            failed++;
            System.out.println(name + ": " + section + what + " answered " + got + ", due is " + want);
        }
    }

    void holds(String what, boolean so) {
        is(what, 1, so ? 1 : 0);
    }

    int all() {
        return passed + failed;
    }

    void end() {
        System.out.println(name + ": " + passed + " passed, " + failed + " failed");
        if (failed != 0 || passed == 0) {
            System.exit(1);
        }
    }

    /** Writes a text on the page, letter by letter. */
    static void write(MossWall wall, String text) {
        for (int place = 0; place < text.length(); place++) {
            wall.letter(text.charAt(place));
        }
    }

    /** A new object that has read a text as its wall. */
    static MossWall read(String text) {
        MossWall wall = new MossWall();
        write(wall, text);
        wall.wall();
        return wall;
    }
}
