/** Each sentence that names a boundary case, with a test of its own; 'Edges' tells how they are named. */
public final class EdgesTest {
    private EdgesTest() {
    }

    public static void main(String[] args) {
        Edges.run(WhatItIsEdges.class, TermsEdges.class, WallEdges.class, DoneEdges.class, WouldBeEdges.class,
                SeenEdges.class, AllEdges.class);
        Edges.due.end();
    }
}
