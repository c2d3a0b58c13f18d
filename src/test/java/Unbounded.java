/** What stands in DOC.md and names no edge: what a thing is, or what another sentence bounds. */
final class Unbounded {
    static final String[] WORDS = {
        "A fabric of switches between hosts and discs: frames with a check that go from buffer to buffer by credits, switches that tell "
            + "one another what they see and find ways by it, nodes that log in and ask for names, zones, and blocks that are read and "
            + "written by exchanges, each of which ends with an answer, or an abort, in time.",
        "TIME is in TICKS.",
        "All memory is the class's own.",
    };

    private Unbounded() {
    }
}
