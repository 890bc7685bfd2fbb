/** For each sentence of the document that names a boundary case the tests of that case. */
public final class EdgesTest {
    public static void main(String[] args) {
        Edge.says("A house of code review:");
        Ranges.run();
        DeskEdges.run();
        MergeEdges.run();
        ChangeEdges.run();
        DifferenceEdges.run();
        CommentEdges.run();
        FindingEdges.run();
        OwnerEdges.run();
        VoteEdges.run();
        RuleEdges.run();
        LandingEdges.run();
        PeopleEdges.run();
        Edge.finish("EdgesTest");
    }
}
