/**
 * Runs the tests of all that the document says, sentence by sentence; fails if it has a sentence
 * that none of them is for.
 */
public final class EdgesTest extends Edges {

    /** Sentences that FaceTest is for, and those that say nothing that could be broken. */
    private static void otherSentences() {
        testedBy(0, "All numbers are whole numbers.");
        for (String calls : new String[] {
            "`chip`, `elect`, `kill`, `breaks`, `chipOf`, `rowOf` the interface says: ---- chips.",
            "`put`, `write`, `read`, `carry`, `empty`, `wordOf` the interface says: ---- words.",
            "`familyOf`, `tick` the interface says: ---- families.",
            "`loss`, `safe`, `worstTwo`, `calm`, `heir`, `count`, `undo` the interface says: ---- what would be.",
            "`type`, `clearText`, `fault`, `play` the interface says: ---- texts."}) {
            testedBy(0, "Ahead of the calls " + calls);
        }
        testedBy(0, "The constants:");
        // What the terms and promises tell more closely.
        testedBy(0, "Memory words on chips of families that have a godfather: a chip that keeps no words but the sum of"
            + " each row of its family, by which the words of a chip that dies are raised and come to other chips, one by"
            + " tick; second deaths by which sums do not do, chips without a godfather, rows that break and spare rows that"
            + " stand in for them, words that are carried, chips that are emptied and elected, what would be lost by which"
            + " deaths, and orders as texts with places and reasons of faults.");
        // What is free.
        testedBy(27, "How the state is held inside the object is free, as are the speed of each call, the text of toString"
            + " and the behaviour of equals and hashCode. Use of one object from several threads at once is not promised to"
            + " be safe. Nothing is promised beyond the answers and state changes described above, and nothing about an"
            + " object after its 512th call.");
    }

    public static void main(String[] args) {
        TermsEdges.all();
        ChipEdges.all();
        WordEdges.all();
        FamilyEdges.all();
        TextEdges.all();
        ChangeEdges.all();
        otherSentences();
        everySentence();
        end();
    }
}
