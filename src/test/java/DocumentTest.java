/** The whole document from its first line to its last, word by word, with a check of whatever its words promise. */
public final class DocumentTest {
    public static void main(String[] args) throws Exception {
        TermsSaid.all();
        RacesSaid.all();
        PromisesSaid.all();
        RacePromisesSaid.all();
        Document.isWhole();
        Due.done();
    }
}
