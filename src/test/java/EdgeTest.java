import java.io.IOException;

/**
 * Each sentence of the document, quoted word for word, with what it asks for at its boundaries: too
 * small, too large, empty, full, wrapped around, refused. Words of a promise that no test quotes fail.
 */
final class EdgeTest {
    private static final String[] HEADINGS = {"talks.", "joined.", "helpers.", "rows.", "the log.", "what is told."};
    private static final String[] GROUPS = {
        "`letters`, `blank`, `good`, `talk`, `steps`, `next`, `ends`, `uses`",
        "`join`, `walked`, `trace`, `fit`, `swap`, `adapters`, `adapter`",
        "`helper`, `set`, `level`, `about`",
        "`put`, `empty`, `at`, `stops`, `after`, `taint`, `costs`, `plan`, `chance`, `mean`, `undone`",
        "`begin`, `call`, `see`, `strike`, `worlds`, `held`, `world`, `broken`, `again`",
        "`count`, `digest`"};

    public static void main(String[] args) throws IOException {
        Doc.open();
        for (int i = 0; i < GROUPS.length; i++) {
            Doc.passOver("Terms", "Ahead of the calls " + GROUPS[i] + " the interface says: ---- " + HEADINGS[i]);
        }
        TalkEdges.all();
        JoinEdges.all();
        HelperEdges.all();
        RowEdges.all();
        LogEdges.all();
        TellEdges.all();
        RefusalEdges.all();
        Doc.close();
        Check.finish("EdgeTest");
    }
}
