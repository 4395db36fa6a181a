import java.io.IOException;

/** Every sentence of the document's terms and promises, each with runs of its own. */
public final class SentencesTest {
    public static void main(String[] args) throws IOException {
        Book book = new Book();
        book.section("What it is");
        book.said("An object is used for at most 512 calls after it has been made;",
            "509*count(0)=0 seeker(7)=0 count(5)=1 match(0)=NONE",
            "511*match(-2)=BEYOND found(1)=511");
        SaidOfFindings.tell(book);
        SaidOfThings.tell(book);
        SaidOfSeekers.tell(book);
        SaidOfAddresses.tell(book);
        SaidOfSales.tell(book);
        SaidOfSorters.tell(book);
        SaidOfTold.tell(book);
        book.end();
    }
}
