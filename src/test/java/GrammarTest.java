/**
 * 'Terms' 2: whatever stands behind whatever. Every row of a few tokens behind some beginnings is told as a text to
 * the class and to the model's reader, which goes down the grammar; lines, fault and place must be alike.
 */
public final class GrammarTest {
    private static final String[] TOKENS = {"take ", "when ", "or ", "and ", "not ", "( ", ") ", "; ", "= ", "+ ", "/ ",
        "0 ", "2 ", "own ", "$ "};
    private static final String[] BEGINNINGS = {"", "take when ", "take when ( ", "take when not 1 = 1 ",
        "take when ( 1 < 2 ) ", "take when 1 + ", "leave ; take when 1 = 3 / "};
    private static final int LENGTH = 4;
    /** So many texts are told to one object, one behind another, ahead of the document's 512 calls. */
    private static final int TEXTS = 60;

    private static TakeOver x;
    private static int told;

    public static void main(String[] args) {
        for (String beginning : BEGINNINGS) {
            goOn(beginning, LENGTH);
        }
        Due.end();
    }

    private static void goOn(String text, int more) {
        compare(text);
        if (more > 0) {
            for (String token : TOKENS) {
                goOn(text + token, more - 1);
            }
        }
    }

    private static void compare(String text) {
        if (told % TEXTS == 0) {
            x = new TakeOver();
        }
        told++;
        Model.Text due = new Model.Text(text);
        Due.is("10: lines of \"" + text + "\"", Due.law(x, text), due.check());
        Due.is("11: fault(0) of \"" + text + "\"", x.fault(0), due.fault);
        Due.is("11: fault(1) of \"" + text + "\"", x.fault(1), due.faultPlace);
    }
}
