/** The edges that 'Terms' names in THE TEXT, its ORDERS and its FAULT. EDGES.md has the sentences. */
public final class TextEdgeTest extends Checks {
    private static final String LETTERS = "admpref", FIGURES = "0123456789";

    public static void main(String[] args) throws IllegalAccessException {
        runEdges(TextEdgeTest.class);
    }

    private static int fault(int place) {
        return -10 - place;
    }

    /** What does() answers for THE TEXT alone in a new object, where an ORDER on section 1 ends all. */
    private static void does(String text, int want) {
        due("does, THE TEXT being '" + text + "'", doesText(new Used(), text), want);
    }

    static void bytesAtMost150() {
        Used x = new Used();
        for (int i = 1; i <= 150; i++) {
            due("type", x.type(' '), i);
        }
        due("bytes", x.refused(3), 150);
        due("one more", x.type(' '), FULL);
        due("bytes", x.refused(3), 150);
        due("clear", x.clear(), 150);
        due("from the front", x.type(' '), 1);
        refuses("one more", Checks::filled, y -> y.type(';'), FULL);
        due("the 150th byte is read", doesText(new Used(), " ".repeat(148) + "f;"), 1);
        due("the 150th byte can not stand there", doesText(new Used(), " ".repeat(147) + "f;x"), fault(149));
        due("behind the 150th byte it ends too early", doesText(new Used(), " ".repeat(149) + "f"), fault(150));
    }

    static void asManyOrdersAsCanBe() {
        Used x = after(Checks::grown);
        due("75 ORDERS", doesText(x, "f;".repeat(75)), 75);
        due("one STATE", x.refused(4), 5);
        due("the last that can be refused", doesText(new Used(), "f;".repeat(73) + "p0;"), -1073);
        due("the last of 75 is done", doesText(after("a0 0 0 1 1;"), "f;".repeat(74) + "f;"), 75);
    }

    static void eachEndedByASemicolon() {
        for (String order : new String[] {"f", "p1", "d0 0", "r0 0 1", "e0 0 1", "m0 0 0 0", "a0 0 0 1 1"}) {
            does(order, fault(order.length()));
            does(order + " ", fault(order.length() + 1));
            does("f;" + order, fault(order.length() + 2));
            does(order + "f;", fault(order.length()));
        }
        does(";", fault(0));
        does("f;;", fault(2));
        does("f; ;", fault(3));
    }

    static void asManyNumbersAsTheOrderHas() {
        String[] orders = {"f", "p1", "d0 0", "r0 0 1", "e0 0 1", "m0 0 0 0", "a0 0 0 1 1"};
        int[] answers = {1, 1, -1000, 1, 1, -1000, 1};
        for (int i = 0; i < orders.length; i++) {
            String order = orders[i];
            does(order + ";", answers[i]);
            does(order + " ;", answers[i]);
            does(order + " 0;", fault(order.length() + 1));
            if (order.length() > 1) {
                String less = order.substring(0, order.length() - 1).strip();
                does(less + ";", fault(less.length()));
                does(less + " ;", fault(less.length() + 1));
            }
        }
        does("f0;", fault(1));
    }

    static void oneOrTwoFigures() {
        does("p1;", 1);
        does("p01;", 1);
        does("p00;", -1000);
        does("p99;", -1000);
        does("p001;", fault(3));
        does("p000", fault(3));
        does("p;", fault(1));
        does("r00 00 99;", 1);
        does("r00 00 099;", fault(9));
        does("r000 0 9;", fault(3));
        does("r0 000 9;", fault(5));
        does("a00 00 00 00 00;", 1);
        does("a00 00 00 00 000;", fault(15));
        does("d123;", fault(3));
        Used x = after("a0 0 0 99 0;a00 00 01 07 70;");
        due("99", x.of(0, 1, 2), 99);
        due("0", x.of(0, 1, 3), 0);
        due("07", x.of(0, 2, 2), 7);
        due("70", x.of(0, 2, 3), 70);
        due("100 can not be said", doesText(new Used(), "a0 0 0 100 0;"), fault(9));
    }

    static void blanksAnywhereButInANumber() {
        does("   p   1   ;   ", 1);
        does(" p 01 ; f ; ", 2);
        does("a   0   0   0   10   10   ;", 1);
        does("p1 2;", fault(3));
        does("p0 1;", fault(3));
        does("r0 0 1 2;", fault(7));
        does("d1 2;", -1000);
        does("d12;", fault(3));
        does("f ;", 1);
        does(" f;", 1);
        does("f; ", 1);
        for (int c = 0; c < 128; c++) {
            if (c != ' ' && c != ';' && LETTERS.indexOf(c) < 0) {
                does((char) c + "f;", fault(0));
                does("f" + (char) c + ";", fault(1));
                does("f;" + (char) c, fault(2));
            }
        }
    }

    static void blanksNeededBetweenNumbersAlone() {
        does("a0 0 0 1 1;r0 1 2;e0 1 3;m0 1 0 0;d0 1;f;p2;", 7);
        does("r0 0 12;", 1);
        does("r0 012;", fault(5));
        does("r00012;", fault(3));
        does("d00;", fault(3));
        Used x = after("r0 0 12;");
        due("NAME", x.of(0, 0, 2), 12);
    }

    /** Which bytes can stand behind each beginning: all others are the FAULT. */
    static void everyByteBehindEveryBeginning() {
        String letters = " " + LETTERS;
        String figures = " " + FIGURES;
        canStand("", letters);
        canStand("  ", letters);
        canStand("f;", letters);
        canStand("p1; ", letters);
        canStand("f", " ;");
        canStand("f ", " ;");
        for (String letter : new String[] {"p", "d", "r", "e", "m", "a"}) {
            canStand(letter, figures);
            canStand(letter + " ", figures);
        }
        String[] orders = {"p1", "d0 0", "r0 0 1", "e0 0 1", "m0 0 0 0", "a0 0 0 1 1"};
        for (String order : orders) {
            canStand(order, figures + ";");
            canStand(order + "7", " ;");
            canStand(order + " ", " ;");
            canStand(order + "7 ", " ;");
            for (int i = 2; i < order.length(); i += 2) {
                canStand(order.substring(0, i), figures);
                canStand(order.substring(0, i) + "7", " ");
                canStand(order.substring(0, i) + " ", figures);
            }
        }
    }

    private static void canStand(String beginning, String bytes) {
        for (int c = 0; c < 128; c++) {
            int answer = doesText(new Used(), beginning + (char) c);
            boolean stands = answer != fault(beginning.length());
            due("'" + beginning + "' and byte " + c + " can stand", stands ? 1 : 0, bytes.indexOf(c) >= 0 ? 1 : 0);
        }
    }

    static void endsTooEarly() {
        does("", fault(0));
        for (int n = 1; n <= 150; n += n < 3 ? 1 : 49) {
            does(" ".repeat(n), fault(n));
        }
        String whole = " a 10 0 01 44 55 ; ";
        for (int n = 0; n < whole.indexOf(';') + 1; n++) {
            does(whole.substring(0, n), fault(n));
        }
        does("f;", 1);
        does("f; ", 1);
        does("f; p", fault(4));
        Used x = new Used();
        due("never typed", x.does(), fault(0));
        types(x, "f;");
        x.clear();
        due("cleared", x.does(), fault(0));
    }

    static void theFirstByteThatCanNotStand() {
        does("xy", fault(0));
        does("f;xy", fault(2));
        does("fxy;", fault(1));
        does("p111 x;", fault(3));
        does("p1;p1;p1;p1 1;", fault(12));
    }

    /** Wherever a TEXT broke off, the next one is read from its own first byte. */
    static void aFaultIsForgotten() {
        Used x = new Used();
        for (String broken : new String[] {"p", "p1", "p12", "p1 ", "d0", "d0 1", "a0 0 0 1 1", "f", "f;p1"}) {
            due("broken off: " + broken, doesText(x, broken), fault(broken.length()));
            due("the next one behind " + broken, doesText(x, "p02;p1;p02;"), 3);
            due("PREFERRED", x.told(0), 2);
            due("taken back", x.back() >= 0 ? 1 : 0, 1);
        }
    }

    static void readWholeFirst() {
        does("p0;x", fault(3));
        does("p0;p", fault(4));
        does("d0 0;d0 0;d0 0 0;", fault(15));
        does("p0;p1;", -1000);
    }

    static void withAFaultNothingIsDone() {
        for (String text : new String[] {"r0 1 33;x", "r0 1 33;f", "p2;a0 0 0 1 1;m", "d0 1;f;;", ""}) {
            Used x = after(Checks::grown);
            Used twin = after(Checks::grown);
            x.clear();
            twin.clear();
            types(x, text);
            types(twin, text);
            due("a FAULT in '" + text + "'", x.does() <= -10 ? 1 : 0, 1);
            due("nothing is done", x.digest(), twin.digest());
            due("no STATE", x.refused(4), 5);
            due("what can be gone back to", x.back(), twin.back());
            due("is as it was", x.digest(), twin.digest());
        }
    }

    static void anOrderThatIsRefusedEndsAll() {
        endsAll(0, "a3 0 0 1 1;");
        endsAll(0, "a0 9 0 1 1;");
        endsAll(0, "a0 0 9 1 1;");
        endsAll(0, "m0 0 1 0;");
        endsAll(0, "m0 1 1 0;");
        endsAll(0, "m0 1 2 0;");
        endsAll(0, "m0 1 0 2;");
        endsAll(0, "r3 1 1;");
        endsAll(0, "r0 9 1;");
        endsAll(0, "e3 1 1;");
        endsAll(0, "e0 9 1;");
        endsAll(0, "d0 0;");
        endsAll(0, "d3 1;");
        endsAll(0, "d0 9;");
        endsAll(0, "p0;");
        endsAll(0, "p3;");
        endsAll(1, "p2;p3;");
        endsAll(2, "f;p2;d0 0;r0 1 5;");
        endsAll(3, "a0 0 0 1 1;d0 1;a1 0 0 2 2;d0 1;");
        endsAll(11, "a2 0 0 1 1;".repeat(12));
    }

    /** The ORDER of that number ends all: not one of those ahead of it has been done, none behind it is. */
    private static void endsAll(int order, String text) {
        Used x = after(Checks::grown);
        Used twin = after(Checks::grown);
        x.clear();
        twin.clear();
        types(x, text);
        types(twin, text);
        due(text, x.does(), -1000 - order);
        due(text + " nothing is done, nothing counts", x.digest(), twin.digest());
        due(text + " again", x.does(), -1000 - order);
        for (int i = 0; i < 5; i++) {
            due(text + " the states", x.back(), twin.back());
            due(text + " what was kept", x.digest(), twin.digest());
        }
    }

    static void anOrderSeesThoseAheadOfIt() {
        does("a0 0 0 1 1;r0 1 9;", 2);
        does("r0 1 9;a0 0 0 1 1;", -1000);
        does("a0 0 0 1 1;d0 1;r0 1 9;", -1002);
        does("a0 0 0 1 1;f;r2 1 9;", 3);
        does("a0 0 0 1 1;a0 1 0 1 1;m0 1 2 0;", -1002);
    }

    static void theTextStays() {
        Used x = new Used();
        due("done", doesText(x, "a0 0 0 1 1;"), 1);
        due("bytes", x.refused(3), 11);
        due("done again", x.does(), 1);
        due("two sections", x.size(0, 0), 3);
        due("a byte more", x.type('x'), 12);
        due("a FAULT", x.does(), fault(11));
        due("bytes", x.refused(3), 12);
        due("two sections, still", x.size(0, 0), 3);
    }

    static void bytesFrom0To127() {
        asksAndTypes(0);
        asksAndTypes(127);
        outside("a byte", 0, 127, c -> x -> x.type(c));
        refuses("BAD ahead of FULL", Checks::filled, x -> x.type(128), BAD);
        refuses("BAD ahead of FULL", Checks::filled, x -> x.type(-1), BAD);
    }

    /** A byte is one more in THE TEXT, and no STATE. */
    private static void asksAndTypes(int c) {
        Used x = after(Checks::grown);
        Used twin = after(Checks::grown);
        int had = twin.refused(3);
        due("byte " + c, x.type(c), had + 1);
        differs("byte " + c, x, twin, 3, 1);
        due("it is a FAULT", x.does(), fault(had));
        due("cleared", x.clear(), had + 1);
        differs("cleared", x, twin, 3, -had);
    }
}
