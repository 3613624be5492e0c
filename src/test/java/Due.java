/** Counts the answers of a test that are not as due. */
final class Due {
    private static int checked = 0;
    private static int wrong = 0;
    private static String sentence = "";

    private Due() {
    }

    /** What follows holds the class to this sentence of the document. */
    static void sentence(String told) {
        sentence = told + ": ";
    }

    static void is(String call, long got, long want) {
        checked++;
        if (got != want) {
            wrong++;
            System.out.println(sentence + call + " answered " + got + ", due is " + want);
        }
    }

    static void holds(String what, boolean so) {
        is(what, so ? 1 : 0, 1);
    }

    static void same(String what, String got, String want) {
        holds(what + " (told " + (got.equals(want) ? "so" : got + " and not " + want) + ")", got.equals(want));
    }

    /** A new object's tape gets all bytes of a text, up to eight at a time. */
    static void feed(LayerBook book, String text) {
        for (int i = 0; i < text.length(); i += 8) {
            int n = Math.min(8, text.length() - i);
            long bytes = 0;
            for (int j = 0; j < n; j++) {
                bytes |= (text.charAt(i + j) & 255L) << 8 * j;
            }
            book.feed(n, bytes);
        }
    }

    static int text(LayerBook book, String text) {
        feed(book, text);
        return book.text();
    }

    static int order(LayerBook book, String text) {
        feed(book, text);
        return book.order();
    }

    /** The text is THE LAW from now on. */
    static void law(LayerBook book, String text) {
        is("a law that can be read", book.force(text(book, text)) >= 0 ? 1 : 0, 1);
    }

    /** The order is THE ORDER from a month on. */
    static void orderFrom(LayerBook book, int month, String text) {
        int order = order(book, text);
        is("an order that can be read", order >= 0 ? 1 : 0, 1);
        is("amended", book.amend(month, order), book.count(5));
    }

    static void runTo(LayerBook book, int month) {
        for (int i = 0; i < 60 && book.count(5) < month; i++) {
            book.run(Math.min(12, month - book.count(5)));
        }
    }

    static void end(String name) {
        System.out.println(name + ": " + checked + " answers, " + wrong + " not as due");
        if (wrong > 0 || checked == 0) {
            System.exit(1);
        }
    }
}
