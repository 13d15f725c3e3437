/** Pages written and read: TEXTS, what a TEXT may begin with, and what it may not. */
final class Pages {
    private Pages() {
    }

    /** The bar stands ahead of the first letter that no TEXT has there. */
    static void broken(String marked) {
        broken(marked.replace("|", ""), marked.indexOf('|'));
    }

    private static void broken(String page, int place) {
        Used x = Due.written(page);
        Due.is("fault() of " + page, x.fault(), place);
        Due.is("text() of " + page, x.text(), RowUnwinder.STATE);
    }

    /** It is no TEXT, but one may begin so. */
    static void begun(String page) {
        Used x = Due.written(page);
        Due.is("fault() of " + page, x.fault(), page.length());
        Due.is("text() of " + page, x.text(), RowUnwinder.STATE);
    }

    static Used whole(String text) {
        Used x = Due.written(text);
        Due.is("fault() of " + text, x.fault(), text.length());
        Due.is("text() of " + text, x.text(), text.split("/", -1).length);
        return x;
    }

    /** Whether a letter may come behind what is begun. */
    static void may(boolean may, String begun, char last) {
        if (may) {
            Due.is("fault() of " + begun + last, Due.written(begun + last).fault(), begun.length() + 1);
        } else {
            broken(begun + last, begun.length());
        }
    }
}
