/** Promises 1 to 5: a new object, letter(), blank(), fault(), text(). */
public final class PageTest {
    public static void main(String[] args) {
        testNewObject();
        testLetter();
        testBlank();
        testWholeTexts();
        testFaults();
        testText();
        testAnotherText();
        Due.end("PageTest");
    }

    private static void testNewObject() {
        Used x = new Used();
        for (int what = 0; what < 8; what++) {
            Due.is("count of a new object", x.count(what), 0);
        }
        for (int register = 0; register < 4; register++) {
            Due.is("register of a new object", x.register(register), 0);
        }
        Due.is("fault()", x.fault(), 0);
        Due.is("text()", x.text(), RowUnwinder.STATE);
        Due.is("blank()", x.blank(), 0);
        Due.is("row()", x.row(0, 0, 0), RowUnwinder.UNKNOWN);
        Due.is("pad()", x.pad(0, 0, 0), RowUnwinder.UNKNOWN);
        Due.is("as()", x.as(0, 0, 0), RowUnwinder.UNKNOWN);
        Due.is("frame()", x.frame(0, 0), RowUnwinder.UNKNOWN);
        Due.is("call()", x.call(0), RowUnwinder.UNKNOWN);
        Due.is("go()", x.go(1), RowUnwinder.STATE);
        Due.is("set()", x.set(0, 0), RowUnwinder.STATE);
        Due.is("back()", x.back(), RowUnwinder.STATE);
        Due.is("raise()", x.raise(0), RowUnwinder.STATE);
        Due.is("change()", x.change(0, 0, 0), RowUnwinder.UNKNOWN);
        Due.is("undo()", x.undo(), RowUnwinder.STATE);
        Due.is("search()", x.search(0, 0), RowUnwinder.STATE);
        Due.is("loose()", x.loose(), RowUnwinder.STATE);
        Due.is("finished(NONE)", x.finished(RowUnwinder.NONE), 0);
        Due.is("finished(0)", x.finished(0), RowUnwinder.UNKNOWN);
        Due.is("same()", x.same(0, 0), RowUnwinder.UNKNOWN);
        Due.is("see()", x.see(0, 0, 0, 0), RowUnwinder.UNKNOWN);
        Due.is("forget()", x.forget(), 0);
        Due.is("drawn()", x.drawn(1, 0, 0), RowUnwinder.STATE);
        Due.is("image()", x.image(), RowUnwinder.STATE);
        Due.is("restore()", x.restore(), RowUnwinder.STATE);
    }

    private static void testLetter() {
        Used x = new Used();
        long ahead = x.digest();
        int[] outside = {0, -1, 127, 128, Integer.MIN_VALUE, Integer.MAX_VALUE};
        for (int code : outside) {
            Due.refused("letter " + code, x, ahead, x.letter(code), RowUnwinder.OUTSIDE);
        }
        Due.is("the least letter", x.letter(1), 1);
        Due.is("the greatest letter", x.letter(126), 2);
        for (int many = 3; many <= 100; many++) {
            Due.is("letter " + many, x.letter(';'), many);
        }
        ahead = x.digest();
        Due.refused("letter 101", x, ahead, x.letter(';'), RowUnwinder.FULL);
        Due.refused("letter 101, outside", x, ahead, x.letter(0), RowUnwinder.OUTSIDE);
        Due.is("count(6)", x.count(6), 100);
    }

    private static void testBlank() {
        Used x = Due.written("s00");
        Due.is("blank()", x.blank(), 3);
        Due.is("blank() again", x.blank(), 0);
        Due.is("letter behind blank()", x.letter(';'), 1);
        Due.is("text()", x.text(), 1);
    }

    private static void testWholeTexts() {
        String[] texts = {";", ";/;", ";/;/;", "+9;", "+1+1+1+1+1+1+1+1;", "s00s35u0u3mbm;", "mmm;", "mmmb;", "mmmbbb;", "mmmbm;",
            "+9mbs35;", ";c0000", ";a9949", ";f0909u5540g1200", "mm;/mmm;/mbmb;", ";c0000c0000c0000/;/;g3900",
            "+3m+3u1+3b;/+9s00;", "mbmbmbmb;"};
        for (String text : texts) {
            Used x = Due.written(text);
            Due.is("fault() of " + text, x.fault(), text.length());
            Due.is("text() of " + text, x.text(), text.split("/", -1).length);
            Due.is("count(0) of " + text, x.count(0), text.split("/", -1).length);
            Due.is("count(6) behind text()", x.count(6), 0);
        }
        String longest = "s00s11s22s33s00s11s22s33;c0000c0000c0000/s00s11s22s33s00s11s22s33;c0000c0000c0000/s00s11s22s33;c0000";
        Due.is("letters", longest.length(), 100);
        Due.is("text()", Due.read(longest).count(1), 7);
        Used begun = Due.written(longest.replace("s33;c0000c0000c0000/s00s11s22s33;c0000", "s33;c0000c0000c0000/s00s11s22s33m;c000"));
        Due.is("count(6)", begun.count(6), 100);
        Due.is("fault() of a hundred letters", begun.fault(), 100);
        Due.is("text() of a hundred letters", begun.text(), RowUnwinder.STATE);
    }

    /** What may be begun so, but is none yet. */
    private static void testFaults() {
        String[] begun = {"", "+", "+8+1+", "+9+", "s", "s3", "s35", "u", "u3", "m", "mb", "mmm", ";c", ";c0", ";c00", ";c000", ";/",
            ";/;/", "+9", "+1+1+1+1+1+1+1+", "mbmbmbmb", ";c0000/"};
        for (String page : begun) {
            Used x = Due.written(page);
            long ahead = x.digest();
            Due.is("fault() of " + page, x.fault(), page.length());
            Due.refused("text() of " + page, x, ahead, x.text(), RowUnwinder.STATE);
        }
        // The place of the fault is where the bar stands.
        String[] broken = {"|x", "|c0000", "|/", "|0", "+|0;", "+|s", "+|:", "+|/", "+5+|5", "+9+|1", "+4+5+|1", "s|4", "s|/", "s0|6", "s0|/",
            "s0|;", "u|4", "u|;", "|b", "m|n", "mb|b", "mmm|m", "mmmbm|m", "mmmbbb|b", "mbmbmbmb|m", "mbmbmbmb|+", "mbmbmbmb|s",
            "mbmbmbmb|x", ";|;", ";|x", ";|s", ";|0", ";|C", ";c|:", ";c|/", ";c|c", ";c0|:", ";c5|4", ";c9|8", ";c00|5", ";c00|/",
            ";c000|:", ";c000|/", ";c0000|0", ";c0000c0000c0000|c", ";/;/;|/", ";/|/", ";/|c", ";/mm;/mmm|m", "+9;/+9+|1",
            "m;/|b", ";|\u0001", "|\u0001", "+1+1+1+1+1+1+1+1|+", "s0|s", "m| ", ";c0000|;", "|C", "|M"};
        for (String marked : broken) {
            String page = marked.replace("|", "");
            Used x = Due.written(page);
            long ahead = x.digest();
            Due.is("fault() of " + marked, x.fault(), marked.indexOf('|'));
            Due.refused("text() of " + marked, x, ahead, x.text(), RowUnwinder.STATE);
            // What comes behind the fault makes no difference.
            Due.is("letter", x.letter(';'), page.length() + 1);
            Due.is("fault() of " + marked + ";", x.fault(), marked.indexOf('|'));
        }
    }

    private static void testText() {
        Used x = Due.read("s00;c0000/;");
        Due.is("count(7)", x.count(7), 1);
        Due.is("count(6)", x.count(6), 0);
        long ahead = x.digest();
        Due.refused("text() of no letters", x, ahead, x.text(), RowUnwinder.STATE);
        Due.is("letter", x.letter('x'), 1);
        Due.is("text() of x", x.text(), RowUnwinder.STATE);
        Due.is("count(0)", x.count(0), 2);
        Due.is("count(6)", x.count(6), 1);
    }

    private static void testAnotherText() {
        Used x = Due.read("s00;a0900f0901/s11;");
        x.set(0, 5);
        x.call(0);
        x.call(1);
        x.raise(3);
        x.see(0, 1, 0, 0);
        x.change(0, 0, 1);
        x.image();
        Due.write(x, ";c0000");
        Due.is("text()", x.text(), 1);
        int[] counts = {1, 1, 0, 0, 0, 0, 0, 2};
        for (int what = 0; what < 8; what++) {
            Due.is("count(" + what + ")", x.count(what), counts[what]);
        }
        Due.is("register(0)", x.register(0), 0);
        Due.is("row(0, 0, 0)", x.row(0, 0, 0), -1);
        Due.is("row(1, 0, 0)", x.row(1, 0, 0), RowUnwinder.UNKNOWN);
        Due.is("pad(0, 0, 0)", x.pad(0, 0, 0), 0);
        Due.is("pad(0, 0, 5)", x.pad(0, 0, 5), 31);
        Due.is("pad(0, 1, 0)", x.pad(0, 1, 0), RowUnwinder.UNKNOWN);
        Due.is("finished(NONE)", x.finished(-1), 0);
        Due.is("undo()", x.undo(), RowUnwinder.STATE);
        Due.is("restore()", x.restore(), RowUnwinder.STATE);
        Due.is("call(0)", x.call(0), 1);
        Due.is("a cell of a new frame", x.frame(0, 2), 0);
        Used fresh = Due.read(";c0000");
        fresh.call(0);
        Due.write(x, "m");
        Due.write(fresh, "m");
        long factor = fresh.digest() - x.digest();
        Due.is("digests differ by how often a text was read", factor, -1);
    }
}
