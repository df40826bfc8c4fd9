/** Texts at the bounds that the document names: the last that is taken, and the FAULT of the first that is not. */
final class BoundaryTexts {
    private static final int LAW = 1;
    private static final int GIANT = 2;

    private final Due due;

    private BoundaryTexts(Due due) {
        this.due = due;
    }

    static void all(Due due) {
        BoundaryTexts texts = new BoundaryTexts(due);
        texts.sayingsEndTooEarly();
        texts.sayingsCannotGoOn();
        texts.blanksOfSayings();
        texts.eightOfSayings();
        texts.namesOfSayings();
        texts.longSayings();
        texts.textsEndTooEarly();
        texts.textsCannotGoOn();
        texts.conditions();
        texts.sums();
        texts.labels();
        texts.letters();
        texts.digits();
        texts.blanksOfTexts();
        texts.sixOfTexts();
        texts.longTexts();
    }

    /** The FAULT is where it is due, and the text is refused or kept by it, staying or not. */
    private void faultIs(int sort, String text, int want) {
        LiarHall hall = new LiarHall();
        String call = "fault(" + sort + ") of '" + text + "'";
        due.is(call, Due.faultOf(hall, sort, text), want);
        due.is("bytes behind " + call, hall.count(6), text.length());
        int number = sort == 0 ? hall.saying() : sort == LAW ? hall.law() : hall.giant();
        due.is("number of '" + text + "'", number, want == -1 ? 0 : -1);
        due.is("bytes behind '" + text + "'", hall.count(6), want == -1 ? 0 : text.length());
        due.is("kept of '" + text + "'", hall.count(sort), want == -1 ? 1 : 0);
        if (want != -1) {
            due.is(call + " again", hall.fault(sort), want);
        }
    }

    private void fine(int sort, String... texts) {
        for (String text : texts) {
            faultIs(sort, text, -1);
        }
    }

    private void tooEarly(int sort, String... texts) {
        for (String text : texts) {
            faultIs(sort, text, text.length());
        }
    }

    /** Each text's last byte is the FAULT. */
    private void wrongAtLast(int sort, String... texts) {
        for (String text : texts) {
            faultIs(sort, text, text.length() - 1);
            faultIs(sort, text + ")a?", text.length() - 1);
        }
    }

    /** FAULT: the length, if it ends too early. */
    private void sayingsEndTooEarly() {
        tooEarly(0, "", " ", "   ", "a|", "a&", "a| ", "!", "!!!!!!!!", "(", "((((((((", "(a", "(a ", "(a|", "(a&b", "!(",
            "a|(", "a&!", "(a|b)&", "((a)", "a|b&(c|!(d");
    }

    /** FAULT: the first byte at which no SAYING can go on. */
    private void sayingsCannotGoOn() {
        wrongAtLast(0, "|", "&", ")", "?", " )", "a)", "aa", "a!", "a(", "a b", "a||", "a&&", "a|&", "a&|", "!|", "!&", "!)",
            "(|", "()", "(&", "(a)b", "(a)(", "(a)!", "(a))", "(a b", "((a)))", "a|b|)", "!a!", "1", "a1", "a=", ";");
        faultIs(0, "a||", 2);
        faultIs(0, "a)))))", 1);
    }

    /** Blanks (32) may stand between all these. */
    private void blanksOfSayings() {
        fine(0, " a", "a ", " ! a ", "( a )", " ( a | b ) & ! ( c ) ", "!  !  a", "a  |  b");
        for (int sign = 1; sign < 256; sign++) {
            boolean name = sign >= 'a' && sign <= 'f';
            boolean mark = sign == '!' || sign == '(';
            faultIs(0, (char) sign + "", name ? -1 : mark || sign == ' ' ? 1 : 0);
            faultIs(0, "a" + (char) sign, sign == ' ' ? -1 : sign == '|' || sign == '&' ? 2 : 1);
        }
    }

    /** At most eight of ! and ( within one another; a ninth of these is such. */
    private void eightOfSayings() {
        for (int signs = 0; signs < 1 << 9; signs++) {
            StringBuilder open = new StringBuilder();
            StringBuilder close = new StringBuilder();
            for (int i = 0; i < 9; i++) {
                boolean round = (signs >> i & 1) == 1;
                open.append(round ? '(' : '!');
                close.append(round ? ")" : "");
            }
            faultIs(0, open + "a" + close, 8);
            int eight = close.length() - (open.charAt(8) == '(' ? 1 : 0);
            faultIs(0, open.substring(0, 8) + "a" + Due.times(")", eight), -1);
        }
        faultIs(0, "(((((((((", 8);
        faultIs(0, "!!!!!!!!!", 8);
        faultIs(0, " ! ! ! ! ! ! ! ! !", 17);
        fine(0, "((((((((a))))))))|((((((((b))))))))", "!!!!!!!!a&!!!!!!!!b", "((((((((a|b&c))))))))");
        faultIs(0, "((((((((a))))))))|(((((((((b)))))))))", 26);
        faultIs(0, "((((((((a|!b))))))))", 10);
        faultIs(0, "(((((((!a|(b|!c)))))))", 13);
        faultIs(0, "(((((((!a|(b))))))))", -1);
        faultIs(0, "!(!(!(!(a|b&(c))))", 12);
    }

    /** A NAME a .. f. */
    private void namesOfSayings() {
        fine(0, "a", "b", "c", "d", "e", "f", "a|b|c|d|e|f");
        wrongAtLast(0, "g", "`", "A", "F", "a|g", "a&`", "(g", "!g");
    }

    /** As long as the TAPE: 200 bytes. */
    private void longSayings() {
        fine(0, Due.times("a&", 99) + "a ", Due.times(" ", 199) + "f", "a" + Due.times(" ", 199));
        tooEarly(0, Due.times("a&", 100), Due.times(" ", 200), Due.times(" ", 199) + "!");
        faultIs(0, Due.times("a&", 99) + "aa", 199);
        faultIs(0, Due.times("a&", 99) + "g ", 198);
    }

    /** FAULT likewise: the length, if it ends too early. CLAUSES, one at least. */
    private void textsEndTooEarly() {
        tooEarly(LAW, "", " ", "c", "c ", "c:", "c: ", "c:1;", "c:1; ", "c:1;d", "c:1;d:", "c:1+", "c:1-", "c:1*", "c:1/",
            "c:[", "c:[1", "c:[1+", "c:[[1]", "c:1=", "c:1<", "c:1>", "c:1=1", "c:1=1&", "c:1=1|", "c:1=1|1", "c:1=1?",
            "c:1=1?1+", "c:!", "c:(", "c:(1", "c:(1=", "c:(1=1", "c:(1=1)", "c:(1=1)?", "c:!1=1", "c:!1", "c:!(", "c:!(1=1)",
            "c:1=1&!", "c:1=1|(");
        tooEarly(GIANT, "", "s", "s:", "v:t;", "v:t=j", "v:[t", "v:!");
    }

    /** FAULT likewise: the first byte at which no LAW can go on. */
    private void textsCannotGoOn() {
        wrongAtLast(LAW, ":", ";", "1", "c;", "c1", "cc", "c::", "c:;", "c:)", "c:]", "c:?", "c:=", "c:+", "c:-", "c:*", "c:&",
            "c:1;;", "c:1:", "c:1c", "c:1;:", "c:1 d", "c:1&", "c:1|", "c:1!", "c:1(", "c:1)", "c:1[", "c:1]");
        wrongAtLast(GIANT, ":", "s;", "s::", "v:t;;", "v:tt", "v:t&");
    }

    /** A CLAUSE that goes on with ! or ( behind its : has a CONDITION; ? stands behind a CONDITION alone. */
    private void conditions() {
        fine(LAW, "c:1=1?1", "c:1<1?1", "c:1>1?1", "c:!1=1?1", "c:(1=1)?1", "c:1=1&1=1|1=1?1", "c:1=1|(1=1|!1=1)&!(1<2)?1",
            "c:[1]=[1]?[1]", "c:1+1*1=1-1/1?1", "c:((1=1))?1", "c:!!(!1=1)?1");
        wrongAtLast(LAW, "c:1?", "c:1+1?", "c:[1]?", "c:(1)", "c:(1?", "c:(1;", "c:!1?", "c:!1;", "c:!1)", "c:(1=1);",
            "c:!1=1;", "c:1=1;", "c:1=1=", "c:1=1<", "c:1==", "c:1<=", "c:1=?", "c:1=1)", "c:1=1]", "c:1=!", "c:1=(", "c:1=1!",
            "c:1=1(", "c:1=1&&", "c:1=1||", "c:1=1&|", "c:1=1&?", "c:1=1|?", "c:1=1|1?", "c:1=1|1&", "c:(1=1)+", "c:(1=1)=",
            "c:(1=1))", "c:(1=1)(", "c:()", "c:!)", "c:(1=1?", "c:(1=1;", "c:1=1?1?", "c:1=1?1=", "c:1=1?1&", "c:1=1?(",
            "c:1=1?!", "c:1=1??", "c:1=1?;");
    }

    /** SUM: TERMS with + or -; TERM: ATOMS with * or /; ATOM: a number, a letter, [ SUM ]. */
    private void sums() {
        fine(LAW, "c:1", "c:1+1-1", "c:1*1/1", "c:[1+1]*[1-1]", "c:[[1]]", "c:n*p+k-i/2", "c:1=1?[n]");
        wrongAtLast(LAW, "c:1++", "c:1+-", "c:1--", "c:1**", "c:1*-", "c:1//", "c:1+*", "c:1+)", "c:1+(", "c:1+!", "c:1*(",
            "c:[]", "c:[+", "c:[(", "c:[!", "c:[1=", "c:[1<", "c:[1&", "c:[1?", "c:[1;", "c:[1)", "c:[1]]", "c:[1]1", "c:[1][",
            "c:[1]n", "c:1n", "c:n1", "c:nn", "c:1%", "c:1.", "c:1^");
    }

    /** A LABEL (of a LAW c d e, of a GIANT s v). */
    private void labels() {
        for (int sign = 1; sign < 256; sign++) {
            boolean law = sign >= 'c' && sign <= 'e';
            boolean giant = sign == 's' || sign == 'v';
            boolean blank = sign == ' ';
            faultIs(LAW, (char) sign + ":1", law ? -1 : blank ? 1 : 0);
            faultIs(GIANT, (char) sign + ":1", giant ? -1 : blank ? 1 : 0);
            faultIs(LAW, "c:1;" + (char) sign + ":1", law ? -1 : blank ? 5 : 4);
            faultIs(GIANT, "s:1;" + (char) sign + ":1", giant ? -1 : blank ? 5 : 4);
        }
    }

    /** A letter (of a LAW i n k p, of a GIANT t c w l i j n p y). */
    private void letters() {
        for (int sign = 1; sign < 256; sign++) {
            boolean number = sign >= '0' && sign <= '9';
            boolean open = sign == ' ' || sign == '[' || sign == '(' || sign == '!';
            boolean law = number || "inkp".indexOf(sign) >= 0;
            boolean giant = number || "tcwlijnpy".indexOf(sign) >= 0;
            faultIs(LAW, "e:" + (char) sign, law ? -1 : open ? 3 : 2);
            faultIs(GIANT, "v:" + (char) sign, giant ? -1 : open ? 3 : 2);
            boolean inSum = sign == ' ' || sign == '[';
            faultIs(LAW, "e:1+" + (char) sign, law ? -1 : inSum ? 5 : 4);
            faultIs(GIANT, "v:1*" + (char) sign, giant ? -1 : inSum ? 5 : 4);
        }
    }

    /** A number (1 to 4 digits); a fifth digit is a FAULT. */
    private void digits() {
        fine(LAW, "c:0", "c:9", "c:12", "c:123", "c:0000", "c:9999", "c:1=9999?1", "c:9999=9999?9999", "c:[9999]+9999*9999");
        faultIs(LAW, "c:10000", 6);
        faultIs(LAW, "c:00000", 6);
        faultIs(LAW, "c:00001", 6);
        faultIs(LAW, "c:999999", 6);
        faultIs(LAW, "c:1+12345", 8);
        faultIs(LAW, "c:[12345]", 7);
        faultIs(LAW, "c:1=12345?1", 8);
        faultIs(LAW, "c:12345=1?1", 6);
        faultIs(LAW, "c:1=1?12345", 10);
        faultIs(LAW, "c:1;d:12345", 10);
        faultIs(GIANT, "v:12345", 6);
        faultIs(LAW, "c:1234 5", 7);
        faultIs(LAW, "c:1 2", 4);
        faultIs(LAW, "c:12 34", 5);
    }

    /** Blanks likewise: between all, not within a number. */
    private void blanksOfTexts() {
        fine(LAW, " c : 1 ", "c :1;d: 2", " c : ( 1 = 2 | ! 3 < 4 ) & [ 1 ] > 2 ? [ 3 + 4 ] * 5 ; d : p ", "c:  1  +  n");
        fine(GIANT, " s : c ; v : j = 0 ? t ; v : w ");
        for (int sign = 1; sign < 256; sign++) {
            boolean more = "+-*/=<>;".indexOf(sign) >= 0;
            boolean number = sign >= '0' && sign <= '9';
            faultIs(LAW, "c:1" + (char) sign, sign == ' ' || number ? -1 : more ? 4 : 3);
            faultIs(LAW, "c" + (char) sign + ":1", sign == ' ' ? -1 : sign == ':' ? 2 : 1);
        }
    }

    /** At most six ( [ and ! within one another; a seventh of these is a FAULT. */
    private void sixOfTexts() {
        for (int squares = 0; squares <= 7; squares++) {
            for (int signs = 0; signs < 1 << 7 - squares; signs++) {
                sevenMarks(squares, 7 - squares, signs);
            }
        }
        fine(LAW, "c:[[[[[[1]]]]]]+[[[[[[1]]]]]]", "c:[[[[[[1]]]]]];d:[[[[[[1]]]]]]", "c:!!!!!!1=1&!!!!!!1=1?[[[[[[1]]]]]]",
            "c:[[[[[[1]]]]]]=[[[[[[1]]]]]]?1", "c:((((((1=1))))))|((((((1=1))))))?1", "c:(!(!([1]=[1]|1=[1])))?1");
        faultIs(LAW, "c:[[[[[[1]]]]]]+[[[[[[[1]]]]]]]", 22);
        faultIs(LAW, "c:[[[[[[1]]]]]];d:[[[[[[[1]]]]]]]", 24);
        faultIs(LAW, "c:1=1?[[[[[[[1]]]]]]]", 12);
        faultIs(LAW, "c:1=[[[[[[[1]]]]]]]?1", 10);
        faultIs(LAW, "c:!!!!!!1=[1]?1", 10);
        faultIs(LAW, "c:!!!!!1=[1]?1", -1);
        faultIs(LAW, "c:((((((1=1|[1]=1))))))?1", 12);
        faultIs(LAW, "c:((((((1=1|!1=1))))))?1", 12);
        faultIs(LAW, "c:((((((1=1|(1=1)))))))?1", 12);
        faultIs(LAW, "c: [ [ [ [ [ [ [", 15);
        faultIs(GIANT, "v:[[[[[[[t]]]]]]]", 8);
        faultIs(GIANT, "v:[[[[[[t]]]]]]", -1);
    }

    /** So many of ( and ! (as bits) with so many [ in them, in all seven, and less the last of them six. */
    private void sevenMarks(int squares, int others, int signs) {
        StringBuilder open = new StringBuilder();
        StringBuilder close = new StringBuilder();
        for (int i = 0; i < others; i++) {
            boolean round = (signs >> i & 1) == 1;
            open.append(round ? '(' : '!');
            close.append(round ? ")" : "");
        }
        String end = others > 0 ? "=1" + close + "?1" : "";
        faultIs(LAW, "c:" + open + Due.times("[", squares) + "1" + Due.times("]", squares) + end, 8);
        if (squares > 0) {
            faultIs(LAW, "c:" + open + Due.times("[", squares - 1) + "1" + Due.times("]", squares - 1) + end, -1);
        }
    }

    /** As long as the TAPE: 200 bytes. */
    private void longTexts() {
        fine(LAW, Due.times("c:1;", 49) + "c:1 ", "c:" + Due.times("1+", 98) + "10", Due.times(" ", 197) + "d:p");
        fine(GIANT, Due.times("v:t;", 49) + "v:10", "s:" + Due.times("9999*", 39) + "999");
        tooEarly(LAW, Due.times("c:1;", 50), "c:" + Due.times("1+", 99), Due.times(" ", 200));
        faultIs(LAW, Due.times("c:1;", 49) + "c:1)", 199);
        faultIs(LAW, Due.times("c:1;", 49) + "s:1 ", 196);
    }
}
