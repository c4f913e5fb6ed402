/** Terms I, TEXTS and TOKENS and the forms of the grammar: both sides of each bound that the document names. */
public final class TokenEdgeTest {
    private static final int NONE = TalkHouse.NONE;
    private static final String SHORTEST = "def f()c:end=close c";
    private static final String[] WORDS =
        "type def end put get send take pick case new same go if else say close wait".split(" ");
    /** A NAME stands at each %; a text that can be taken with any NAME but e, f, g and c. */
    private static final String[] NAMED = {
        "type %=end;def f()c:%=close c",
        "def %()c:end=close c def f()c:end=go %()",
        "def %()c:end=close c def f()c:end=new g=%();wait g;close c",
        "def f(%)c:end=say %;close c def g()c:end=close c",
        "def f(%:end)c:end=wait %;close c def g()c:end=close c",
        "def f(g,%:end)c:end=wait %;close c def g()c:end=close c",
        "def f(%:end)c:end=same c % def g()c:end=close c",
        "def f(%:end)c:>end.end=send c %;close c def g()c:end=close c",
        "def e(c:end)g:end=wait c;close g def f(%:end)c:end=go e(%) def g()c:end=close c",
        "def f(%:!end)c:end=get % g;wait %;close c def g()c:end=close c",
        "def f(%:?end)c:end=put % 1;wait %;close c def g()c:end=close c",
        "def f(%:&{g:end})c:end=pick % g;wait %;close c def g()c:end=close c",
        "def f(%:+{g:end})c:end=case %{g:wait %;close c} def g()c:end=close c",
        "def f()%:end=close %",
        "def f()c:+{%:end}=pick c %;close c",
        "def f()c:&{g:end,%:end}=case c{%:close c|g:close c}",
        "def f()c:?end=get c %;say %;close c",
        "def f()c:<end.end=take c %;wait %;close c",
        "def e()c:end=close c def f()c:end=new %=e();wait %;close c",
        "def f(%)c:!end=if %{put c %;close c}else{put c -%;close c} def g()c:end=close c"};
    /** A text with every form of the grammar, and a blank between every two TOKENS. */
    private static final String WHOLE = "type a = end ; type t = > ! a . & { l : ! a , r : + { x : a , y : ? a } } ; "
        + "def n ( k ) c : ! a = put c k * 2 ; close c "
        + "def s ( k , d : ! a ) c : t = send c d ; case c { l : put c k ; close c | r : if k < 1 { pick c x ; "
        + "close c } else { pick c y ; get c v ; say v ; close c } } "
        + "def u ( d : < a . a ) c : < a . a = take c e ; send d e ; same c d "
        + "def w ( ) c : ! a = go n ( 4 ) "
        + "def z ( ) c : a = new b = n ( - ( 1 + 2 ) == 3 ) ; new q = s ( 0 - 1 , b ) ; take q h ; get h v ; wait h ; "
        + "pick q r ; case q { x : wait q ; close c | y : put q v ; wait q ; close c }";

    public static void main(String[] args) {
        bytes();
        names();
        words();
        numbers();
        numbersOfManyDigits();
        blanks();
        signs();
        grammarNeedsOne();
        grammarTakesNoMore();
        endOfText();
        Desk.finish();
    }

    private static void bytes() {
        Desk.sentence("TEXTS of at most 1000 bytes");
        Desk.taken(SHORTEST);
        Desk.taken(Desk.times(979, " ") + SHORTEST + "\n");
        Desk.taken(Desk.times(980, " ") + SHORTEST);
        Desk.refused(1, "def f()c:end=close c" + Desk.times(979, "\n") + "~)");
        Desk.refused(2, Desk.times(980, "\n") + "def f()c:end=close ~d");
        Desk.refused(1, Desk.times(997, " ") + "def~");
        TalkHouse x = new TalkHouse();
        Desk.feed(x, (Desk.times(980, " ") + SHORTEST).getBytes());
        Desk.due("byte 1001 does not come", x.feed(0x3b3b3b3b, 0, 0, 0, 0), NONE);
        Desk.due("and so the text is taken", x.load(), 1);
    }

    private static void names() {
        Desk.sentence("NAMES (1 to 6 small letters; longer ones are none)");
        String letters = "zyxwvutsrqponmlkjihgfedcba";
        String many = letters + letters + letters;
        for (String text : NAMED) {
            for (int length = 1; length <= 6; length++) {
                Desk.taken(text.replace("%", many.substring(0, length)));
            }
            for (int length : new int[] {7, 8, 12, 13, 14, 32, 33, 64, 78}) {
                int place = text.indexOf('%');
                String marked = text.substring(0, place) + "~" + text.substring(place);
                Desk.refused(1, marked.replace("%", many.substring(0, length)));
            }
        }
        for (int k = 0; k < 26; k++) {
            Desk.taken("def f()" + letters.charAt(k) + ":end=close " + letters.charAt(k));
        }
        // it is not the NAME that its first or its last six letters are
        Desk.refused(1, "def f()abcdef:end=close ~abcdefa");
        Desk.refused(1, "def f()abcdef:end=close ~aabcdef");
        Desk.refused(1, "type abcdef=end;type b=~abcdefabcdef;" + SHORTEST);
        Desk.refused(1, "def abcdef()c:end=close c def f()c:end=go ~abcdefg()");
        Desk.refused(1, "def f(abcdef)c:end=say ~abcdefg;close c");
        // all letters count: two NAMES are one if they are alike in all of them
        Desk.taken("type aaaaaa=end;type aaaaab=end;type aaaaa=end;type baaaaa=end;" + SHORTEST);
        Desk.refused(2, "def f()aaaaaa:end=close ~aaaaaz");
        Desk.refused(2, "def f()aaaaaa:end=close ~aaaaa");
        Desk.refused(2, "def f()aaaaa:end=close ~aaaaaa");
        Desk.refused(2, "def f()aaaaaa:end=close ~zaaaaa");
    }

    private static void words() {
        Desk.sentence("NAMES, none of the WORDS");
        for (String word : WORDS) {
            for (String text : NAMED) {
                int place = text.indexOf('%');
                Desk.refused(1, (text.substring(0, place) + "~" + text.substring(place)).replace("%", word));
            }
            String longer = word + "s";
            String shorter = word.substring(0, word.length() - 1);
            Desk.taken("def f()" + longer + ":end=close " + longer);
            Desk.taken("def f()" + shorter + ":end=close " + shorter);
            Desk.taken("def f()x" + word + ":end=close x" + word);
        }
        Desk.refused(1, "~defs f()c:end=close c");
        Desk.refused(1, "~types a=end;" + SHORTEST);
        Desk.refused(2, "def f()c:~ends=close c");
        Desk.refused(1, "def f()c:end=~closes c");
        Desk.refused(1, "def f()c:end=if 1{close c}~elses{close c}");
    }

    private static void numbers() {
        Desk.sentence("NUMBERS (1 to 4 digits, no letter behind)");
        String[] goods = {"0", "1", "9", "00", "09", "10", "99", "000", "100", "999", "0000", "0007", "1000", "9999"};
        int[] worth = {0, 1, 9, 0, 9, 10, 99, 0, 100, 999, 0, 7, 1000, 9999};
        for (int i = 0; i < goods.length; i++) {
            TalkHouse x = Desk.taken("def f()c:end=say " + goods[i] + ";close c");
            x.step(0);
            Desk.due("worth of " + goods[i], x.said(0, 0), worth[i]);
        }
        String[] places = {"def f()c:end=say %;close c", "def f()c:!end=put c %;close c",
            "def f()c:end=if %{close c}else{close c}", "def e(x)c:end=close c def f()c:end=go e(%)",
            "def e(x)c:end=close c def f()c:end=new d=e(%);wait d;close c", "def f()c:end=say 1+2*-(%);close c",
            "def f()c:end=say 1<%;close c"};
        for (String text : places) {
            Desk.taken(text.replace("%", "1"));
            Desk.taken(text.replace("%", "9999"));
            for (String bad : new String[] {"10000", "00000", "99999", "9999a", "9999Z", "1z", "0x", "1close"}) {
                Desk.refused(1, text.replace("%", "~" + bad));
            }
        }
        // what is behind a blank or a sign is not right behind
        Desk.refused(1, "def f()c:end=say 1 ~a;close c");
        Desk.refused(1, "def f()c:end=say 1\n~a;close c");
        Desk.refused(1, "def f()c:end=say 9999 ~9;close c");
        Desk.taken("def e(x)c:end=close c def f()c:end=if 1{go e(1)}else{go e(1)}");
        Desk.taken("def f(a)c:end=say 1*a;say 1+a;say 1-a;say 1<a;say 1==a;close c def g()c:end=close c");
    }

    /** As ints, some of these would wrap to a small number. */
    private static void numbersOfManyDigits() {
        String[] many = {"4294967296", "4294967297", "04294967296", "18446744073709551617", "00000000000000000000001",
            Desk.times(200, "0"), Desk.times(900, "9")};
        for (String digits : many) {
            Desk.refused(1, "def f()c:end=say ~" + digits + ";close c");
        }
    }

    private static void blanks() {
        Desk.sentence("Blanks (32, 10) between");
        String[] blanks = {" ", "\n", "  ", "\n\n", " \n ", Desk.times(300, " ")};
        String[] tokens = "def|f|(|)|c|:|end|=|close|c".split("\\|");
        for (String blank : blanks) {
            StringBuilder text = new StringBuilder(blank);
            for (String token : tokens) {
                text.append(token).append(blank.length() > 9 ? " " : blank);
            }
            Desk.taken(text + (blank.length() > 9 ? blank : ""));
        }
        for (char blank : new char[] {' ', '\n'}) {
            Desk.refused(1, "~d" + blank + "ef f()c:end=close c");
            Desk.refused(2, "def f()c:~e" + blank + "nd=close c");
            Desk.refused(1, "def f()c:end=~clos" + blank + "e c");
            Desk.refused(1, "def f()a" + blank + "~b:end=close ab");
            Desk.refused(1, "def f()c:end=say 1" + blank + "~2;close c");
            Desk.refused(1, "def f()c:end=say 1~=" + blank + "=2;close c");
        }
        // no other byte is one
        for (int sign = 0; sign < 256; sign++) {
            boolean blank = sign == 32 || sign == 10;
            String between = "def f()c:end=" + (blank ? "" : "~") + (char) sign + "close c";
            String behind = "def f()c:end=close c" + (blank ? "" : "~") + (char) sign;
            String ahead = (blank ? "" : "~") + (char) sign + SHORTEST;
            if (blank) {
                Desk.taken(between);
                Desk.taken(behind);
                Desk.taken(ahead);
            } else {
                // "==" is one sign, and a letter behind makes it another NAME
                Desk.refused(1, sign == '=' ? "def f()c:end~==close c" : between);
                if (sign >= 'a' && sign <= 'z') {
                    Desk.refused(2, "def f()c:end=close ~c" + (char) sign);
                } else {
                    Desk.refused(1, behind);
                }
                Desk.refused(1, ahead);
            }
        }
    }

    private static void signs() {
        Desk.sentence("SIGNS ( ) { } , ; : . = == ! ? > < + - * & |");
        Desk.taken(WHOLE);
        String[] all = "( ) { } , ; : . = == ! ? > < + - * & |".split(" ");
        for (String here : all) {
            int place = WHOLE.indexOf(" " + here + " ") + 1;
            String start = WHOLE.substring(0, place);
            String rest = WHOLE.substring(place + here.length());
            Desk.taken(start + here + rest);
            // what is no SIGN can't stand in its place
            for (String bad : new String[] {"#", "/", "[", "]", "@", "_", "^", "\"", "'", "%", "$", "\\"}) {
                Desk.refused(1, start + "~" + bad + rest);
            }
        }
        Desk.taken("def f()c:end=say 1==1;close c");
        Desk.refused(1, "def f()c:end=say 1==~=1;close c");
        Desk.refused(1, "def f()c:end~==close c");
        Desk.refused(1, "type a~==end;" + SHORTEST);
    }

    private static void grammarNeedsOne() {
        Desk.sentence("text = {type NAME = T ;} DEF {DEF}");
        Desk.refused(1, "type a=end;~");
        Desk.refused(1, "~");
        Desk.due("one DEF, no type", Desk.taken(SHORTEST).look(0), 0);
        Desk.due("one DEF, one type", Desk.taken("type a=end;" + SHORTEST).look(0), 1);
        Desk.refused(1, SHORTEST + " ~type a=end;");
        Desk.sentence("CHOICE = '{' NAME : T {, NAME : T} '}'");
        Desk.refused(1, "def f()c:+{~}=close c");
        Desk.refused(1, "def f()c:&{~}=case c{}");
        Desk.taken("def f()c:+{a:end}=pick c a;close c");
        Desk.refused(1, "def f()c:+{a:end,~}=close c");
        Desk.refused(1, "def f()c:+{~,a:end}=close c");
        Desk.sentence("DEF = def NAME ( [PARAM {, PARAM}] ) NAME : T = P");
        Desk.refused(1, "def f(a,~)c:end=close c");
        Desk.refused(1, "def f(~,a)c:end=close c");
        Desk.refused(1, "def f(a~;b)c:end=close c");
        Desk.refused(1, "def f()c:end=~");
        Desk.refused(1, "def f()c:end=~;close c");
        Desk.sentence("P: put NAME E ; P, and so on: a P behind each ;");
        String[] firsts = {"def f()c:!end=put c 1;", "def f()c:?end=get c x;", "def f()c:+{a:end}=pick c a;",
            "def f(d:end)c:>end.end=send c d;", "def f()c:<end.end=take c d;", "def f(d:end)c:end=wait d;",
            "def e()c:end=close c def f()c:end=new d=e();", "def f()c:end=say 1;"};
        for (String first : firsts) {
            Desk.refused(1, first + "~");
            Desk.refused(1, first + "~;");
            Desk.refused(1, first + "~else");
            Desk.refused(1, first.substring(0, first.length() - 1) + "~");
            Desk.refused(1, first.substring(0, first.length() - 1) + " ~close c");
        }
    }

    private static void grammarTakesNoMore() {
        Desk.sentence("P: nothing behind close NAME, go NAME ARGS, same NAME NAME, case .. '}', if .. '}'");
        String[] lasts = {"def f()c:end=close c", "def e()c:end=close c def f()c:end=go e()",
            "def f(d:end)c:end=same c d", "def f()c:&{a:end}=case c{a:close c}",
            "def f()c:end=if 1{close c}else{close c}"};
        for (String last : lasts) {
            Desk.taken(last + " def z()c:end=close c");
            for (String more : new String[] {";", ";close c", "}", ")", ",", "|", "1", "close c", "else"}) {
                Desk.refused(1, last + " ~" + more);
            }
        }
        Desk.sentence("E = SUM [(< | ==) SUM]");
        for (String one : new String[] {"<", "=="}) {
            Desk.taken("def f()c:end=say 1" + one + "2;close c");
            Desk.taken("def f()c:end=say (1" + one + "2)" + one + "(3" + one + "4);close c");
            for (String two : new String[] {"<", "=="}) {
                Desk.refused(1, "def f()c:end=say 1" + one + "2~" + two + "3;close c");
            }
        }
        Desk.sentence("SUM = PRODUCT {(+ | -) PRODUCT}.  PRODUCT = U {* U}.  U = NUMBER | NAME | - U | ( E )");
        for (String sign : new String[] {"+", "-", "*", "<", "=="}) {
            Desk.refused(1, "def f()c:end=say 1" + sign + "~;close c");
            Desk.refused(1, "def f()c:end=say (1" + sign + "~);close c");
            boolean minus = sign.equals("-");
            Desk.refused(1, "def f()c:end=say " + (minus ? "-~" : "~" + sign) + ";close c");
            if (!minus) {
                Desk.refused(1, "def f()c:end=say 1*~" + sign + "1;close c");
            }
        }
        Desk.taken("def f()c:end=say 1*-1;say 1--1;say 1+-1;say 1<-1;say 1==-1;say --1;close c");
        Desk.refused(1, "def f()c:end=say (~);close c");
        Desk.refused(1, "def f()c:end=say 1~);close c");
        Desk.refused(1, "def f()c:end=say 1~!;close c");
        Desk.refused(1, "def f()c:end=say 1~>2;close c");
    }

    /** The text with every form, cut behind each of its TOKENS. */
    private static void endOfText() {
        Desk.sentence("1 what can't stand there (the end: its place is the text's length)");
        Desk.taken(WHOLE);
        int cuts = 0;
        for (int behind = WHOLE.indexOf(' '); behind >= 0; behind = WHOLE.indexOf(' ', behind + 1)) {
            if (WHOLE.startsWith(" def ", behind) && behind > WHOLE.indexOf("def ")) {
                continue;
            }
            String start = WHOLE.substring(0, behind);
            Desk.refused(1, start + "~");
            Desk.refused(1, start + " \n ~");
            cuts++;
        }
        Desk.due("cuts", cuts > 200, true);
    }
}
