/** Terms I, FAULTS: both sides of each bound, and which fault is told where two stand at one place. */
public final class FaultEdgeTest {
    private static final String LAST = "def z()c:end=close c";
    private static final String ENDS = "def e()c:end=close c ";
    /** T with so many parts: a 1, b 3, d 7, e 15, g 31, h 63. */
    private static final String SIZES = "type a=end;type b=>a.a;type d=>b.b;type e=<d.d;type g=<e.e;type h=>g.g;";
    /** n has one CHOICE, o two, and so on up to u with eight. */
    private static final String NESTS = "type n=&{a:end};type o=&{a:n};type p=&{a:o};type q=&{a:p};type r=&{a:q};"
        + "type s=&{a:r};type t=&{a:s};type u=&{a:t};";

    public static void main(String[] args) {
        thirteenthOpen();
        closedTalks();
        parts();
        partsOfNames();
        partsOfLaterTexts();
        thirteenthOfTexts();
        fifthParam();
        seventhName();
        ninthOpen();
        closedAgain();
        notOpen();
        eightyFirst();
        wordsOfAllPs();
        argsCounts();
        argsOfChannels();
        lastParam();
        firstByPlace();
        leastOfOnePlace();
        askedLast();
        there();
        casesNames();
        channelsLeft();
        Desk.finish();
    }

    private static String deep(int n) {
        return "!?!?!?!?!?!?!?!?".substring(0, n);
    }

    private static void thirteenthOpen() {
        Desk.sentence("in a T the 13th ! ? > < + & that is open");
        String[] talks = {"!end", "?end", ">end.end", "<end.end", "+{a:end}", "&{a:end}"};
        String[] places = {"type a=%;" + LAST, "def f(d:%)c:%=same c d " + LAST, "type a=>end.end;def f(x,y,d:%)c:end=",
            "def f()c:%="};
        for (String talk : talks) {
            Desk.taken(places[0].replace("%", deep(11) + talk));
            Desk.taken(places[1].replace("%", deep(11) + talk));
            for (int i = 0; i < places.length; i++) {
                int place = places[i].indexOf('%');
                String marked = places[i].substring(0, place) + deep(12) + "~" + talk + places[i].substring(place + 1);
                Desk.refused(5, marked.replace("%", "end"));
            }
        }
        for (String each : new String[] {"!", "?", ">end.", "<end.", "+{b:end,a:", "&{a:"}) {
            String closing = each.contains("{") ? "}" : "";
            Desk.taken("type a=" + Desk.times(12, each) + "end" + Desk.times(12, closing) + ";" + LAST);
            Desk.refused(5, "type a=" + Desk.times(12, each) + "~" + each + "end" + Desk.times(13, closing) + ";" + LAST);
        }
        // within the left T of > and < all of it is open
        Desk.taken("type a=" + Desk.times(12, ">") + "end" + Desk.times(12, ".end") + ";" + LAST);
        Desk.refused(5, "type a=" + Desk.times(12, "<") + "~<end" + Desk.times(13, ".end") + ";" + LAST);
    }

    private static void closedTalks() {
        Desk.sentence("open (up to the end of its T)");
        Desk.taken("type a=>" + deep(11) + "end." + deep(11) + "end;" + LAST);
        Desk.refused(5, "type a=>" + deep(11) + "end." + deep(11) + "~!end;" + LAST);
        Desk.taken("type a=+{a:" + deep(11) + "end,b:" + deep(11) + "end,d:" + deep(11) + "end};" + LAST);
        Desk.refused(5, "type a=+{a:" + deep(11) + "end,b:" + deep(11) + "~?end};" + LAST);
        Desk.taken("type a=>+{a:&{b:" + deep(9) + "end}}." + deep(11) + "end;" + LAST);
        Desk.refused(5, "type a=>+{a:&{b:" + deep(9) + "~?end}}." + deep(11) + "end;" + LAST);
        // a T of its own begins with none open
        Desk.taken("type a=" + deep(12) + "end;type b=" + deep(12) + "end;def f(d:" + deep(12) + "end)c:" + deep(12)
            + "end=same c d " + LAST);
        // what a NAME holds is not open in this T
        Desk.taken("type a=" + deep(12) + "end;type b=" + deep(12) + "a;" + LAST);
    }

    private static void parts() {
        Desk.sentence("in a T the 201st part (! ? > < + & and end), at it");
        // > h . > h . > h . T: 3 + 3 * 63 = 192, and T has 8
        String most = ">h.>h.>h.";
        Desk.taken(SIZES + "type k=" + most + "!d;" + LAST);
        String[] eight = {"!!!!!!!", "?!?!?!?", ">end.>end.!!!", "+{k:>end.>end.!", "<<end.end.<end.!"};
        for (String start : eight) {
            String closing = start.contains("{") ? "}" : "";
            Desk.taken(SIZES + "type k=" + most + start + "end" + closing + ";" + LAST);
            for (String one : new String[] {"!", "?", ">", "<", "+{a:", "&{a:"}) {
                Desk.refused(start.contains("{") ? 1 : 5, SIZES + "type k=" + most + start + one + "~"
                    + (start.contains("{") ? "" : "end"));
            }
        }
        for (String one : new String[] {"!", "?", ">", "<", "+{a:", "&{a:", "end", "a"}) {
            Desk.refused(5, SIZES + "type k=>h.>h.>h.>end.>end.>!!end.~" + one);
            Desk.refused(5, SIZES + "def f(x:>h.>h.>h.>end.>end.>!!end.~" + one);
            Desk.refused(5, SIZES + "def f()c:>h.>h.>h.>end.>end.>!!end.~" + one);
        }
        Desk.sentence("in a T: each T has parts of its own");
        String full = "def f(x:>h.>h.>h.!d,y:>h.>h.>h.!d)c:>h.>h.>h.!d=";
        Desk.refused(1, SIZES + full + "~");
        Desk.refused(5, SIZES + full.replace("y:>h.>h.>h.!d", "y:>h.>h.>h.!!~d"));
    }

    private static void partsOfNames() {
        Desk.sentence("in a T the 201st part: a NAME counts as all parts of its T");
        String most = ">h.>h.>h.";
        // T has 8: ! d, with d 7; or > b . > b . ... beyond it
        Desk.taken(SIZES + "type k=" + most + ">b.b;" + LAST);
        Desk.taken(SIZES + "type k=" + most + ">b.!b;" + LAST);
        Desk.refused(5, SIZES + "type k=" + most + ">b.!!~b;" + LAST);
        Desk.refused(5, SIZES + "type k=" + most + "!!~d;" + LAST);
        Desk.refused(5, SIZES + "type k=" + most + "~e;" + LAST);
        Desk.refused(5, SIZES + "type k=" + most + ">d.~a;" + LAST);
        Desk.refused(5, SIZES + "type k=" + most + ">d.~end;" + LAST);
        // k has 200, and no other part can stand with it
        String whole = SIZES + "type k=" + most + "!d;";
        Desk.taken(whole + "type l=k;def f(x:k)c:l=same c x " + LAST);
        Desk.refused(5, whole + "type l=!~k;" + LAST);
        Desk.refused(5, whole + "type l=>~k.end;" + LAST);
        Desk.refused(5, whole + "type l=+{a:~k};" + LAST);
        // CHOICES: l 1 + 1 + 3 = 5, m 1 + 5 + 5 + 7 = 18; > h . > h . > g . has 160
        String choices = SIZES + "type l=+{x:end,y:b};type m=&{x:l,y:l,z:d};";
        Desk.taken(choices + "type k=" + most + "!!!l;" + LAST);
        Desk.refused(5, choices + "type k=" + most + "!!!!~l;" + LAST);
        Desk.taken(choices + "type k=>h.>h.>g.>m.!!!m;" + LAST);
        Desk.refused(5, choices + "type k=>h.>h.>g.>m.!!!!~m;" + LAST);
        Desk.taken(choices + "type k=>h.>h.>g.+{x:m,y:m,z:b};" + LAST);
        Desk.refused(5, choices + "type k=>h.>h.>g.+{x:m,y:m,z:!~b};" + LAST);
        Desk.refused(5, choices + "type k=>h.>h.>g.+{x:m,y:m,z:b,w:~end};" + LAST);
    }

    /** The parts of a text's Ts have nothing to do with those of the texts ahead of it. */
    private static void partsOfLaterTexts() {
        Desk.sentence("in a T the 201st part: in each text anew");
        String ahead = "type a=!!!!!!!!!!!!end;type b=+{x:a,y:!end};";
        String full = SIZES + "type k=>h.>h.>h.!d;" + LAST;
        String over = SIZES + "type k=>h.>h.>h.!!d;" + LAST;
        TalkHouse x = new TalkHouse();
        for (int i = 0; i < 4; i++) {
            Desk.due("load of others", Desk.load(x, ahead + LAST), 1);
            if (i % 2 == 0) {
                Desk.due("load of others", Desk.load(x, ahead + LAST), 1);
            }
            Desk.due("load of 200 parts", Desk.load(x, full), 1);
            Desk.due("load of 201 parts", Desk.load(x, over), TalkHouse.NONE);
            Desk.due("its fault", x.fault(0), 5);
            Desk.due("its place", x.fault(1), over.indexOf("!!d") + 2);
        }
    }

    private static String twelve(String each) {
        StringBuilder text = new StringBuilder();
        for (char k = 'a'; k <= 'l'; k++) {
            text.append(each.replace('%', k));
        }
        return text.toString();
    }

    private static void thirteenthOfTexts() {
        Desk.sentence("5 too much: the 13th type or DEF (each at its NAME)");
        String types = twelve("type %=end;");
        String defs = twelve("def %()c:end=close c ");
        Desk.due("12 types and 12 DEFS", Desk.taken(types + defs).look(0), 12);
        Desk.due("12 types and 12 DEFS", Desk.taken(types + defs).look(1), 12);
        Desk.due("load of 12", Desk.load(new TalkHouse(), defs), 12);
        Desk.due("11 types", Desk.taken(types.substring(11) + defs).look(0), 11);
        Desk.due("11 DEFS", Desk.taken(defs.substring(21)).look(1), 11);
        for (String behind : new String[] {"=end;" + LAST, "=x;", "=", "", "(", " type"}) {
            Desk.refused(5, types + "type ~m" + behind);
        }
        for (String behind : new String[] {"()c:end=close c", "(", "", ")", " def"}) {
            Desk.refused(5, defs + "def ~m" + behind);
        }
        Desk.refused(5, types + defs + "def ~m()c:end=close c");
    }

    private static void fifthParam() {
        Desk.sentence("5 too much: the 5th PARAM (at its NAME)");
        Desk.taken("def f(a,b,d,e)c:end=close c " + LAST);
        Desk.taken("def f(a:end,b:end,d:end,e:end)c:end=wait a;wait b;wait d;wait e;close c " + LAST);
        for (String fifth : new String[] {"g", "g:end", "g:x", "g,h", "g:", "g"}) {
            Desk.refused(5, "def f(a,b,d,e,~" + fifth + ")c:end=close c " + LAST);
            Desk.refused(5, "def f(a:end,b,d:end,e,~" + fifth + ")c:end=close c " + LAST);
        }
        Desk.taken("def f(a,b,d,e)c:end=close c def g(a,b,d,e)c:end=close c " + LAST);
    }

    private static void seventhName() {
        Desk.sentence("5 too much: the 7th NAME of a CHOICE (at its NAME)");
        for (String sign : new String[] {"+", "&"}) {
            String six = sign + "{a:end,b:end,d:end,e:end,g:end,h:end";
            Desk.taken("type t=" + six + "};" + LAST);
            Desk.refused(5, "type t=" + six + ",~i:end};" + LAST);
            Desk.refused(5, "type t=" + six + ",~i");
            Desk.refused(5, "def f(x:" + six + ",~i:end})c:end=");
            Desk.refused(5, "def f()c:" + six + ",~i:end}=");
            // each CHOICE has six of its own
            String within = sign + "{a:end,b:end,d:end,e:end,g:end,h:";
            String all = Desk.times(12, within);
            Desk.taken("type t=" + all + "end" + Desk.times(12, "}") + ";" + LAST);
            Desk.refused(5, "type t=" + all + "end,~i:end" + Desk.times(12, "}") + ";" + LAST);
            Desk.refused(5, "type t=" + all + "end" + Desk.times(11, "}") + ",~i:end};" + LAST);
            TalkHouse x = Desk.taken("type t=" + all + "end" + Desk.times(12, "}") + ";def f(x:t)c:t=same c x " + LAST);
            String begin = sign + " { a : end , b : end , d : end , e : end , g : end , h : ";
            Desk.due("12 with six each", Desk.printed(x, 0, 0), Desk.times(12, begin) + "end" + Desk.times(12, " }"));
            Desk.taken("type t=" + sign + "{a:" + six + "},b:" + six + "},d:end,e:end,g:end,h:" + six + "}};" + LAST);
        }
    }

    /** A P with so many c (a case) and i (an if) one within another, and the inmost P. */
    private static String nest(String kinds, String inmost) {
        if (kinds.isEmpty()) {
            return inmost;
        }
        String rest = kinds.substring(1);
        if (kinds.charAt(0) == 'c') {
            return "case c{a:" + nest(rest, inmost) + "}";
        }
        int cases = rest.replace("i", "").length();
        String other = Desk.times(cases, "case c{a:") + "close c" + Desk.times(cases, "}");
        return "if 1{" + nest(rest, inmost) + "}else{" + other + "}";
    }

    private static String nestedDef(String kinds, String inmost) {
        int cases = kinds.replace("i", "").length();
        return NESTS + "def f()c:" + (cases == 0 ? "end" : "" + (char) ('m' + cases)) + "=" + nest(kinds, inmost);
    }

    private static String nestSum(String kinds, String inmost) {
        if (kinds.isEmpty()) {
            return inmost;
        }
        String rest = nestSum(kinds.substring(1), inmost);
        return kinds.charAt(0) == '(' ? "(" + rest + ")" : "-" + rest;
    }

    private static String bits(int n, int length, String signs) {
        StringBuilder text = new StringBuilder();
        for (int i = 0; i < length; i++) {
            text.append(signs.charAt(n >> i & 1));
        }
        return text.toString();
    }

    private static void ninthOpen() {
        Desk.sentence("the 9th case, if, ( or - that is open (all together)");
        for (int n = 0; n < 256; n++) {
            String eight = bits(n, 8, "ci");
            Desk.taken(nestedDef(eight, "close c"));
            Desk.refused(5, nestedDef(eight, "~if 1{close c}else{close c}"));
            Desk.refused(5, nestedDef(eight, "~case c{a:close c}"));
            Desk.refused(5, nestedDef(eight, "say ~(1);close c"));
            Desk.refused(5, nestedDef(eight, "say 1+~-1;close c"));
            for (int outer = 0; outer < 8; outer++) {
                String outside = eight.substring(0, outer);
                String inside = bits(n, 8 - outer, "(-");
                Desk.taken(nestedDef(outside, "say " + nestSum(inside, "1") + ";close c"));
                Desk.refused(5, nestedDef(outside, "say " + nestSum(inside, "~(1)") + ";close c"));
                Desk.refused(5, nestedDef(outside, "say 1*" + nestSum(inside, "~-1") + ";close c"));
                Desk.refused(1, nestedDef(outside, "say " + nestSum(inside, "~)") + ";close c"));
            }
        }
        // with seven open around it, an if that is the 8th is open in its own E
        Desk.taken(nestedDef("cicicic", "if 1{close c}else{close c}"));
        Desk.refused(5, nestedDef("cicicic", "if ~(1){close c}else{close c}"));
        Desk.taken(nestedDef("cicici", "if (1){close c}else{close c}"));
        Desk.taken(nestedDef("cicicic", "say -1;say (1);close c"));
    }

    private static void closedAgain() {
        Desk.sentence("open (each up to its end)");
        String sums = "say ((((((((1))))))))-((((((((1))))))))*--------1+-------(1)<-(-(-(-1)));";
        Desk.taken("def f()c:end=" + sums + sums + "close c");
        Desk.taken("def f()c:end=say " + Desk.times(9, "-1-") + "-1;close c");
        Desk.taken("def f()c:end=say " + Desk.times(9, "(1)*") + "(1);close c");
        Desk.refused(5, "def f()c:end=say --------1+((((((((~(");
        // a - ends with its U, not with the E
        Desk.taken("def f()c:end=say -1-((((((((1))))))));close c");
        Desk.taken("def f()c:end=say -(1)-((((((((1))))))));close c");
        Desk.refused(5, "def f()c:end=say -(-(((((~(");
        // an alternative and a P of an if end with them
        String three = "type t=&{a:end,b:end,d:end};";
        String sevenIfs = Desk.times(7, "if 1{") + "close c" + Desk.times(7, "}else{close c}");
        Desk.taken(three + "def f()c:t=case c{a:" + sevenIfs + "|b:" + sevenIfs + "|d:close c}");
        Desk.refused(5, three + "def f()c:t=case c{a:" + sevenIfs + "|b:" + Desk.times(7, "if 1{") + "~if");
        Desk.taken("def f()c:end=if 1{" + sevenIfs + "}else{" + sevenIfs + "}");
        Desk.refused(5, "def f()c:end=if 1{" + sevenIfs + "}else{" + Desk.times(7, "if 1{") + "~if");
        // a DEF begins with none open
        String eightIfs = Desk.times(8, "if 1{") + "close c" + Desk.times(8, "}else{close c}");
        Desk.taken("def f()c:end=" + eightIfs + " def g()c:end=" + eightIfs);
    }

    private static void notOpen() {
        Desk.sentence("the 9th case, if, ( or - that is open: no other sign is");
        // a - between two PRODUCTS has no end of its own
        Desk.taken("def f()c:end=say " + Desk.times(100, "1-") + "1;close c");
        Desk.taken("def f()c:end=" + Desk.times(8, "if 1-1{") + "close c" + Desk.times(8, "}else{close c}"));
        // the ( of PARAMS and ARGS belongs to them
        Desk.taken("def e(x)c:end=close c def f()c:end=" + Desk.times(8, "if 1{") + "go e(1)" + Desk.times(8, "}else{close c}"));
        Desk.taken("def e(x)c:end=close c def f()c:end=go e(((((((((1)))))))))");
        Desk.refused(5, "def e(x)c:end=close c def f()c:end=go e(((((((((~(1");
        Desk.refused(5, "def e(x)c:end=close c def f()c:end=" + Desk.times(8, "if 1{") + "go e(~(1");
        Desk.refused(5, "def e(x)c:end=close c def f()c:end=" + Desk.times(8, "if 1{") + "new d=e(~-1");
    }

    private static void eightyFirst() {
        Desk.sentence("the 81st of close .. say of a DEF (at the WORD)");
        String types = "type t=+{a:end};type u=&{a:end};";
        String[] heads = {"end", "!end", "?end", ">end.end", "<end.end", "t", "u", "end", "end"};
        String[] lasts = {"close c", "put c 1;close c", "get c y;close c", "send c d;close c", "take c y;wait y;close c",
            "pick c a;close c", "case c{a:close c}", "go e()", "same c d"};
        int[] words = {1, 2, 2, 2, 3, 2, 2, 1, 1};
        for (int i = 0; i < heads.length; i++) {
            boolean has = lasts[i].startsWith("send") || lasts[i].startsWith("same");
            String head = types + ENDS + "def f(" + (has ? "d:end" : "") + ")c:" + heads[i] + "=";
            String good = head + Desk.times(80 - words[i], "say1;") + lasts[i] + " " + LAST;
            Desk.due("80 words, " + lasts[i], Desk.taken(good).def(1, 2), 80);
            String behind = lasts[i].contains(";") ? lasts[i].substring(0, lasts[i].lastIndexOf(';') + 1) : "";
            if (words[i] == 1) {
                Desk.refused(5, head + Desk.times(80, "say1;") + "~" + lasts[i] + " " + LAST);
            } else if (lasts[i].startsWith("case")) {
                Desk.refused(5, head + Desk.times(79, "say1;") + "case c{a:~close c}");
            } else {
                Desk.refused(5, head + Desk.times(81 - words[i], "say1;") + behind + "~close c " + LAST);
            }
            Desk.refused(5, head + Desk.times(80, "say1;") + "~" + lasts[i]);
        }
        Desk.refused(5, "def f()c:end=" + Desk.times(80, "say1;") + "~say1;close c");
        Desk.refused(5, ENDS + "def f()c:end=" + Desk.times(80, "say1;") + "~new d=e();wait d;close c");
        Desk.refused(5, ENDS + "def f()c:end=new d=e();" + Desk.times(79, "say1;") + "~wait d;close c");
        Desk.taken(ENDS + "def f()c:end=new d=e();" + Desk.times(77, "say1;") + "wait d;close c");
    }

    private static void wordsOfAllPs() {
        Desk.sentence("the 81st of close .. say of a DEF: an if is none of them, and all Ps count");
        String says = Desk.times(78, "say1;");
        Desk.taken("def f()c:end=" + says + "if 1{close c}else{close c}");
        Desk.refused(5, "def f()c:end=" + says + "if 1{say 1;close c}else{~close c}");
        Desk.refused(5, "def f()c:end=" + says + "if 1{close c}else{say 1;~close c}");
        Desk.taken("def f()c:end=" + Desk.times(72, "say1;") + Desk.times(7, "if 1{") + "close c" + Desk.times(7, "}else{close c}"));
        Desk.refused(5, "def f()c:end=" + Desk.times(73, "say1;") + Desk.times(7, "if 1{") + "close c"
            + Desk.times(6, "}else{close c}") + "}else{~close c}");
        String three = "type t=&{a:end,b:end,d:end};def f()c:t=";
        Desk.taken(three + Desk.times(76, "say1;") + "case c{a:close c|b:close c|d:close c}");
        Desk.refused(5, three + Desk.times(77, "say1;") + "case c{a:close c|b:close c|d:~close c}");
        Desk.sentence("the 81st of close .. say of a DEF: each DEF has 80 of its own");
        String most = Desk.times(79, "say1;") + "close c";
        TalkHouse x = Desk.taken("def f()c:end=" + most + " def g()c:end=" + most);
        Desk.due("words of f", x.def(0, 2), 80);
        Desk.due("words of g", x.def(1, 2), 80);
        Desk.refused(5, "def f()c:end=" + most + " def g()c:end=" + Desk.times(80, "say1;") + "~close c");
    }

    private static String list(int n, String one) {
        StringBuilder text = new StringBuilder();
        for (int i = 0; i < n; i++) {
            text.append(i == 0 ? "" : ",").append(one.replace('%', (char) ('p' + i)));
        }
        return text.toString();
    }

    private static void argsCounts() {
        Desk.sentence("6 (at the , or the ) ) ARGS that are too many, too few; of a DEF without PARAMS: what is no ) is 1");
        for (int params = 0; params <= 4; params++) {
            String ahead = "def e(" + list(params, "%") + ")c:end=close c def f()c:end=";
            for (int args = 0; args <= 6; args++) {
                String all = list(args, "7");
                // the ARGS that are there, up to the one that is too many
                String fitting = list(Math.min(params, args), "7");
                String more = all.substring(fitting.length());
                for (String word : new String[] {"go e(", "new d=e("}) {
                    String behind = word.startsWith("go") ? ")" : ");wait d;close c";
                    if (args == params) {
                        Desk.taken(ahead + word + all + behind);
                    } else {
                        Desk.refused(params == 0 ? 1 : 6, ahead + word + fitting + "~" + more + behind);
                    }
                }
            }
        }
        String two = "def e(x,y)c:end=close c def f()c:end=go e(";
        Desk.refused(6, two + "~)");
        Desk.refused(6, two + "1~)");
        Desk.refused(6, two + "(1)+2~)");
        Desk.refused(6, two + "1,2~,");
        Desk.refused(6, two + "1,2~,x");
        Desk.refused(1, two + "1~");
        Desk.refused(1, two + "1,2~");
        Desk.refused(1, two + "1~;2)");
        Desk.refused(1, two + "1,2~;");
        Desk.refused(1, two + "~,1,2)");
        Desk.refused(1, "def e()c:end=close c def f()c:end=go e(~");
        Desk.refused(1, "def e()c:end=close c def f()c:end=go e(~,)");
        Desk.refused(1, "def e()c:end=close c def f()c:end=go e(~c)");
        Desk.refused(1, "def e()c:end=close c def f()c:end=go e(~x)");
        Desk.refused(1, "def e()c:end=close c def f()c:end=go e(~((((((((((1");
    }

    private static void argsOfChannels() {
        Desk.sentence("6 (at the , or the ) ) ARGS that are too many, too few: CHANNELS");
        for (int params = 1; params <= 4; params++) {
            String waits = list(params, "wait %;").replace(",", "");
            String ahead = "def e(" + list(params, "%:end") + ")c:end=" + waits + "close c def f(" + list(4, "%:end") + ")c:end=";
            for (int args = 0; args <= 4; args++) {
                String fitting = list(Math.min(params, args), "%");
                String more = list(args, "%").substring(fitting.length());
                String rest = list(4, "wait %;").replace(",", "").substring(7 * args);
                String behind = rest.isEmpty() ? ";" : ";" + rest;
                if (args == params) {
                    Desk.taken(ahead + "new d=e(" + fitting + ")" + behind + "wait d;close c " + LAST);
                } else {
                    Desk.refused(6, ahead + "new d=e(" + fitting + "~" + more + ")" + behind + "wait d;close c " + LAST);
                    Desk.refused(6, ahead + "go e(" + fitting + "~" + more + ")" + LAST);
                }
            }
        }
        String one = "def e(x:end)c:end=wait x;close c def f(a:end,n)c:end=";
        Desk.refused(2, one + "go e(~n)");
        Desk.refused(2, one + "go e(~x)");
        Desk.refused(1, one + "go e(~1)");
        Desk.refused(1, one + "go e(~(a))");
        Desk.refused(1, one + "go e(~-a)");
        Desk.refused(1, one + "go e(a~+a)");
        Desk.refused(3, one + "go e(~c)");
        Desk.refused(2, one + "new b=e(~b);wait b;close c");
        Desk.refused(2, "def e(x)c:end=close c def f(a:end)c:end=new b=e(~b);wait b;close c");
        Desk.refused(2, "def e(x:end,y:end)c:end=wait x;wait y;close c def f(a:end)c:end=go e(a,~a)");
    }

    private static void lastParam() {
        Desk.sentence("7, if nothing else is wrong, the last DEF has a PARAM (at its first PARAM)");
        Desk.refused(7, "def f(~x)c:end=close c");
        Desk.refused(7, "def f( \n ~x)c:end=close c \n ");
        Desk.refused(7, "def f(~x,y,a,b)c:end=close c");
        Desk.refused(7, "def f(~x:end)c:end=wait x;close c");
        Desk.refused(7, "def f(~n,x:end)c:end=same c x");
        Desk.refused(7, LAST + " def f(~x)c:end=close c");
        Desk.refused(7, "def e(x)c:end=close c def f(~x)c:end=close c");
        Desk.taken("def e(x)c:end=close c " + LAST);
        Desk.taken("def e(x:end,y)c:end=same c x def f()c:end=close c");
        Desk.refused(1, "def f(x)c:end=close c~)");
        Desk.refused(1, "def f(x)c:end=close c ~type");
        Desk.refused(2, "def f(x)c:end=close ~x");
        Desk.refused(1, "def f(x)c:end=close c def~");
        Desk.refused(3, ENDS + "def f(x)c:!end=~go e()");
    }

    private static void firstByPlace() {
        Desk.sentence("FAULTS, the first one by its place");
        String[] wrong = {"def f(a,a)c:end=close c ", "def f()c:x=close c ", "def f()c:!end=close c ",
            "def f(d:end)c:end=close c ", "def f(a,b,d,e,g)c:end=close c ", "def f()c:end=close c; ", "def f()c:end=close x "};
        String[] marked = {"def f(a,~a)c:end=close c ", "def f()c:~x=close c ", "def f()c:!end=close ~c ",
            "def f(d:end)c:end=~close c ", "def f(a,b,d,e,~g)c:end=close c ", "def f()c:end=close c~; ", "def f()c:end=close ~x "};
        int[] faults = {2, 2, 3, 4, 5, 1, 2};
        for (int i = 0; i < wrong.length; i++) {
            for (String behind : wrong) {
                Desk.refused(faults[i], marked[i] + behind);
                Desk.refused(faults[i], marked[i] + "# 12345 abcdefg " + behind);
            }
        }
        // a byte that is no TOKEN counts when the reading has come to it
        Desk.refused(2, "def f()c:end=close ~d #");
        Desk.refused(1, "def f()c:end=~# close d");
    }

    private static void leastOfOnePlace() {
        Desk.sentence("at one place the least: 1");
        String types = twelve("type %=end;");
        String defs = twelve("def %()c:end=close c ");
        for (String none : new String[] {"", "1", "if", "abcdefg", "="}) {
            Desk.refused(1, types + "type ~" + none);
            Desk.refused(1, defs + "def ~" + none);
            Desk.refused(1, "def f(a,b,d,e,~" + none);
            Desk.refused(1, "def f()c:+{a:end,b:end,d:end,e:end,g:end,h:end,~" + none);
            Desk.refused(1, "def f()c:" + deep(12) + "~" + (none.isEmpty() ? "" : "="));
        }
        for (String none : new String[] {"", "1", "else", "abcdefg", "=", "x", "def", "end", "type", "}", ";"}) {
            Desk.refused(1, "def f()c:end=" + Desk.times(80, "say1;") + "~" + none);
            Desk.refused(1, "def f()c:end=" + Desk.times(8, "if 1{") + "~" + none);
        }
        Desk.refused(1, "def e(x,y)c:end=close c def f()c:end=go e(1,~)");
        Desk.sentence("at one place the least: 2");
        Desk.refused(2, types + "type ~l=end;" + LAST);
        Desk.refused(2, defs + "def ~l()c:end=close c");
        Desk.refused(2, "def f(a,b,d,e,~e)c:end=close c");
        Desk.refused(2, "def f(a,b,d,e,~a:end)c:end=close c");
        Desk.refused(2, "def f()c:+{a:end,b:end,d:end,e:end,g:end,h:end,~h:end}=");
        Desk.refused(2, SIZES + "type k=>h.>h.>h.!!!!!!!~x;");
        Desk.sentence("at one place the least: 3");
        Desk.refused(3, "def f(d:end)c:>!end.end=send c ~c;close c");
        Desk.refused(3, "def f(d:<!end.end)c:end=send d ~c;close c");
        Desk.refused(4, "def f(d:<end.end)c:end=send d ~c;close c");
        Desk.refused(3, ENDS + "def f(d:end)c:!end=~go e()");
        Desk.refused(4, ENDS + "def f(d:end)c:end=~go e()");
        Desk.refused(3, ENDS + "def f()c:!end=~go e()");
        Desk.refused(3, "def f(d:end,b:end)c:!end=~same c d");
        Desk.refused(4, "def f(d:end,b:end)c:end=~same c d");
        Desk.refused(3, "def f(d:end)c:!end=~same c d");
        Desk.sentence("at one place the least: 4");
        Desk.refused(4, "def f(d:end)c:end=" + Desk.times(80, "say1;") + "~close c");
        Desk.refused(5, "def f()c:end=" + Desk.times(80, "say1;") + "~close c");
        Desk.refused(4, "def f(d:end)c:end=" + Desk.times(79, "say1;") + "~close c");
    }

    private static void askedLast() {
        Desk.sentence("3, 4 at the WORD of go and same are asked last of what is wrong in them; an ARG that is the one given: 3");
        String e = "def e(x,d:end)c:end=wait d;close c ";
        String other = e + "def f(a:end,b:!end)c:!end=";
        String left = e + "def f(a:end,b:end)c:end=";
        for (String start : new String[] {other, left}) {
            int fault = start == other ? 3 : 4;
            Desk.refused(fault, start + "~go e(1,a)");
            Desk.refused(fault, start + "~go e(1,a)#");
            Desk.refused(1, start + "go ~1");
            Desk.refused(2, start + "go ~f(1,a)");
            Desk.refused(1, start + "go e~;");
            Desk.refused(2, start + "go e(~a,a)");
            Desk.refused(2, start + "go e(1,~z)");
            Desk.refused(3, start + "go e(1,~c)");
            Desk.refused(6, start + "go e(~)");
            Desk.refused(6, start + "go e(1~)");
            Desk.refused(6, start + "go e(1,a~,b)");
            Desk.refused(1, start + "go e(1,a~");
            Desk.refused(5, start + "go e(((((((((~(1,a)");
            Desk.refused(fault, start + "~same c a");
            Desk.refused(1, start + "same ~1 a");
            Desk.refused(2, start + "same ~z a");
            Desk.refused(4, start + "same ~a a");
            Desk.refused(1, start + "same c ~1");
            Desk.refused(2, start + "same c ~z");
            Desk.refused(4, start + "same c ~c");
            // of what is wrong behind them they are the first
            Desk.refused(fault, start + "~same c a;");
        }
        Desk.refused(3, other + "~same c a");
        Desk.refused(3, e + "def f(a:end)c:!end=go e(1,~c)");
        Desk.refused(3, e + "def f(a:end)c:end=go e(1,~c)");
        Desk.refused(3, e + "def f(a:!end)c:end=go e(1,~a)");
        Desk.refused(3, e + "def f(a:end)c:end=new d=e(1,~c);wait d;close c");
        // the 81st is told ahead of them
        Desk.refused(5, ENDS + "def f(d:end)c:!end=" + Desk.times(80, "say1;") + "~go e()");
        Desk.refused(5, ENDS + "def f(d:end,b:end)c:!end=" + Desk.times(80, "say1;") + "~same c d");
    }

    private static void there() {
        Desk.sentence("2 it is there already (types, DEFS: of their sort; a CHANNEL, NUMBER that is there now)");
        Desk.taken("type f=end;type c=f;def c()f:c=close f def f()c:f=go c()");
        Desk.refused(2, "type a=end;type b=end;type ~a=end;" + LAST);
        Desk.refused(2, LAST + " def ~z()c:end=close c");
        String[] comes = {"def f(x,d:end)c:?end=get c %;wait d;close c ", "def f(x,d:end)c:<end.end=take c %;wait d;close c ",
            "def e()c:end=close c def f(x,d:end)c:end=new %=e();wait d;close c "};
        for (String text : comes) {
            for (String known : new String[] {"x", "d", "c"}) {
                Desk.refused(2, text.replace("%", "~" + known) + LAST);
            }
        }
        Desk.taken("def f(x,d:end)c:?end=get c y;wait d;close c " + LAST);
        // what is gone is there no more, and can come again
        Desk.taken("def f(d:end)c:?end=wait d;get c d;say d;close c " + LAST);
        Desk.taken("def f(d:end)c:>end.?end=send c d;get c d;say d;close c " + LAST);
        Desk.taken("def f(d:end)c:>end.<end.end=send c d;take c d;wait d;close c " + LAST);
        Desk.taken("def e(x:end)c:end=wait x;close c def f(d:end)c:end=new b=e(d);new d=e(b);wait d;close c " + LAST);
        Desk.refused(2, "def e(x:end)c:end=wait x;close c def f(d:end)c:end=new ~d=e(d);wait d;close c " + LAST);
        Desk.sentence("2 it is none of what is wanted: a type, a DEF ahead, a CHANNEL that is there now, a NUMBER");
        Desk.refused(2, "type a=~a;" + LAST);
        Desk.refused(2, "type a=!~b;type b=end;" + LAST);
        Desk.taken("type b=end;type a=!b;" + LAST);
        Desk.refused(2, "def f()c:end=go ~f()");
        Desk.refused(2, "def f()c:end=go ~z() " + LAST);
        Desk.taken(LAST + " def f()c:end=go z()");
        Desk.refused(2, "def f()c:end=new d=~f();wait d;close c");
        for (String word : new String[] {"close %", "wait %", "put % 1", "get % y", "send % d", "take % y", "pick % a",
            "case %{a:", "same % d", "same c %"}) {
            boolean last = word.startsWith("close");
            for (String none : new String[] {"x", "z", "f", "g"}) {
                String head = last ? "def f(x)c:end=" : "def f(x,g:end,d:end)c:end=wait g;";
                Desk.refused(2, head + word.replace("%", "~" + none));
            }
        }
        for (String none : new String[] {"c", "d", "f", "z"}) {
            Desk.refused(2, "def f(x,d:end)c:end=say x+~" + none);
            Desk.refused(2, "def f(x,d:end)c:end=if ~" + none);
            Desk.refused(2, "def e(x)c:end=close c def f(x,d:end)c:end=go e(~" + none);
        }
        // a NUMBER is one from then on, and not ahead; a CHANNEL is none behind
        Desk.refused(2, "def f()c:!?end=put c ~x;get c x;close c");
        Desk.taken("def f()c:?!end=get c x;put c x;close c");
        Desk.refused(2, "def f()c:<end.end=wait ~x;take c x;close c");
        Desk.refused(2, "def f(d:end)c:end=wait d;wait ~d;close c");
        Desk.refused(2, "def f(d:end)c:>end.end=send c d;wait ~d;close c");
        Desk.refused(2, "def f(d:end)c:>end.>end.end=send c d;send c ~d;close c");
        Desk.refused(2, "def e(x:end)c:end=wait x;close c def f(d:end)c:end=new b=e(d);wait ~d;close c");
        // nothing is there that came in another P
        Desk.refused(2, "def f()c:&{a:?end,b:end}=case c{a:get c x;close c|b:say ~x;close c}");
        Desk.taken("def f()c:&{a:?end,b:?end}=case c{a:get c x;close c|b:get c x;say x;close c}");
        Desk.taken("def f(d:end)c:end=if 1{wait d;close c}else{wait d;close c} " + LAST);
        Desk.refused(4, "def f(d:end)c:end=if 1{wait d;close c}else{~close c} " + LAST);
        Desk.refused(2, "def f(x)c:end=close c def g()c:end=say ~x;close c");
    }

    private static void casesNames() {
        Desk.sentence("& CHOICE: case: each NAME of the CHOICE once, in any order");
        String head = "type t=&{a:end,b:end,d:end};def f()c:t=case c{";
        String[] orders = {"abd", "adb", "bad", "bda", "dab", "dba"};
        for (String order : orders) {
            String[] three = new String[3];
            for (int i = 0; i < 3; i++) {
                three[i] = order.charAt(i) + ":close c";
            }
            Desk.taken(head + three[0] + "|" + three[1] + "|" + three[2] + "}");
            Desk.refused(3, head + three[0] + "|" + three[1] + "~}");
            Desk.refused(3, head + three[0] + "~}");
            Desk.refused(2, head + three[0] + "|~" + three[0]);
            Desk.refused(2, head + three[0] + "|" + three[1] + "|~" + three[0] + "}");
            Desk.refused(2, head + three[0] + "|" + three[1] + "|" + three[2] + "|~" + three[2] + "}");
            Desk.refused(3, head + three[0] + "|" + three[1] + "|" + three[2] + "|~e:close c}");
            Desk.refused(3, head + three[0] + "|~e:close c}");
            Desk.refused(1, head + three[0] + "|" + three[1] + "|" + three[2] + "|~}");
        }
        Desk.refused(1, head + "~}");
        String six = "type t=&{a:end,b:end,d:end,e:end,g:end,h:end};def f()c:t=case c{";
        String all = "h:close c|g:close c|e:close c|d:close c|b:close c|a:close c";
        Desk.taken(six + all + "}");
        Desk.refused(3, six + all + "|~i:close c}");
        Desk.refused(2, six + all + "|~a:close c}");
        for (String missing : all.split("\\|")) {
            String rest = all.replace(missing, "").replace("||", "|").replaceAll("^\\||\\|$", "");
            Desk.refused(3, six + rest + "~}");
        }
        Desk.sentence("3 at the NAME behind pick: it is no NAME of the CHOICE");
        for (String name : "a b d e g h".split(" ")) {
            Desk.taken("type t=+{a:end,b:end,d:end,e:end,g:end,h:end};def f()c:t=pick c " + name + ";close c");
        }
        Desk.refused(3, "type t=+{a:end,b:end,d:end,e:end,g:end,h:end};def f()c:t=pick c ~i;close c");
        Desk.refused(3, "type t=+{a:end,b:+{x:end}};def f()c:t=pick c ~x;close c");
        Desk.refused(3, "type t=+{ab:end};def f()c:t=pick c ~a;close c");
    }

    private static void channelsLeft() {
        Desk.sentence("4 (at close, same, go) there is a CHANNEL left that it HAS (same: besides b)");
        String e = "def e(p:end)c:end=wait p;close c ";
        Desk.taken("def f()c:end=close c " + LAST);
        Desk.taken("def f(x,y)c:end=close c " + LAST);
        Desk.refused(4, "def f(d:end)c:end=~close c");
        Desk.refused(4, "def f(x,y,a,d:end)c:end=~close c");
        Desk.refused(4, "def f(d:end,x,y,a)c:end=~close c");
        Desk.taken("def f(d:end)c:end=same c d " + LAST);
        Desk.taken("def f(x,d:end,y)c:end=same c d " + LAST);
        Desk.refused(4, "def f(d:end,b:end)c:end=~same c d");
        Desk.refused(4, "def f(d:end,b:end)c:end=~same c b");
        Desk.refused(4, "def f(d:end,b:!end)c:end=~same c d");
        Desk.taken(e + "def f(d:end)c:end=go e(d) " + LAST);
        Desk.refused(4, e + "def f(d:end,b:end)c:end=~go e(d)");
        Desk.refused(4, e + "def f(d:end,b:end)c:end=~go e(b)");
        Desk.refused(4, ENDS + "def f(d:end)c:end=~go e()");
        Desk.taken(ENDS + "def f(x,y)c:end=go e() " + LAST);
        // one that came later
        Desk.refused(4, ENDS + "def f()c:end=new d=e();~close c");
        Desk.refused(4, "def f()c:<end.end=take c d;~close c");
        Desk.refused(4, "def f(b:end)c:<end.end=take c d;~same c b");
        Desk.refused(4, e + "def f(b:end)c:end=new d=e(b);~close c");
        // at the end of a talk it HAS the CHANNEL still
        Desk.refused(4, "def f(d:!end)c:end=get d x;~close c");
        Desk.taken("def f(d:!end)c:end=get d x;wait d;close c " + LAST);
        Desk.sentence("4 of send the second NAME is the CHANNEL given; of same the first NAME is not that, the second one is");
        Desk.refused(4, "def f(d:<end.end)c:end=send d ~c;wait d;close c");
        Desk.refused(4, "def f(d:<!end.end)c:!end=send d ~c;wait d;close c");
        Desk.refused(4, "def f(d:end)c:end=same ~d c");
        Desk.refused(4, "def f(d:end)c:end=same ~d d");
        Desk.refused(4, "def f(d:end)c:end=same c ~c");
        Desk.refused(4, "def f(d:!end)c:end=same ~d c");
    }
}
