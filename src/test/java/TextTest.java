/** Promises 6 to 10: look, def, print, same, out. */
public final class TextTest {
    private static final int NONE = TalkHouse.NONE;

    public static void main(String[] args) {
        looks();
        defs();
        leasts();
        prints();
        longestPrint();
        sames();
        outs();
        Desk.finish();
    }

    private static void looks() {
        TalkHouse x = Desk.taken("type a=end;type b=!a;def e()c:b=say 4;put c 5;close c "
            + "def f()c:end=new d=e();get d x;say x;wait d;close c");
        int[][] due = {
            {2, 2, 1, 1, 1, 0, 0, 0},
            {2, 2, 2, 2, 2, 1, 0, 0},
            {2, 2, 2, 2, 2, 2, 1, 0},
            {2, 2, 2, 2, 2, 3, 1, 0},
            {2, 2, 2, 1, 2, 4, 1, 0},
            {2, 2, 2, 1, 2, 5, 1, 0},
            {2, 2, 2, 1, 2, 6, 2, 0},
            {2, 2, 2, 1, 2, 7, 2, 0},
            {2, 2, 2, 0, 2, 8, 2, 0}};
        int[] turns = {0, 0, 0, 1, 0, 0, 0, 0};
        for (int i = 0; i < due.length; i++) {
            for (int what = 0; what < 8; what++) {
                Desk.due("look(" + what + ") behind " + i + " steps", x.look(what), due[i][what]);
            }
            if (i < turns.length) {
                x.step(turns[i]);
            }
        }
        Desk.due("look(8)", x.look(8), NONE);
        Desk.due("look(-1)", x.look(-1), NONE);
        Desk.due("look(MAX)", x.look(Integer.MAX_VALUE), NONE);
        Desk.due("look(MIN)", x.look(Integer.MIN_VALUE), NONE);
    }

    private static void defs() {
        TalkHouse x = Desk.taken("def a(x,d:end,y,e:!end)c:end=wait d;get e z;wait e;close c "
            + "def b()c:end=if 1{say 1;close c}else{close c}");
        int[][] due = {{4, 2, 4, 4}, {0, 0, 3, 1}};
        for (int i = 0; i < 2; i++) {
            for (int what = 0; what < 4; what++) {
                Desk.due("def(" + i + ", " + what + ")", x.def(i, what), due[i][what]);
            }
            Desk.due("def(" + i + ", 4)", x.def(i, 4), NONE);
            Desk.due("def(" + i + ", -1)", x.def(i, -1), NONE);
        }
        for (int what = 0; what < 4; what++) {
            Desk.due("def(2, ..)", x.def(2, what), NONE);
            Desk.due("def(-1, ..)", x.def(-1, what), NONE);
            Desk.due("def(2^30, ..)", x.def(1 << 30, what), NONE);
            Desk.due("def(MIN, ..)", x.def(Integer.MIN_VALUE, what), NONE);
        }
    }

    private static void leasts() {
        TalkHouse x = Desk.taken("def a()c:&{a:end,b:!end,d:end}=say 1;case c{a:say 1;say 2;close c|b:put c 1;close c"
            + "|d:if 1{say 1;say 2;say 3;close c}else{say 1;if 2{say 3;close c}else{say 4;close c}}} "
            + "def b()c:&{a:end,b:!end,d:end}=say 1;go a() "
            + "def d(e:end)c:end=same c e "
            + "def f()c:end=if 1{close c}else{if 2{close c}else{say 1;close c}} "
            + "def g()c:end=if 0{say 1;say 2;close c}else{say 1;say 2;say 3;say 4;close c}");
        Desk.due("words of a", x.def(0, 2), 2 + 3 + 2 + 4 + 1 + 2 + 2);
        Desk.due("least of a", x.def(0, 3), 2 + 2);
        Desk.due("least of b", x.def(1, 3), 2);
        Desk.due("least of d", x.def(2, 3), 1);
        Desk.due("words of d", x.def(2, 2), 1);
        Desk.due("least of f", x.def(3, 3), 1);
        Desk.due("words of f", x.def(3, 2), 4);
        Desk.due("least of g", x.def(4, 3), 3);
        TalkHouse y = Desk.taken("def f()c:end=" + Desk.times(79, "say 1;") + "close c");
        Desk.due("80 words", y.def(0, 2), 80);
        Desk.due("80 steps", y.def(0, 3), 80);
        TalkHouse z = Desk.taken("type t=&{a:end,b:end,d:end,e:end,f:end,g:end};def f()c:t=case c{g:close c"
            + "|f:say 1;close c|e:close c|d:close c|b:close c|a:close c}");
        Desk.due("words of a case", z.def(0, 2), 8);
        Desk.due("least of a case", z.def(0, 3), 2);
    }

    /** A text in which DEF 0 has a PARAM with the T and gives it. */
    private static String withTalk(String types, String t) {
        return types + "def f(x,a:" + t + ")c:" + t + "=same c a def z()c:end=close c";
    }

    private static void printsAs(String types, String t, String due) {
        TalkHouse x = Desk.taken(withTalk(types, t));
        Desk.due("what is given, " + t, Desk.printed(x, 0, NONE), due);
        Desk.due("PARAM 1, " + t, Desk.printed(x, 0, 1), due);
        Desk.due("PARAM 0 has none", x.print(0, 0), NONE);
        Desk.due("PARAM 2", x.print(0, 2), NONE);
        Desk.due("PARAM -2", x.print(0, -2), NONE);
        Desk.due("DEF 2", x.print(2, NONE), NONE);
        Desk.due("DEF -1", x.print(-1, NONE), NONE);
        Desk.due("DEF 2^30", x.print(1 << 30, 1), NONE);
        Desk.due("PARAM MAX", x.print(0, Integer.MAX_VALUE), NONE);
        Desk.due("OUT stays", Desk.out(x), due);
        Desk.due("of DEF 1", Desk.printed(x, 1, NONE), "end");
        Desk.due("DEF 1 has no PARAM", x.print(1, 0), NONE);
    }

    private static void prints() {
        printsAs("", "end", "end");
        printsAs("", "!end", "! end");
        printsAs("", "? ! end", "? ! end");
        printsAs("", ">end.!end", "> end . ! end");
        printsAs("", "<!end.?end", "< ! end . ? end");
        printsAs("", "><end.end.>end.end", "> < end . end . > end . end");
        printsAs("", "+{a:end}", "+ { a : end }");
        printsAs("", "&{b:end,a:!end}", "& { a : ! end , b : end }");
        printsAs("", "+{abc:end,b:end,ab:end,a:end,abd:end,ac:end}",
            "+ { a : end , ab : end , abc : end , abd : end , ac : end , b : end }");
        printsAs("", "&{zzzzzz:end,zzzzz:end,za:end,az:end,aaaaaa:end}",
            "& { aaaaaa : end , az : end , za : end , zzzzz : end , zzzzzz : end }");
        printsAs("", "!+{b:&{d:end,c:>end.end},a:?end}", "! + { a : ? end , b : & { c : > end . end , d : end } }");
        printsAs("", ">+{x:end,y:end}.&{y:end,x:end}", "> + { x : end , y : end } . & { x : end , y : end }");
        printsAs("type a=!end;type b=>a.a;", "+{b:b,a:a}", "+ { a : ! end , b : > ! end . ! end }");
    }

    private static void longestPrint() {
        String six = "+{ffffff:%,eeeeee:%,dddddd:%,cccccc:%,bbbbbb:%,aaaaaa:%}";
        String printedSix = "+ { aaaaaa : % , bbbbbb : % , cccccc : % , dddddd : % , eeeeee : % , ffffff : % }";
        String types = "type a=" + six.replace("%", "end") + ";type b=" + six.replace("%", "a") + ";";
        String a = printedSix.replace("%", "end");
        String b = printedSix.replace("%", a);
        // parts: a 7, b 43; 4 * 43 + 3 * 7 + 7 = 200
        printsAs(types, "+{a:b,b:b,c:b,d:b,e:>a.>a.>a.!!end}", "+ { a : " + b + " , b : " + b + " , c : " + b
            + " , d : " + b + " , e : > " + a + " . > " + a + " . > " + a + " . ! ! end }");
        // as deep as it has parts
        String deep = "type a=" + Desk.times(12, "!") + "end;";
        StringBuilder more = new StringBuilder(deep);
        for (char k = 'b'; k <= 'l'; k++) {
            more.append("type ").append(k).append('=').append(Desk.times(12, "?")).append((char) (k - 1)).append(';');
        }
        printsAs(more.toString(), "l", Desk.times(132, "? ") + Desk.times(12, "! ") + "end");
    }

    private static boolean alike(String t, String u) {
        String types = "type k=!end;type l=+{b:k,a:end};";
        TalkHouse x = Desk.taken(types + "def f(x,a:" + t + ")c:" + t + "=same c a def g(y,b:" + u + ")c:" + u
            + "=same c b def z()c:end=close c");
        boolean answer = x.same(0, NONE, 1, NONE);
        Desk.due("as PARAMS: " + t + ", " + u, x.same(0, 1, 1, 1), answer);
        Desk.due("turned round: " + t + ", " + u, x.same(1, 1, 0, NONE), answer);
        Desk.due("with itself: " + t, x.same(0, 1, 0, NONE), true);
        Desk.due("none: no T", x.same(0, 0, 1, 0), false);
        Desk.due("none: no T, with itself", x.same(0, 0, 0, 0), false);
        Desk.due("none: PARAM 2", x.same(0, 2, 0, 2), false);
        Desk.due("none: PARAM -2", x.same(0, -2, 0, -2), false);
        Desk.due("none: DEF 3", x.same(3, NONE, 3, NONE), false);
        Desk.due("none: DEF -1", x.same(-1, NONE, -1, NONE), false);
        Desk.due("none: one of both", x.same(0, 1, 5, 1), false);
        return answer;
    }

    private static void sames() {
        String[] all = {"end", "!end", "?end", "!!end", ">end.end", "<end.end", ">!end.end", ">end.!end",
            "+{a:end}", "&{a:end}", "+{b:end}", "+{a:!end}", "+{a:end,b:end}", "+{a:end,b:!end}", "+{b:end,a:!end}",
            "+{a:end,bb:!end}", "+{a:end,b:!end,c:end}", "&{a:end,b:!end}", "!+{a:end,b:!end}"};
        for (int i = 0; i < all.length; i++) {
            for (int k = 0; k < all.length; k++) {
                Desk.due("same: " + all[i] + ", " + all[k], alike(all[i], all[k]), i == k);
            }
        }
        Desk.due("a NAME is its T", alike("k", "!end"), true);
        Desk.due("NAMES in any order", alike("l", "+{a:end,b:!end}"), true);
        Desk.due("within", alike(">l.!l", ">+{a:end,b:!end}.!+{b:!end,a:end}"), true);
        Desk.due("three in any order", alike("&{c:end,a:k,b:end}", "&{b:end,c:end,a:!end}"), true);
    }

    private static void outs() {
        TalkHouse x = Desk.taken("def f()c:!end=put c 1;close c");
        Desk.due("OUT is empty", x.out(0), NONE);
        Desk.due("print", x.print(0, NONE), 5);
        Desk.due("out(0)", x.out(0), '!');
        Desk.due("out(1)", x.out(1), ' ');
        Desk.due("out(4)", x.out(4), 'd');
        Desk.due("out(5)", x.out(5), NONE);
        Desk.due("out(-1)", x.out(-1), NONE);
        Desk.due("out(MAX)", x.out(Integer.MAX_VALUE), NONE);
        Desk.load(x, "def f()c:end=close c");
        Desk.due("OUT stays behind a load", Desk.out(x), "! end");
        Desk.due("a shorter print", Desk.printed(x, 0, NONE), "end");
        Desk.due("nothing of the longer one", x.out(3), NONE);
    }
}
