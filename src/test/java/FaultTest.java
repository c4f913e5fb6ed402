/** Promises 4 and 5: load and fault. A ~ stands ahead of the place where a text is faulty. */
public final class FaultTest {
    /** A DEF that gives what it says, for those that need one ahead. */
    private static final String ENDS = "def e()c:end=close c ";
    private static final String NUMS = "def n(x,y)c:end=say x+y;close c ";

    public static void main(String[] args) {
        tokens();
        numbersAheadOfLetters();
        grammar();
        talks();
        names();
        namesOfTexts();
        talksByGiven();
        talksByHad();
        cases();
        lost();
        joins();
        argsCounts();
        argsTalks();
        lastDef();
        order();
        longest();
        answers();
        Desk.finish();
    }

    private static void tokens() {
        Desk.taken("def f()c:end=close c");
        Desk.taken("\n def\nf ( ) c : end = close\n\nc \n");
        Desk.taken("def abcdef()zzzzzz:end=close zzzzzz");
        Desk.refused(1, "def ~abcdefg()c:end=close c");
        Desk.refused(1, "def ~abcdefghijklmnopqrstuvwxyz()c:end=close c");
        Desk.refused(1, "def f()c:end=close ~closecc");
        Desk.refused(1, "def ~F()c:end=close c");
        Desk.refused(1, "def f~\t()c:end=close c");
        Desk.refused(1, "def f()c:end=close c~\r");
        Desk.refused(1, "def f()c:end=close c~\u0000");
        Desk.refused(1, "def f()c:end=close c~\u00e9");
        Desk.refused(1, "def f()c:end=close c~#");
        for (String word : "type def end put get send take pick case new same go if else say close wait".split(" ")) {
            Desk.refused(1, "def ~" + word + "()c:end=close c");
            Desk.taken("def " + word.charAt(0) + "()c:end=close c");
        }
        Desk.taken("def f()c:end=say 0;say 9999;say 0000;close c");
        Desk.refused(1, "def f()c:end=say ~10000;close c");
        Desk.refused(1, "def f()c:end=say ~1x;close c");
        Desk.refused(1, "def f()c:end=say ~12close c");
        Desk.taken("def f()c:end=say1;close c");
        Desk.taken("def f()c:!end=put c1;close c");
        Desk.taken("def f()c:end=say 1==1;close c");
        Desk.refused(1, "def f()c:end~==close c");
        Desk.refused(1, "def f()c:end=say 1~= =1;close c");
        Desk.refused(1, "def f()c:end=say 1==~=1;close c");
        Desk.refused(1, "def f()c:end=say 1 ~2;close c");
    }

    /** Capital letters are letters, too; what stands beside them in the table of signs is none. */
    private static void numbersAheadOfLetters() {
        for (int sign = 0; sign < 256; sign++) {
            char letter = (char) sign;
            if (letter >= 'a' && letter <= 'z' || letter >= 'A' && letter <= 'Z') {
                Desk.refused(1, "def f()c:end=say ~1" + letter + ";close c");
                Desk.refused(1, "def f()c:end=say 2+(~1234" + letter);
                Desk.refused(1, "def f()c:!end=put c~0" + letter + ";close c");
                Desk.refused(1, NUMS + "def f()c:end=go n(1,~22" + letter + ")");
            } else if ("@[`{/:\u00c0\u00e9\u0000".indexOf(letter) >= 0) {
                Desk.refused(1, "def f()c:end=say 1~" + letter + ";close c");
            }
        }
        Desk.refused(1, "def f()c:end=if ~1C{close c}else{close c}");
        Desk.refused(1, "def f()c:end=say ~12345A;close c");
        Desk.refused(1, "def f()c:end=say 1 ~A;close c");
        Desk.refused(1, "def f()c:end=say 1\n~a;close c");
        Desk.refused(1, "def f()c:end=say ~1A");
        Desk.refused(1, "def f()c:end=close c~A");
        Desk.refused(1, "def f()c~A:end=close c");
        Desk.refused(1, "def f()c:end=close c ~1A");
    }

    private static void grammar() {
        Desk.refused(1, "~");
        Desk.refused(1, " \n ~");
        Desk.refused(1, "~f");
        Desk.refused(1, "type~");
        Desk.refused(1, "type ~= end;");
        Desk.refused(1, "type a ~end;");
        Desk.refused(1, "type a = end~");
        Desk.refused(1, "type a = end;~");
        Desk.refused(1, "type a = ~;");
        Desk.refused(1, "type a = !~;");
        Desk.refused(1, "type a = > end ~end;");
        Desk.refused(1, "type a = + ~end;");
        Desk.refused(1, "type a = + { ~};");
        Desk.refused(1, "type a = + { a ~end };");
        Desk.refused(1, "type a = + { a : end ~| b : end };");
        Desk.refused(1, "type a = + { a : end, ~};");
        Desk.refused(1, "def ~(");
        Desk.refused(1, "def f ~c:end=close c");
        Desk.refused(1, "def f(~,)c:end=close c");
        Desk.refused(1, "def f(a,~)c:end=close c");
        Desk.refused(1, "def f(a ~b)c:end=close c");
        Desk.refused(1, "def f(a:~)c:end=close c");
        Desk.refused(1, "def f()~:end=close c");
        Desk.refused(1, "def f()c~=close c");
        Desk.refused(1, "def f()c:end ~close c");
        Desk.refused(1, "def f()c:end=~");
        Desk.refused(1, "def f()c:end=~f");
        Desk.refused(1, "def f()c:end=~else");
        Desk.refused(1, "def f()c:end=~end");
        Desk.refused(1, "def f()c:end=~def");
        Desk.refused(1, "def f()c:end=close ~");
        Desk.refused(1, "def f()c:end=close c~;");
        Desk.refused(1, ENDS + "~type a = end;");
        Desk.refused(1, "def f()c:!end=put c ~;close c");
        Desk.refused(1, "def f()c:!end=put c 1 ~close c");
        Desk.refused(1, "def f()c:!end=put c 1~,close c");
        Desk.refused(1, "def f()c:?end=get c ~1;close c");
        Desk.refused(1, "def f()c:+{a:end}=pick c ~1;close c");
        Desk.refused(1, "def f()c:&{a:end}=case c ~a:close c}");
        Desk.refused(1, "def f()c:&{a:end}=case c {~}");
        Desk.refused(1, "def f()c:&{a:end}=case c {a ~close c}");
        Desk.refused(1, "def f()c:&{a:end}=case c {a:close c ~,");
        Desk.refused(1, "def f()c:&{a:end}=case c {a:close c |~}");
        Desk.refused(1, "def f()c:&{a:end}=case c {a:close c}~;");
        Desk.refused(1, "def f()c:&{a:end}=case c {a:~}");
        Desk.refused(1, ENDS + "def f()c:end=new ~= e();wait d;close c");
        Desk.refused(1, ENDS + "def f()c:end=new d ~e();wait d;close c");
        Desk.refused(1, ENDS + "def f()c:end=new d = ~();wait d;close c");
        Desk.refused(1, ENDS + "def f()c:end=new d = e~;wait d;close c");
        Desk.refused(1, ENDS + "def f()c:end=go ~");
        Desk.refused(1, ENDS + "def f()c:end=go e(~");
        Desk.refused(1, ENDS + "def f()c:end=go e()~;");
        Desk.refused(1, "def f(b:end)c:end=same ~1 b");
        Desk.refused(1, "def f(b:end)c:end=same c ~");
        Desk.refused(1, "def f()c:end=say ~;close c");
        Desk.refused(1, "def f()c:end=say ~+1;close c");
        Desk.refused(1, "def f()c:end=say 1+~;close c");
        Desk.refused(1, "def f()c:end=say 1*~*2;close c");
        Desk.refused(1, "def f()c:end=say (1~;close c");
        Desk.refused(1, "def f()c:end=say (~);close c");
        Desk.refused(1, "def f()c:end=say 1<2~<3;close c");
        Desk.refused(1, "def f()c:end=say 1==2~<3;close c");
        Desk.refused(1, "def f()c:end=say 1<2~==3;close c");
        Desk.refused(1, "def f()c:end=say 1~>2;close c");
        Desk.taken("def f()c:end=say (1<2)<(3==4);close c");
        Desk.taken("def f()c:end=say 1--1;close c");
        Desk.refused(1, "def f()c:end=if ~{close c}else{close c}");
        Desk.refused(1, "def f()c:end=if 1 ~close c}else{close c}");
        Desk.refused(1, "def f()c:end=if 1 {close c ~else{close c}");
        Desk.refused(1, "def f()c:end=if 1 {close c} ~{close c}");
        Desk.refused(1, "def f()c:end=if 1 {close c} else ~close c");
        Desk.refused(1, "def f()c:end=if 1 {close c} else {~}");
        Desk.refused(1, "def f()c:end=if 1 {close c} else {close c~");
        Desk.refused(1, "def f()c:end=if 1 {close c} else {close c}~;");
    }

    private static void talks() {
        Desk.taken("type a=" + Desk.times(12, "!") + "end;" + ENDS);
        Desk.refused(5, "type a=" + Desk.times(12, "!") + "~!end;" + ENDS);
        Desk.refused(5, "type a=" + Desk.times(6, "!?") + "~+{a:end};" + ENDS);
        Desk.refused(5, "type a=" + Desk.times(4, "+{a:<end.!") + "~>end.end");
        Desk.taken("type a=" + Desk.times(11, ">end.") + "!end;" + ENDS);
        // what stands ahead of the . is closed there, and a NAME opens nothing
        Desk.taken("type a=>" + Desk.times(11, "!") + "end." + Desk.times(11, "?") + "end;" + ENDS);
        Desk.taken("type a=" + Desk.times(12, "!") + "end;type b=" + Desk.times(12, "!") + "a;" + ENDS);
        Desk.refused(5, "type a=end;type b=" + Desk.times(12, "!") + "~&{a:a};" + ENDS);
        Desk.refused(1, "type a=" + Desk.times(12, "!") + "~,;" + ENDS);
        // parts: a 4, b 9, c 19, d 39, e 79
        String names = "type a=>!end.end;type b=>a.a;type c=>b.b;type d=>c.c;type e=>d.d;";
        Desk.taken(names + "type f=>e.>e.d;" + ENDS);
        Desk.taken(names + "type f=>e.>e.!d;" + ENDS);
        Desk.refused(5, names + "type f=>e.>e.!!~d;" + ENDS);
        Desk.refused(1, names + "type f=>e.>e.>d.~;");
        Desk.refused(5, names + "type f=>e.>d.>d.!!~d;");
        Desk.taken(names + "type f=>d.>e.+{a:d,b:d};type g=>e.>d.d;def f()c:end=close c");
        Desk.refused(5, names + "type f=>e.>d.+{a:d,b:!!~d};");
        Desk.refused(5, names + "type f=>e.>e.>d.~end;");
        Desk.refused(5, names + "type f=>e.>e.>d.~!end;");
        Desk.refused(5, names + "type f=>e.>e.>d.~+{a:end};");
        // a T behind a PARAM counts for itself
        Desk.taken(names + "def f(a:>e.>e.!d)c:>e.>e.!d=same c a " + ENDS);
        Desk.refused(5, names + "def f(a:>e.>e.!d)c:>e.>e.!!~d=");
        Desk.refused(2, names + "type f=>e.>e.>d.~zz;" + ENDS);
    }

    private static void names() {
        Desk.refused(2, "type a=~a;" + ENDS);
        Desk.refused(2, "type a=~b;type b=end;" + ENDS);
        Desk.refused(2, "type a=end;type ~a=end;" + ENDS);
        Desk.refused(2, "def f()c:~a=close c");
        Desk.refused(2, ENDS + "def ~e()c:end=close c");
        Desk.taken("type e=end;def e()e:e=close e");
        Desk.refused(2, "type a=+{a:end,b:end,~a:end};" + ENDS);
        Desk.taken("type a=+{a:+{a:end,b:end},b:end};" + ENDS);
        Desk.refused(2, "def f(a,~a)c:end=close c");
        Desk.refused(2, "def f(a,~a:end)c:end=close c");
        Desk.refused(2, "def f(a,c)~c:end=close c");
        Desk.refused(2, "def f()c:end=go ~f()");
        Desk.refused(2, "def f()c:end=new d=~g();close c");
        Desk.refused(2, "def f()c:end=go ~g() def g()c:end=close c");
        Desk.refused(2, "type t=end;def f()c:end=go ~t()");
        Desk.refused(2, "def f(x)c:end=close ~x");
        Desk.refused(2, "def f()c:end=close ~d");
        Desk.refused(2, "def f()c:end=wait ~f;close c");
        Desk.refused(2, "def f(x)c:!end=put ~x 1;close c");
        Desk.refused(2, "def f()c:!end=put c ~c;close c");
        Desk.refused(2, "def f()c:!end=put c ~y;close c");
        Desk.refused(2, "def f(d:end)c:end=say 1+2*(3-~d);wait d;close c");
        Desk.refused(2, "def f(x)c:?end=get c ~x;close c");
        Desk.refused(2, "def f()c:?end=get c ~c;close c");
        Desk.refused(2, "def f(d:end)c:<end.end=take c ~d;wait d;close c");
        Desk.refused(2, ENDS + "def f(x)c:end=new ~x=e();wait x;close c");
        Desk.refused(2, ENDS + "def f(d:end)c:end=new ~d=e();close c");
        Desk.refused(2, ENDS + "def f()c:end=new ~c=e();close c");
        Desk.refused(2, "def f(d:end)c:end=wait d;wait ~d;close c");
        Desk.taken(ENDS + "def f()c:end=new d=e();wait d;new d=e();wait d;close c");
        Desk.refused(2, ENDS + "def f()c:end=new d=e();wait d;say ~d;close c");
        Desk.refused(2, "def f(x,d:end)c:>end.end=send c ~x;close c");
        Desk.refused(2, "def f(x,d:end)c:>end.end=send c ~y;close c");
        Desk.refused(2, "def f(d:end)c:>end.>end.end=send c d;send c ~d;close c");
        Desk.refused(2, "def f(b:end)c:end=same ~x b");
        Desk.refused(2, "def f(b:end,x)c:end=same ~x b");
        Desk.refused(2, "def f(b:end,x)c:end=same c ~x");
        Desk.refused(2, "def f(b:end,x)c:end=same c ~y");
        Desk.refused(2, "def f()c:&{a:end,b:end}=case c{a:close c|~a:close c}");
        // of two Ps, none sees what came in the other one
        Desk.refused(2, "def f()c:?end=if 1{get c x;say x;close c}else{get c y;say ~x;close c}");
        Desk.taken("def f()c:?end=if 1{get c x;say x;close c}else{get c x;say x;close c}");
        Desk.refused(2, "def f()c:&{a:?end,b:end}=case c{a:get c x;close c|b:say ~x;close c}");
    }

    private static void namesOfTexts() {
        StringBuilder types = new StringBuilder();
        StringBuilder defs = new StringBuilder();
        for (char k = 'a'; k <= 'l'; k++) {
            types.append("type ").append(k).append("=end;");
            defs.append("def ").append(k).append("()c:end=close c ");
        }
        Desk.due("12 types", Desk.taken(types + ENDS).look(0), 12);
        Desk.refused(5, types + "type ~m=end;" + ENDS);
        Desk.refused(2, types + "type ~a=end;" + ENDS);
        Desk.refused(1, types + "type ~1=end;" + ENDS);
        Desk.due("12 defs", Desk.taken(defs.toString()).look(1), 12);
        Desk.refused(5, defs + "def ~m()c:end=close c");
        Desk.refused(2, defs + "def ~a()c:end=close c");
        Desk.refused(1, defs + "def ~()c:end=close c");
        Desk.refused(1, defs + "~m");
        Desk.taken("def f(a,b,d:end,e)c:end=wait d;close c " + ENDS.replace(" e", " g"));
        Desk.refused(5, "def f(a,b,d,e,~g)c:end=close c");
        Desk.refused(2, "def f(a,b,d,e,~a)c:end=close c");
        Desk.refused(1, "def f(a,b,d,e,~)c:end=close c");
        Desk.taken("type a=&{a:end,b:end,c:end,d:end,e:end,f:end};" + ENDS);
        Desk.refused(5, "type a=&{a:end,b:end,c:end,d:end,e:end,f:end,~g:end};" + ENDS);
        Desk.refused(2, "type a=&{a:end,b:end,c:end,d:end,e:end,f:end,~c:end};" + ENDS);
    }

    private static void talksByGiven() {
        String[] ts = {"end", "!end", "?end", ">end.end", "<end.end", "+{a:end}", "&{a:end}"};
        String[] goods = {"close %c", "put %c 1;close c", "get %c y;close c", "send %c d;close c",
            "take %c y;wait y;close c", "pick %c a;close c", "case %c{a:close c}"};
        for (int t = 0; t < ts.length; t++) {
            for (int p = 0; p < goods.length; p++) {
                String had = p == 3 ? "d:end" : "";
                String text = "def f(" + had + ")c:" + ts[t] + "=" + goods[p].replace("%", t == p ? "" : "~");
                if (t == p) {
                    Desk.taken(text + " " + ENDS);
                } else {
                    Desk.refused(3, text);
                }
            }
            Desk.refused(3, "def f()c:" + ts[t] + "=wait ~c;close c");
        }
    }

    private static void talksByHad() {
        String[] ts = {"end", "!end", "?end", ">end.end", "<end.end", "+{a:end}", "&{a:end}"};
        String[] goods = {"wait %d;close c", "get %d y;wait d;close c", "put %d 1;wait d;close c",
            "take %d y;wait y;wait d;close c", "send %d g;wait d;close c", "case %d{a:wait d;close c}",
            "pick %d a;wait d;close c"};
        for (int t = 0; t < ts.length; t++) {
            for (int p = 0; p < goods.length; p++) {
                String more = p == 4 ? ",g:end" : "";
                String text = "def f(d:" + ts[t] + more + ")c:end=" + goods[p].replace("%", t == p ? "" : "~");
                if (t == p) {
                    Desk.taken(text + " " + ENDS);
                } else {
                    Desk.refused(3, text);
                }
            }
            Desk.refused(4, "def f(d:" + ts[t] + ")c:end=~close d");
        }
    }

    private static void cases() {
        String given = "def f()c:&{a:end,b:!end,cc:end}=case c{";
        Desk.taken(given + "cc:close c|b:put c 1;close c|a:close c}");
        Desk.refused(3, given + "cc:close c|~d:close c|a:close c}");
        Desk.refused(3, given + "cc:close c|b:put c 1;close c~}");
        Desk.refused(1, given + "cc:close c|b:put c 1;close c~");
        Desk.refused(3, given + "cc:close c|b:close ~c|a:close c}");
        Desk.refused(2, given + "cc:close c|~cc:close c|a:close c}");
        Desk.refused(3, "def f()c:+{a:end,b:end}=pick c ~d;close c");
        Desk.refused(3, "def f()c:+{a:end,b:!end}=pick c b;close ~c");
        Desk.taken("def f()c:+{a:end,b:!end}=pick c b;put c 1;close c");
        String had = "def f(d:+{a:end,b:!end})c:end=case d{";
        Desk.taken(had + "b:get d x;wait d;close c|a:wait d;close c}" + ENDS);
        Desk.refused(3, had + "a:get ~d x;wait d;close c|b:wait d;close c}" + ENDS);
        Desk.refused(4, had + "a:wait d;close c|b:get d x;~close c}" + ENDS);
        // the seventh is never one of the CHOICE that was not there
        Desk.refused(2, "def f()c:&{a:end,b:end,d:end,e:end,f:end,g:end}=case c{a:close c|b:close c|d:close c"
            + "|e:close c|f:close c|g:close c|~a:close c}");
        Desk.refused(3, "def f()c:&{a:end,b:end,d:end,e:end,f:end,g:end}=case c{a:close c|b:close c|d:close c"
            + "|e:close c|f:close c|g:close c|~h:close c}");
    }

    private static void lost() {
        Desk.refused(4, "def f(d:end)c:end=~close c");
        Desk.refused(4, "def f(d:end)c:end=~close x");
        Desk.refused(4, "def f(d:end)c:end=~close");
        Desk.refused(4, "def f(d:end)c:end=if 1{wait d;close c}else{~close c}");
        Desk.taken("def f(d:end)c:end=if 1{wait d;close c}else{wait d;close c}" + ENDS);
        Desk.refused(4, ENDS + "def f(d:end)c:end=~go e()");
        Desk.refused(1, ENDS + "def f(d:end)c:end=go e(~d)");
        Desk.refused(3, ENDS + "def f(d:end)c:!end=~go e()");
        Desk.refused(3, ENDS + "def f()c:!end=~go e()");
        Desk.refused(2, ENDS + "def f()c:!end=go ~g()");
        Desk.taken(ENDS + "def f()c:!end=put c 1;go e()");
        Desk.refused(3, ENDS + "def f()c:!end=~go e() garbage");
    }

    private static void joins() {
        Desk.taken("def f(b:!end)c:!end=same c b " + ENDS);
        Desk.taken("def f(b:+{a:end,b:end})c:+{b:end,a:end}=same c b " + ENDS);
        Desk.refused(3, "def f(b:!end)c:end=~same c b " + ENDS);
        Desk.refused(3, "def f(b:+{a:end,b:end})c:&{b:end,a:end}=~same c b " + ENDS);
        Desk.refused(4, "def f(b:end)c:end=same ~b c");
        Desk.refused(4, "def f(b:end)c:end=same ~b b");
        Desk.refused(4, "def f(b:end)c:end=same c ~c");
        Desk.refused(4, "def f(b:!end)c:end=same c ~c");
        Desk.refused(4, "def f(b:end,d:end)c:end=~same c b");
        Desk.refused(3, "def f(b:!end,d:end)c:end=~same c b");
        Desk.refused(2, "def f(b:!end,d:end)c:end=same c ~x");
        Desk.refused(3, "def f(d:end)c:>end.end=send c ~c;wait d;close c");
        Desk.refused(4, "def f(d:<end.end)c:end=send d ~c;wait d;close c");
        Desk.refused(3, "def f(d:<!end.end)c:end=send d ~c;wait d;close c");
        Desk.refused(3, "def f(d:<!end.end,g:end)c:end=send d ~g;wait d;close c");
        Desk.refused(3, "def f(d:<end.end)c:end=send d ~d;close c");
        Desk.taken("def f(d:<!end.end,g:!end)c:end=send d g;wait d;close c " + ENDS);
    }

    private static void argsCounts() {
        Desk.taken(NUMS + "def f()c:end=go n(1,2)");
        Desk.refused(6, NUMS + "def f()c:end=go n(~)");
        Desk.refused(6, NUMS + "def f()c:end=go n(1~)");
        Desk.refused(6, NUMS + "def f()c:end=go n(1,2~,3)");
        Desk.refused(6, NUMS + "def f()c:end=go n(1,2~,)");
        Desk.refused(1, NUMS + "def f()c:end=go n(1,~)");
        Desk.refused(1, NUMS + "def f()c:end=go n(~,1)");
        Desk.refused(1, NUMS + "def f()c:end=go n(1 ~2)");
        Desk.refused(1, NUMS + "def f()c:end=go n(1,2~;");
        Desk.refused(1, ENDS + "def f()c:end=go e(~1)");
        Desk.refused(1, ENDS + "def f()c:end=go e(~,)");
        Desk.refused(1, ENDS + "def f()c:end=new d=e(~c);wait d;close c");
        Desk.refused(6, NUMS + "def f()c:!end=go n(~)");
        Desk.refused(6, "def g(d:end)c:end=wait d;close c def f(x:end)c:end=go g(~)");
        Desk.refused(6, "def g(d:end)c:end=wait d;close c def f(x:end)c:end=go g(x~,x)");
        Desk.refused(6, "def g(d:end,e:end)c:end=wait d;wait e;close c def f(x:end)c:end=go g(x~)");
    }

    private static void argsTalks() {
        String two = "def g(d:end,x,e:!end)c:end=get e y;wait d;wait e;close c ";
        Desk.taken(two + "def f(d:end,e:!end)c:end=go g(d,1,e) " + ENDS.replace("def e", "def h"));
        Desk.refused(3, two + "def f(d:end,e:!end)c:end=go g(~e,1,d)");
        Desk.refused(3, two + "def f(d:end,e:!end)c:end=go g(~c,1,d)");
        Desk.refused(3, two + "def f(d:end,e:!end)c:!end=go g(d,1,~c)");
        Desk.refused(2, two + "def f(d:end,e:!end)c:end=go g(d,1,~d)");
        Desk.refused(2, two + "def f(d:end,e:!end)c:end=go g(d,~e,d)");
        Desk.refused(2, two + "def f(d:end,e:!end,x)c:end=go g(~x,1,d)");
        Desk.refused(1, two + "def f(d:end,e:!end,x)c:end=go g(~1,1,d)");
        Desk.refused(1, two + "def f(d:end,e:!end,x)c:end=go g(~(d),1,d)");
        Desk.refused(1, two + "def f(d:end,e:!end,x)c:end=go g(d~+d,1,d)");
        Desk.refused(4, two + "def f(d:end,e:!end,h:end)c:end=~go g(d,1,e)");
        Desk.refused(3, two + "def f(d:end,e:!end)c:!end=~go g(d,1,e)");
        Desk.refused(2, two + "def f(d:end,e:!end)c:end=new h=g(d,1,e);wait ~d;wait h;close c");
        Desk.taken(two + "def f(d:end,e:!end)c:end=new h=g(d,1,e);wait h;close c " + ENDS);
        Desk.refused(4, two + "def f(d:end,e:!end,i:end)c:end=new h=g(d,1,e);wait h;~close c");
        Desk.refused(4, two + "def f(d:end,e:!end)c:end=new h=g(d,1,e);~close c");
        Desk.refused(3, two + "def f(d:end,e:!end)c:end=new h=g(d,1,e);get ~h x;close c");
    }

    private static void lastDef() {
        Desk.refused(7, "def f(~x)c:end=close c");
        Desk.refused(7, ENDS + "def f( ~x:end , y)c:end=wait x;close c");
        Desk.taken("def f(x)c:end=close c " + ENDS);
        Desk.refused(1, "def f(x)c:end=close c~;");
        Desk.refused(7, "def f(y)c:end=close c def g(~x)c:end=close c");
    }

    private static void order() {
        // the first place wins, and of one place the least
        Desk.refused(2, "def f()c:~a=close d F");
        Desk.refused(4, "def f(d:end)c:end=" + Desk.times(80, "say 1;") + "~close c");
        Desk.refused(5, "def f()c:end=" + Desk.times(80, "say 1;") + "~close c");
        Desk.taken("def f()c:end=" + Desk.times(79, "say 1;") + "close c");
        Desk.taken("def f()c:end=" + Desk.times(78, "say 1;") + "if 1{close c}else{close c}");
        Desk.refused(5, "def f()c:end=" + Desk.times(79, "say 1;") + "if 1{close c}else{~close c}");
        Desk.refused(5, "def f()c:end=" + Desk.times(80, "say 1;") + "~say");
        Desk.refused(1, "def f()c:end=" + Desk.times(80, "say 1;") + "~else");
        Desk.refused(5, "def f()c:!end=" + Desk.times(80, "say 1;") + "~put d");
        Desk.refused(5, ENDS + "def f()c:!end=" + Desk.times(80, "say 1;") + "~go e()");
        Desk.taken(ENDS + "def f()c:end=" + Desk.times(79, "say 1;") + "close c " + "def g()c:end=say 1;close c");
        String ifs = Desk.times(8, "if 1{");
        String elses = Desk.times(8, "}else{close c}");
        Desk.taken("def f()c:end=" + ifs + "close c" + elses);
        Desk.refused(5, "def f()c:end=" + ifs + "~if 1{");
        Desk.refused(5, "def f()c:end=" + ifs + "~case");
        Desk.refused(5, "def f()c:end=" + ifs + "say ~(1);");
        Desk.refused(5, "def f()c:end=" + ifs + "say ~-1;");
        Desk.taken("def f()c:end=" + ifs + "say 1-1;close c" + elses);
        Desk.taken("def f()c:end=say " + Desk.times(8, "(") + "1" + Desk.times(8, ")") + ";close c");
        Desk.refused(5, "def f()c:end=say " + Desk.times(8, "(") + "~(1");
        Desk.taken("def f()c:end=say " + Desk.times(8, "-") + "1;close c");
        Desk.refused(5, "def f()c:end=say " + Desk.times(8, "-") + "~-1");
        Desk.refused(5, "def f()c:end=say " + Desk.times(4, "-(") + "~-1");
        Desk.taken("def f()c:end=say " + Desk.times(4, "-(") + "1-1-1" + Desk.times(4, ")") + "--1;close c");
        Desk.taken("def f()c:end=say " + Desk.times(4, "-1-(-1)*") + "1;close c");
        String second = Desk.times(8, "if 1{close c}else{");
        Desk.taken("def f()c:end=" + second + "close c" + Desk.times(8, "}"));
        Desk.refused(5, "def f()c:end=" + second + "~if 1");
        Desk.refused(5, "def f()c:end=" + second + "say ~(1)");
        // what is closed is open no more
        Desk.taken("def f()c:end=" + Desk.times(3, "say ((((1))))+(((2)))*----3;") + "close c");
        // an if is open within its E, too
        Desk.refused(5, "def f()c:end=" + Desk.times(7, "if 1{") + "if ~(1");
        Desk.taken("def f()c:end=" + Desk.times(7, "if 1{") + "if 1 {close c" + elses);
        Desk.taken("def f()c:end=" + Desk.times(6, "if 1{") + "if (1) {close c" + Desk.times(7, "}else{close c}"));
        Desk.taken("def f()c:end=" + Desk.times(7, "if 1{") + "say (1);close c" + Desk.times(7, "}else{close c}"));
        String eight = "type a=&{a:end};type b=&{a:a};type d=&{a:b};type e=&{a:d};type f=&{a:e};type g=&{a:f};"
            + "type h=&{a:g};type i=&{a:h};type j=&{a:i};";
        Desk.taken(eight + "def f()c:i=" + Desk.times(8, "case c{a:") + "close c" + Desk.times(8, "}"));
        Desk.refused(5, eight + "def f()c:j=" + Desk.times(8, "case c{a:") + "~case c");
        Desk.refused(5, eight + "def f()c:j=" + Desk.times(8, "case c{a:") + "~case x");
    }

    private static void longest() {
        Desk.refused(1, "~" + Desk.times(1000, ";"));
        Desk.refused(1, "def f()c:end=close c" + Desk.times(979, " ") + "~;");
        Desk.taken("def f()c:end=close c" + Desk.times(980, " "));
        Desk.taken(Desk.times(980, "\n") + "def f()c:end=close c");
        Desk.refused(1, Desk.times(981, " ") + "def f()c:end=close ~");
        Desk.taken("def f()c:end=say " + Desk.times(486, "1+") + "1;close c ");
        Desk.refused(1, "def f()c:end=say " + Desk.times(491, "1+") + "1~");
    }

    private static void answers() {
        TalkHouse x = new TalkHouse();
        Desk.due("load of two", Desk.load(x, ENDS + "def f()c:!end=put c 1;close c"), 2);
        Desk.due("steps", x.run(1, 1), 1);
        Desk.due("load of a fault", Desk.load(x, "type a=end;def f()c:end=close d"), -1);
        Desk.due("fault(0)", x.fault(0), 2);
        Desk.due("fault(1)", x.fault(1), 30);
        Desk.due("fault(2)", x.fault(2), -1);
        Desk.due("fault(-1)", x.fault(-1), -1);
        Desk.due("the text of before: types", x.look(0), 0);
        Desk.due("the text of before: defs", x.look(1), 2);
        Desk.due("the run of before: steps", x.look(5), 1);
        Desk.due("the run of before goes on", x.step(0), 0);
        Desk.due("print of before", Desk.printed(x, 1, -1), "! end");
        Desk.due("begin with the text of before", x.begin(), true);
        Desk.due("steps", x.run(5, 600), 2);
        Desk.due("another text", Desk.load(x, "type a=end;def f()c:a=say 1;close c"), 1);
        Desk.due("fault(0) without one", x.fault(0), 0);
        Desk.due("fault(1) without one", x.fault(1), -1);
        Desk.due("a run begins", x.look(5), 0);
        Desk.due("types", x.look(0), 1);
        Desk.due("a fault at once", Desk.load(x, "!"), -1);
        Desk.due("steps", x.run(5, 600), 2);
        Desk.due("a fault first, then a text", Desk.load(x, ENDS), 1);
    }
}
