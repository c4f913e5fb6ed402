/** Promises 11 to 15: begin, ready, which, step, run; and how numbers are worked out. */
public final class RunTest {
    private static final int NONE = TalkHouse.NONE;

    /** A tree of PROCESSES, six DEFS high: 2 to the power of the height leaves, each saying so often. */
    private static String tree(int height, int says) {
        StringBuilder text = new StringBuilder("def a()c:end=" + Desk.times(says, "say 1;") + "close c ");
        for (int i = 1; i <= height; i++) {
            char here = (char) ('a' + i);
            char below = (char) (here - 1);
            text.append("def ").append(here).append("()c:end=new x=").append(below).append("();new y=").append(below)
                .append("();wait x;wait y;close c ");
        }
        return text.toString();
    }

    public static void main(String[] args) {
        begins();
        readyAndWhich();
        steps();
        drawnOrder();
        bounds();
        spentBySteps();
        spentByProcesses();
        eightyProcesses();
        numbers();
        ifs();
        anyOrder();
        Desk.finish();
    }

    private static void begins() {
        TalkHouse x = Desk.taken(tree(2, 1));
        Desk.due("steps", x.run(7, 9), 9);
        Desk.due("begin", x.begin(), true);
        Desk.due("processes", x.look(2), 1);
        Desk.due("channels", x.look(4), 1);
        Desk.due("steps done", x.look(5), 0);
        Desk.due("said", x.look(6), 0);
        Desk.due("said(0)", x.said(0, 0), NONE);
        Desk.due("over", x.process(0, 1), 0);
        Desk.due("steps of 0", x.process(0, 3), 0);
        Desk.due("no process 1", x.process(1, 0), NONE);
        Desk.due("no channel 1", x.channel(1, 0), NONE);
        Desk.due("to the end", x.run(7, 600), 4 * 2 + 3 * 5);
        Desk.due("none is ready", x.ready(), 0);
        Desk.due("not spent", x.look(7), 0);
        Desk.due("all over", x.look(3), 0);
    }

    private static void readyAndWhich() {
        TalkHouse x = Desk.taken("def e()c:end=close c def f()c:end=new x=e();new y=e();wait x;wait y;close c");
        Desk.due("ready", x.ready(), 1);
        Desk.due("which(0)", x.which(0), 0);
        Desk.due("which(1)", x.which(1), NONE);
        Desk.due("which(-1)", x.which(-1), NONE);
        x.step(0);
        x.step(0);
        // 0 waits for 1
        Desk.due("ready", x.ready(), 2);
        Desk.due("which(0)", x.which(0), 1);
        Desk.due("which(1)", x.which(1), 2);
        Desk.due("which(2)", x.which(2), NONE);
        Desk.due("which(MIN)", x.which(Integer.MIN_VALUE), NONE);
        Desk.due("which(MAX)", x.which(Integer.MAX_VALUE), NONE);
        Desk.due("step(1)", x.step(1), 2);
        Desk.due("ready", x.ready(), 1);
        Desk.due("which(0)", x.which(0), 1);
        Desk.due("step(0)", x.step(0), 1);
        Desk.due("ready", x.ready(), 1);
        Desk.due("which(0)", x.which(0), 0);
    }

    private static void steps() {
        TalkHouse x = Desk.taken("def f()c:end=say 1;close c");
        Desk.due("step(1)", x.step(1), NONE);
        Desk.due("step(-1)", x.step(-1), NONE);
        Desk.due("nothing happened", x.look(5), 0);
        Desk.due("not spent", x.look(7), 0);
        Desk.due("step(0)", x.step(0), 0);
        Desk.due("step(0)", x.step(0), 0);
        Desk.due("step(0) at the end", x.step(0), NONE);
        Desk.due("steps done", x.look(5), 2);
        Desk.due("not spent", x.look(7), 0);
        TalkHouse y = Desk.taken("def f()c:?end=get c x;close c");
        Desk.due("waits for ever", y.ready(), 0);
        Desk.due("step(0)", y.step(0), NONE);
        Desk.due("run", y.run(3, 600), 0);
        Desk.due("it waits", y.process(0, 2), 1);
        TalkHouse z = Desk.taken("def f()c:<end.end=take c x;wait x;close c");
        Desk.due("take waits for ever", z.ready(), 0);
        TalkHouse w = Desk.taken("def f()c:&{a:end}=case c{a:close c}");
        Desk.due("case waits for ever", w.ready(), 0);
    }

    /** The same draws, made by hand over step(). */
    private static void drawnOrder() {
        for (int seed = -3; seed < 60; seed += 3) {
            TalkHouse x = Desk.taken(tree(3, 2));
            TalkHouse y = Desk.taken(tree(3, 2));
            int drawn = seed * 715827883;
            int count = 0;
            int due = x.run(drawn, 37);
            for (int i = 0; i < 37 && y.ready() > 0; i++) {
                drawn = drawn * 1103515245 + 12345;
                if (y.step((drawn >>> 16) % y.ready()) != NONE) {
                    count++;
                }
            }
            Desk.due("steps of seed " + seed, due, count);
            for (int p = 0; p < 16; p++) {
                for (int what = 0; what < 7; what++) {
                    Desk.due("process(" + p + ", " + what + ") of seed " + seed, x.process(p, what), y.process(p, what));
                }
            }
            for (int i = 0; i < 20; i++) {
                Desk.due("said(" + i + ", 1) of seed " + seed, x.said(i, 1), y.said(i, 1));
            }
        }
    }

    private static void bounds() {
        TalkHouse x = Desk.taken(tree(3, 2));
        Desk.due("run(1, -1)", x.run(1, -1), NONE);
        Desk.due("run(1, 601)", x.run(1, 601), NONE);
        Desk.due("run(1, MAX)", x.run(1, Integer.MAX_VALUE), NONE);
        Desk.due("run(1, MIN)", x.run(1, Integer.MIN_VALUE), NONE);
        Desk.due("nothing happened", x.look(5), 0);
        Desk.due("run(1, 0)", x.run(1, 0), 0);
        Desk.due("nothing happened", x.look(5), 0);
        Desk.due("run(1, 1)", x.run(1, 1), 1);
        Desk.due("run(1, 600)", x.run(1, 600), 8 * 3 + 7 * 5 - 1);
        Desk.due("run at the end", x.run(1, 600), 0);
    }

    private static void spentBySteps() {
        TalkHouse x = Desk.taken(tree(5, 30));
        Desk.due("599 steps", x.run(11, 599), 599);
        Desk.due("not spent", x.look(7), 0);
        Desk.due("step 600", x.step(0) != NONE, true);
        Desk.due("steps done", x.look(5), 600);
        Desk.due("not spent at 600", x.look(7), 0);
        Desk.due("some are ready", x.ready() > 0, true);
        Desk.due("none such", x.step(80), NONE);
        Desk.due("not spent by none such", x.look(7), 0);
        int[] states = states(x);
        Desk.due("one more", x.step(0), NONE);
        Desk.due("spent", x.look(7), 1);
        Desk.due("none is ready", x.ready(), 0);
        Desk.due("which(0)", x.which(0), NONE);
        Desk.due("run", x.run(1, 5), 0);
        int[] after = states(x);
        for (int i = 0; i < states.length; i++) {
            Desk.due("state " + i + " behind a step that is not done", after[i], states[i]);
        }
        Desk.due("steps done", x.look(5), 600);
        Desk.due("numbers said", x.look(6) > 200, true);
        Desk.due("said(199)", x.said(199, 0), 1);
        Desk.due("said(199, 1)", x.said(199, 1) > 0, true);
        Desk.due("said(200)", x.said(200, 0), NONE);
        Desk.due("said(200, 1)", x.said(200, 1), NONE);
        Desk.due("begin", x.begin(), true);
        Desk.due("not spent", x.look(7), 0);
        Desk.due("run over the end", x.run(11, 600), 600);
        Desk.due("not spent by 600", x.look(7), 0);
        Desk.due("run of one more", x.run(11, 1), 0);
        Desk.due("spent by it", x.look(7), 1);
    }

    private static int[] states(TalkHouse x) {
        int[] states = new int[80 * 7];
        for (int p = 0; p < 80; p++) {
            for (int what = 0; what < 7; what++) {
                states[7 * p + what] = x.process(p, what);
            }
        }
        return states;
    }

    private static void spentByProcesses() {
        TalkHouse x = Desk.taken(tree(6, 0));
        int done = x.run(5, 600);
        // some leaves are over by then, but it is those made that count
        boolean spent = x.look(7) == 1;
        Desk.due("spent", spent, true);
        Desk.due("processes made", x.look(2), 80);
        Desk.due("channels made", x.look(4), 80);
        Desk.due("steps done", x.look(5), done);
        Desk.due("process(79)", x.process(79, 1) >= 0, true);
        Desk.due("process(80)", x.process(80, 1), NONE);
        Desk.due("channel(80)", x.channel(80, 0), NONE);
        Desk.due("none is ready", x.ready(), 0);
        Desk.due("run", x.run(5, 600), 0);
    }

    private static void eightyProcesses() {
        // 0 makes 79 more: 80 in all is not too many
        String leaf = "def a()c:end=close c ";
        String ten = "def b()c:end=" + Desk.times(10, "new x=a();wait x;") + "close c ";
        String many = "def d()c:end=" + Desk.times(7, "new x=b();wait x;") + "new x=a();wait x;%close c";
        TalkHouse x = Desk.taken(leaf + ten + many.replace("%", ""));
        int all = 7 * (21 + 10) + 16 + 1 + 1;
        Desk.due("79 processes", x.run(3, 600), all);
        Desk.due("made", x.look(2), 79);
        TalkHouse y = Desk.taken(leaf + ten + many.replace("%", "new x=a();wait x;"));
        Desk.due("80 processes", y.run(3, 600), all + 3);
        Desk.due("made", y.look(2), 80);
        Desk.due("not spent", y.look(7), 0);
        Desk.due("all over", y.look(3), 0);
        TalkHouse z = Desk.taken(leaf + ten + many.replace("%", "new x=a();wait x;new x=a();wait x;"));
        Desk.due("the 81st", z.run(3, 600), all + 2);
        Desk.due("made", z.look(2), 80);
        Desk.due("spent", z.look(7), 1);
        Desk.due("steps of 0", z.process(0, 3), 18);
        Desk.due("0 has none", z.process(0, 5), 0);
        Desk.due("0 does not wait", z.process(0, 2), 0);
    }

    private static int worth(String sum) {
        TalkHouse x = Desk.taken("def f(x,y)c:end=say " + sum + ";close c def g()c:end=go f(7,-3)");
        x.run(1, 600);
        return x.said(0, 0);
    }

    private static void numbers() {
        Desk.due("0", worth("0"), 0);
        Desk.due("0012", worth("0012"), 12);
        Desk.due("9999", worth("9999"), 9999);
        Desk.due("x", worth("x"), 7);
        Desk.due("y", worth("y"), -3);
        Desk.due("-x", worth("-x"), -7);
        Desk.due("--x", worth("--x"), 7);
        Desk.due("1+2*3", worth("1+2*3"), 7);
        Desk.due("(1+2)*3", worth("(1+2)*3"), 9);
        Desk.due("10-3-2", worth("10-3-2"), 5);
        Desk.due("10-(3-2)", worth("10-(3-2)"), 9);
        Desk.due("2*3*4-5*6", worth("2*3*4-5*6"), -6);
        Desk.due("-2*3", worth("-2*3"), -6);
        Desk.due("2*-3", worth("2*-3"), -6);
        Desk.due("1--1", worth("1--1"), 2);
        Desk.due("1<2", worth("1<2"), 1);
        Desk.due("2<1", worth("2<1"), 0);
        Desk.due("1<1", worth("1<1"), 0);
        Desk.due("1==1", worth("1==1"), 1);
        Desk.due("1==2", worth("1==2"), 0);
        Desk.due("1+1==2*1", worth("1+1==2*1"), 1);
        Desk.due("x-10<y+1", worth("x-10<y+1"), 1);
        Desk.due("y<0", worth("y<0"), 1);
        Desk.due("(1<2)+(2==2)", worth("(1<2)+(2==2)"), 2);
        int most = 9999 * 9999;
        Desk.due("wraps", worth("9999*9999*9999"), most * 9999);
        Desk.due("wraps", worth("9999*9999*22"), most * 22);
        Desk.due("wraps", worth("9999*9999*20+9999*9999*20"), most * 20 + most * 20);
        Desk.due("the least int", worth("-(2*1024*1024*1024)-0"), Integer.MIN_VALUE);
        Desk.due("the least int less one", worth("2*1024*1024*1024-1"), Integer.MAX_VALUE);
        Desk.due("its order wraps not", worth("2*1024*1024*1024<0"), 1);
        Desk.due("-1 is told from NONE by look", worth("0-1"), -1);
    }

    private static void ifs() {
        TalkHouse x = Desk.taken("def f(x)c:end=if x{if x-1{say 11;close c}else{say 10;close c}}else{say 0;close c} "
            + "def g()c:end=new a=f(0);new b=f(1);new d=f(2);new e=f(-5);wait a;wait b;wait d;wait e;close c");
        x.run(1, 4);
        int all = 4 + x.run(99, 600);
        Desk.due("ifs are no steps", all, 4 * 2 + 9);
        int[] of = new int[5];
        for (int i = 0; i < 4; i++) {
            of[x.said(i, 1)] = x.said(i, 0);
        }
        Desk.due("if 0", of[1], 0);
        Desk.due("if 1", of[2], 10);
        Desk.due("if 2", of[3], 11);
        Desk.due("if -5", of[4], 11);
        TalkHouse y = Desk.taken("def f()c:end=if 0{say 1;close c}else{if 1{if 0{close c}else{say 2;close c}}else{close c}}");
        Desk.due("at its beginning", y.step(0), 0);
        Desk.due("said", y.said(0, 0), 2);
        Desk.due("the close", y.step(0), 0);
        Desk.due("over", y.process(0, 1), 1);
        TalkHouse z = Desk.taken("def a(x)c:&{l:!end,r:?end}=case c{l:if x{put c 1;close c}else{put c 2;close c}"
            + "|r:get c y;if y-x{say 5;close c}else{say 6;close c}} "
            + "def f()c:end=new a=a(0);pick a l;get a v;if v==2{wait a;new a=a(v+1);pick a r;put a 3;wait a;close c}"
            + "else{wait a;close c}");
        z.run(1, 600);
        Desk.due("all over", z.look(3), 0);
        Desk.due("said", z.said(0, 0), 6);
        TalkHouse w = Desk.taken("def e()c:end=close c def f()c:end=new x=e();if 1{wait x;close c}else{wait x;close c}");
        w.step(0);
        Desk.due("waits behind an if", w.process(0, 2), 1);
        TalkHouse v = Desk.taken("def f(x)c:end=if x{say x;close c}else{close c} def g()c:end=go f(3)");
        v.step(0);
        v.step(0);
        Desk.due("an if at the beginning of where go leads", v.said(0, 0), 3);
    }

    /** What is SAID by each PROCESS, and how many STEPS there are, does not hang on the order. */
    private static void anyOrder() {
        String text = tree(3, 3);
        for (int seed = 0; seed < 40; seed++) {
            TalkHouse x = Desk.taken(text);
            Desk.due("steps of seed " + seed, x.run(seed, 600), 8 * 4 + 7 * 5);
            Desk.due("said", x.look(6), 24);
            Desk.due("END in channel 0", x.message(0, 0, 0), 3);
        }
    }
}
