import java.util.ArrayList;
import java.util.Arrays;
import java.util.List;

/** Terms II and promises 11 to 15: both sides of each bound that the document names of RUNS. */
public final class RunEdgeTest {
    private static final int NONE = TalkHouse.NONE;
    private static final String LAST = "def z()c:end=close c";
    private static final int MOST = Integer.MAX_VALUE;
    private static final int LEAST = Integer.MIN_VALUE;

    public static void main(String[] args) {
        firstProcess();
        emptyRows();
        rowsOfGiven();
        channelZero();
        nextNumbers();
        joins();
        intsThatWrap();
        ifs();
        ifsAtBeginnings();
        processEighty();
        allChannelsDown();
        allChannelsUp();
        longestChain();
        mostMessages();
        sixHundredSteps();
        spentByRun();
        spentBeforeNew();
        begins();
        readyAndWhich();
        steps();
        runsOfSomeSteps();
        draws();
        Desk.finish();
    }

    /** The PROCESS does a STEP, wherever it stands among those that are ready. */
    private static void stepOf(TalkHouse x, int p) {
        for (int k = 0; k < x.ready(); k++) {
            if (x.which(k) == p) {
                Desk.due("step of " + p, x.step(k), p);
                return;
            }
        }
        Desk.due("is ready: " + p + " behind " + x.look(5), false, true);
    }

    private static void rows(TalkHouse x, int c, int down, int up, int joined) {
        Desk.due("DOWN of " + c + " behind " + x.look(5), x.channel(c, 0), down);
        Desk.due("UP of " + c + " behind " + x.look(5), x.channel(c, 1), up);
        Desk.due("joined " + c + " behind " + x.look(5), x.channel(c, 2), joined);
    }

    private static void firstProcess() {
        Desk.sentence("RUNS begin with PROCESS 0: the last DEF, which GIVES CHANNEL 0");
        StringBuilder text = new StringBuilder();
        for (char k = 'a'; k <= 'l'; k++) {
            text.append("def ").append(k).append("()c:end=close c ");
            TalkHouse x = Desk.taken(text.toString());
            Desk.due("PROCESSES", x.look(2), 1);
            Desk.due("CHANNELS", x.look(4), 1);
            Desk.due("its DEF", x.process(0, 0), k - 'a');
            Desk.due("its CHANNEL", x.process(0, 4), 0);
            Desk.due("it HAS", x.process(0, 5), 0);
            Desk.due("PROCESS 1", x.process(1, 0), NONE);
            Desk.due("CHANNEL 1", x.channel(1, 0), NONE);
            rows(x, 0, 0, 0, 0);
        }
    }

    /** Whoever takes a MESSAGE of what it HAS: it WAITS without one, and is ready with one. */
    private static void emptyRows() {
        Desk.sentence("get, take, case, wait take the first one, which must be there: else it WAITS");
        String types = "type t=+{a:end};";
        String[] gives = {"!end", ">end.end", "t", "end"};
        String[] says = {"put c 1;close c", "new h=e();send c h;close c", "pick c a;close c", "close c"};
        int[] before = {0, 1, 0, 0};
        String[] takes = {"get d x;wait d;close c", "take d x;wait d;wait x;close c", "case d{a:wait d;close c}",
            "wait d;close c"};
        for (int i = 0; i < gives.length; i++) {
            TalkHouse x = Desk.taken(types + "def e()c:end=close c def f()c:" + gives[i] + "=" + says[i]
                + " def g()c:end=new d=f();" + takes[i]);
            Desk.due("a new does not wait", x.process(0, 2), 0);
            stepOf(x, 0);
            for (int k = 0; k <= before[i]; k++) {
                rows(x, 1, 0, 0, 0);
                Desk.due("WAITS with none, " + takes[i], x.process(0, 2), 1);
                Desk.due("the other one does not", x.process(1, 2), 0);
                Desk.due("PROCESS 1 is the first that is ready", x.which(0), 1);
                stepOf(x, 1);
            }
            rows(x, 1, 1, 0, 0);
            Desk.due("waits no more with one, " + takes[i], x.process(0, 2), 0);
            Desk.due("PROCESS 0 is ready", x.which(0), 0);
            stepOf(x, 0);
            rows(x, 1, 0, 0, 0);
            x.run(5, 600);
            Desk.due("all over", x.look(3), 0);
        }
        // one MESSAGE is enough, a second one changes nothing, and both come in their order
        TalkHouse y = Desk.taken("def f()c:!!end=put c 1;put c 2;close c def g()c:end=new d=f();get d x;get d y;"
            + "say x;say y;wait d;close c");
        for (int p : new int[] {0, 1, 1, 1}) {
            stepOf(y, p);
        }
        rows(y, 1, 3, 0, 0);
        stepOf(y, 0);
        rows(y, 1, 2, 0, 0);
        Desk.due("steps", y.run(1, 600), 5);
        Desk.due("the first", y.said(0, 0), 1);
        Desk.due("the second", y.said(1, 0), 2);
    }

    /** Whoever takes a MESSAGE of what it GIVES: what lies UP counts, not what it has laid DOWN itself. */
    private static void rowsOfGiven() {
        Desk.sentence("two rows: from the PROCESS that gives it (DOWN) and from the one that has it (UP)");
        String types = "type t=!&{a:end};";
        String[] gives = {"!?end", "!<end.end", "t"};
        String[] takes = {"put c 5;get c x;close c", "put c 5;take c x;wait x;close c", "put c 5;case c{a:close c}"};
        String[] says = {"put d 1", "new h=e();send d h", "pick d a"};
        int[] before = {0, 1, 0};
        for (int i = 0; i < gives.length; i++) {
            TalkHouse x = Desk.taken(types + "def e()c:end=close c def f()c:" + gives[i] + "=" + takes[i]
                + " def g()c:end=new d=f();get d y;" + says[i] + ";wait d;close c");
            stepOf(x, 0);
            stepOf(x, 1);
            rows(x, 1, 1, 0, 0);
            Desk.due("WAITS though one lies DOWN, " + takes[i], x.process(1, 2), 1);
            stepOf(x, 0);
            for (int k = 0; k <= before[i]; k++) {
                Desk.due("WAITS with none UP, " + takes[i], x.process(1, 2), 1);
                stepOf(x, 0);
            }
            rows(x, 1, 0, 1, 0);
            Desk.due("waits no more, " + takes[i], x.process(1, 2), 0);
            Desk.due("what lies UP is not for the one that has it", x.process(0, 2), 1);
            stepOf(x, 1);
            rows(x, 1, 0, 0, 0);
            x.run(5, 600);
            Desk.due("all over", x.look(3), 0);
        }
    }

    private static void channelZero() {
        Desk.sentence("a get, take, case of what it gives WAITS for ever");
        for (String body : new String[] {"?end=get c x;close c", "<end.end=take c x;wait x;close c",
            "&{a:end}=case c{a:close c}"}) {
            TalkHouse x = Desk.taken("def f()c:!" + body.replace("=", "=put c 3;"));
            Desk.due("the put", x.run(9, 600), 1);
            Desk.due("ready", x.ready(), 0);
            Desk.due("which(0)", x.which(0), NONE);
            Desk.due("step(0)", x.step(0), NONE);
            Desk.due("WAITS", x.process(0, 2), 1);
            Desk.due("not OVER", x.process(0, 1), 0);
            Desk.due("not SPENT", x.look(7), 0);
            Desk.due("those not OVER", x.look(3), 1);
            Desk.due("run", x.run(9, 600), 0);
        }
        Desk.sentence("What comes out of CHANNEL 0 lies there DOWN");
        TalkHouse y = Desk.taken("def e()c:end=close c def f()c:!>end.+{ab:end}=put c 0-7;new d=e();send c d;pick c ab;close c");
        for (int p : new int[] {0, 0, 0, 0, 0}) {
            stepOf(y, p);
        }
        rows(y, 0, 4, 0, 0);
        int[][] due = {{0, -7}, {1, 1}, {2, 2}, {3, 0}};
        for (int i = 0; i < due.length; i++) {
            Desk.due("kind of " + i, y.message(0, i, 0), due[i][0]);
            Desk.due("MESSAGE " + i, y.message(0, i, 1), due[i][1]);
        }
        Desk.due("no MESSAGE 4", y.message(0, 4, 0), NONE);
    }

    private static void nextNumbers() {
        Desk.sentence("new: a PROCESS more (the next number) with a CHANNEL more (the next number), which it gives");
        TalkHouse x = Desk.taken("def e()c:end=close c def f()c:end=new d=e();new b=e();wait d;wait b;close c "
            + "def g()c:end=new d=f();new b=f();wait d;wait b;close c");
        int[] order = {0, 0, 2, 1, 2, 1};
        int[] defs = {1, 1, 0, 0, 0, 0};
        for (int i = 0; i < order.length; i++) {
            stepOf(x, order[i]);
            Desk.due("PROCESSES made", x.look(2), i + 2);
            Desk.due("CHANNELS made", x.look(4), i + 2);
            Desk.due("DEF of " + (i + 1), x.process(i + 1, 0), defs[i]);
            Desk.due("CHANNEL of " + (i + 1), x.process(i + 1, 4), i + 1);
            Desk.due("not there: " + (i + 2), x.process(i + 2, 0), NONE);
            Desk.due("not there: CHANNEL " + (i + 2), x.channel(i + 2, 0), NONE);
        }
    }

    private static String named(int n, String each) {
        StringBuilder text = new StringBuilder();
        for (int i = 0; i < n; i++) {
            text.append(each.replace("%", "" + (char) ('p' + i)).replace("#", "" + (i + 1)));
        }
        return text.toString();
    }

    private static List<Integer> saidBy(TalkHouse x, int p) {
        List<Integer> said = new ArrayList<>();
        for (int i = 0; x.said(i, 1) != NONE; i++) {
            if (x.said(i, 1) == p) {
                said.add(x.said(i, 0));
            }
        }
        return said;
    }

    private static List<Integer> count(int tens, int from, int to) {
        List<Integer> all = new ArrayList<>();
        for (int i = from; i <= to; i++) {
            all.add(10 * tens + i);
        }
        return all;
    }

    /**
     * PROCESS 1 joins its CHANNEL 1, which 0 has, with CHANNEL 2, which 2 gives. It laid so many DOWN, of which
     * some are taken, and so many UP, of which some are taken; talk tells what then goes over the one, and late
     * how much of it was laid ahead of the join.
     */
    private static void join(String talk, int down, int downTaken, int up, int upTaken, int late) {
        boolean falls = talk.equals("!!end");
        String q = "def q()d:" + Desk.times(up, "?") + talk + "=" + named(up, "get d %;")
            + (falls ? "put d 71;put d 72;" : "get d x;get d y;") + named(up, "say %;")
            + (falls ? "" : "say x;say y;") + "close d ";
        String p = "def p()c:" + Desk.times(down, "!") + talk + "=new d=q();" + named(down, "put c 1#;")
            + named(up, "put d 2#;") + "same c d ";
        String m = "def m()c:end=new e=p();" + named(down, "get e %;") + (falls ? "get e x;get e y;" : "put e 31;put e 32;")
            + named(down, "say %;") + (falls ? "say x;say y;" : "") + "wait e;close c";
        TalkHouse x = Desk.taken(q + p + m);
        stepOf(x, 0);
        for (int i = 0; i < 1 + down + up; i++) {
            stepOf(x, 1);
        }
        for (int i = 0; i < downTaken + (falls ? 0 : late); i++) {
            stepOf(x, 0);
        }
        for (int i = 0; i < upTaken + (falls ? late : 0); i++) {
            stepOf(x, 2);
        }
        int lateDown = falls ? late : 0;
        int lateUp = falls ? 0 : late;
        rows(x, 1, down - downTaken, lateUp, 0);
        rows(x, 2, lateDown, up - upTaken, 0);
        stepOf(x, 1);
        rows(x, 0, 0, 0, 0);
        List<Integer> lie = count(1, downTaken + 1, down);
        lie.addAll(count(7, 1, lateDown));
        for (int c = 1; c <= 2; c++) {
            rows(x, c, lie.size(), up - upTaken + lateUp, c - 1);
            for (int i = 0; i < lie.size(); i++) {
                Desk.due("MESSAGE " + i + " of " + c, x.message(c, i, 1), lie.get(i));
            }
            Desk.due("no MESSAGE more", x.message(c, lie.size(), 0), NONE);
        }
        Desk.due("PROCESS 1 is OVER", x.process(1, 1), 1);
        Desk.due("PROCESS 2 gives the one given", x.process(2, 4), 1);
        Desk.due("PROCESS 0 has one", x.process(0, 5), 1);
        x.run(down + 3 * up, 600);
        Desk.due("all over", x.look(3), 0);
        List<Integer> above = count(1, 1, down);
        above.addAll(count(7, 1, falls ? 2 : 0));
        List<Integer> below = count(2, 1, up);
        below.addAll(count(3, 1, falls ? 0 : 2));
        Desk.due("what came DOWN", saidBy(x, 0).toString(), above.toString());
        Desk.due("what came UP", saidBy(x, 2).toString(), below.toString());
    }

    private static void joins() {
        Desk.sentence("same: DOWN its own MESSAGES, then the other's; UP the other's, then its own (each row empty or not)");
        for (int down = 0; down <= 2; down++) {
            for (int downTaken = 0; downTaken <= down; downTaken++) {
                for (int up = 0; up <= 2; up++) {
                    for (int upTaken = 0; upTaken <= up; upTaken++) {
                        for (int late = 0; late <= 2; late++) {
                            if (late == 0 || upTaken == up) {
                                join("!!end", down, downTaken, up, upTaken, late);
                            }
                            if (late == 0 || downTaken == down) {
                                join("??end", down, downTaken, up, upTaken, late);
                            }
                        }
                    }
                }
            }
        }
    }

    private static int worth(String sum) {
        String big = "def f(m,l)c:end=say " + sum + ";close c def g()c:end=go f(2*1024*1024*1024-1,-2*1024*1024*1024)";
        TalkHouse x = Desk.taken(big);
        x.run(1, 600);
        return x.said(0, 0);
    }

    private static void intsThatWrap() {
        Desk.sentence("E: ints, which wrap; < and == 1 or 0");
        Desk.due("most", worth("m"), MOST);
        Desk.due("least", worth("l"), LEAST);
        Desk.due("m+1", worth("m+1"), LEAST);
        Desk.due("m-1+1", worth("m-1+1"), MOST);
        Desk.due("l-1", worth("l-1"), MOST);
        Desk.due("l+1-1", worth("l+1-1"), LEAST);
        Desk.due("m+m", worth("m+m"), -2);
        Desk.due("l+l", worth("l+l"), 0);
        Desk.due("-l", worth("-l"), LEAST);
        Desk.due("-m", worth("-m"), -MOST);
        Desk.due("0-l", worth("0-l"), LEAST);
        Desk.due("m*2", worth("m*2"), -2);
        Desk.due("l*-1", worth("l*-1"), LEAST);
        Desk.due("m*m", worth("m*m"), 1);
        Desk.due("l*l", worth("l*l"), 0);
        Desk.due("9999*9999*9999*9999", worth("9999*9999*9999*9999"), 9999 * 9999 * 9999 * 9999);
        Desk.due("l<m", worth("l<m"), 1);
        Desk.due("m<l", worth("m<l"), 0);
        Desk.due("m<m", worth("m<m"), 0);
        Desk.due("m<m+1", worth("m<m+1"), 0);
        Desk.due("l-1<l", worth("l-1<l"), 0);
        Desk.due("l<l+1", worth("l<l+1"), 1);
        Desk.due("m-1<m", worth("m-1<m"), 1);
        Desk.due("-1<0", worth("-1<0"), 1);
        Desk.due("0<-1", worth("0<-1"), 0);
        Desk.due("0<0", worth("0<0"), 0);
        Desk.due("0<1", worth("0<1"), 1);
        Desk.due("m+1==l", worth("m+1==l"), 1);
        Desk.due("m==l", worth("m==l"), 0);
        Desk.due("l==-l", worth("l==-l"), 1);
        Desk.due("0==-0", worth("0==-0"), 1);
        Desk.due("1==-1", worth("1==-1"), 0);
    }

    private static void ifs() {
        Desk.sentence("it goes on as the first P, if E is not 0, else as the second one");
        String[] sums = {"0", "1", "2", "-1", "0-0", "1-1", "1-2", "0*9999", "1<2", "2<1", "2==2", "2==1", "-0",
            "2*1024*1024*1024", "4*1024*1024*1024", "4*1024*1024*1024+1", "65*65-4225", "9999"};
        int[] due = {0, 1, 1, 1, 0, 0, 1, 0, 1, 0, 1, 0, 0, 1, 0, 1, 0, 1};
        for (int i = 0; i < sums.length; i++) {
            TalkHouse x = Desk.taken("def f()c:end=say 5;if " + sums[i] + "{say 1;close c}else{say 0;close c}");
            Desk.due("steps", x.run(1, 600), 3);
            Desk.due("if " + sums[i], x.said(1, 0), due[i]);
        }
        // E is worked out when the PROCESS comes to it
        TalkHouse y = Desk.taken("def f()c:??end=get c x;get c y;if x-y{say x;close c}else{say 7;close c} "
            + "def g()c:end=new d=f();put d 3;put d 3;wait d;new d=f();put d 3;put d 4;wait d;close c");
        y.run(1, 600);
        Desk.due("3, 3", y.said(0, 0), 7);
        Desk.due("3, 4", y.said(1, 0), 3);
    }

    private static void ifsAtBeginnings() {
        Desk.sentence("An if is no STEP: as the PROCESS comes to it (at its beginning, too)");
        String choose = "if x{say 1;close c}else{if x==0{say 0;close c}else{close c}}";
        TalkHouse x = Desk.taken("def f()c:end=" + choose.replace("x==0", "1").replace("x", "0"));
        for (int i = 0; i < 2; i++) {
            Desk.due("no step", x.look(5), 0);
            Desk.due("ready", x.ready(), 1);
            Desk.due("does not wait", x.process(0, 2), 0);
            Desk.due("step", x.step(0), 0);
            Desk.due("said", x.said(0, 0), 0);
            Desk.due("steps of 0", x.process(0, 3), 1);
            Desk.due("step", x.step(0), 0);
            Desk.due("steps", x.look(5), 2);
            Desk.due("begin", x.begin(), true);
        }
        TalkHouse y = Desk.taken("def f(x)c:end=" + choose + " def g()c:end=new a=f(3);new b=f(0);wait a;wait b;go f(4)");
        for (int p : new int[] {0, 0}) {
            stepOf(y, p);
        }
        Desk.due("no step of 1", y.process(1, 3), 0);
        Desk.due("no step of 2", y.process(2, 3), 0);
        for (int p : new int[] {1, 2, 1, 2, 0, 0, 0, 0, 0}) {
            stepOf(y, p);
        }
        int[] said = {1, 0, 1};
        for (int i = 0; i < said.length; i++) {
            Desk.due("said(" + i + ")", y.said(i, 0), said[i]);
        }
        Desk.due("steps of 0", y.process(0, 3), 7);
        Desk.due("steps of 1", y.process(1, 3), 2);
        Desk.due("steps of 2", y.process(2, 3), 2);
        // that which it comes to can WAIT
        TalkHouse z = Desk.taken("def f()c:?end=if 1{get c x;close c}else{get c y;close c} def g()c:end=new d=f();"
            + "if 0{put d 1;wait d;close c}else{put d 2;wait d;close c}");
        stepOf(z, 0);
        Desk.due("WAITS behind an if at its beginning", z.process(1, 2), 1);
        Desk.due("0 does not", z.process(0, 2), 0);
        Desk.due("steps", z.run(1, 600), 5);
        // eight, one within another
        TalkHouse w = Desk.taken("def f()c:end=" + Desk.times(8, "if 0{close c}else{") + "say 8;close c" + Desk.times(8, "}"));
        Desk.due("steps", w.run(1, 600), 2);
        Desk.due("said", w.said(0, 0), 8);
        Desk.due("the least", w.def(0, 3), 1);
        TalkHouse v = Desk.taken("def f()c:end=say 9;" + Desk.times(8, "if 1{") + "say 8;close c" + Desk.times(8, "}else{close c}"));
        Desk.due("steps", v.run(1, 600), 3);
        Desk.due("said", v.said(1, 0), 8);
    }

    private static void processEighty() {
        Desk.sentence("A STEP that would make PROCESS 80 is not done: the run is SPENT");
        String ten = named(10, "new %=a();").replace("new z", "new k") + named(10, "wait %;").replace("wait z", "wait k");
        String eight = named(8, "new %=b();") + named(8, "wait %;");
        String text = "def a()c:end=say 1;close c def b()c:end=" + ten + "close c def f()c:end=" + eight + "close c";
        TalkHouse x = Desk.taken(text);
        for (int i = 0; i < 8; i++) {
            stepOf(x, 0);
        }
        for (int p = 1; p <= 7; p++) {
            for (int i = 0; i < 10; i++) {
                stepOf(x, p);
            }
        }
        Desk.due("PROCESSES 0 to 78", x.look(2), 79);
        stepOf(x, 8);
        Desk.due("PROCESSES 0 to 79", x.look(2), 80);
        Desk.due("not SPENT by PROCESS 79", x.look(7), 0);
        Desk.due("PROCESS 79", x.process(79, 4), 79);
        Desk.due("CHANNEL 79", x.channel(79, 2), 0);
        Desk.due("ready: those of a, and PROCESS 8", x.ready(), 72);
        Desk.due("which(0)", x.which(0), 8);
        stepOf(x, 79);
        Desk.due("another STEP is done", x.look(5), 80);
        int[] before = states(x);
        Desk.due("PROCESS 80 is not made", x.step(0), NONE);
        Desk.due("SPENT", x.look(7), 1);
        Desk.due("PROCESSES", x.look(2), 80);
        Desk.due("CHANNELS", x.look(4), 80);
        Desk.due("those not OVER", x.look(3), 80);
        Desk.due("steps", x.look(5), 80);
        Desk.due("said", x.look(6), 1);
        Desk.due("ready", x.ready(), 0);
        Desk.due("which(0)", x.which(0), NONE);
        Desk.due("step(0)", x.step(0), NONE);
        Desk.due("run", x.run(1, 600), 0);
        Desk.due("the state stays", Arrays.equals(before, states(x)), true);
        Desk.due("PROCESS 8 does not WAIT", x.process(8, 2), 0);
        Desk.due("PROCESS 0 WAITS", x.process(0, 2), 1);
        Desk.due("steps of 8", x.process(8, 3), 1);
        Desk.due("PROCESS 80", x.process(80, 0), NONE);
        Desk.due("CHANNEL 80", x.channel(80, 0), NONE);
        Desk.due("a text with a fault", Desk.load(x, "def"), NONE);
        Desk.due("SPENT still", x.look(7), 1);
        Desk.due("ready still", x.ready(), 0);
        Desk.due("begin", x.begin(), true);
        Desk.due("SPENT no more", x.look(7), 0);
        Desk.due("ready", x.ready(), 1);
        Desk.due("PROCESSES", x.look(2), 1);
        // run comes to it, too: the STEP that is not done is not counted
        int done = x.run(77, 600);
        Desk.due("SPENT by run", x.look(7), 1);
        Desk.due("steps", x.look(5), done);
        Desk.due("PROCESSES", x.look(2), 80);
        Desk.load(x, LAST);
        Desk.due("another text", x.look(7), 0);
        Desk.due("ready", x.ready(), 1);
    }

    private static int[] states(TalkHouse x) {
        int[] states = new int[80 * 10];
        for (int p = 0; p < 80; p++) {
            for (int what = 0; what < 10; what++) {
                states[10 * p + what] = what < 7 ? x.process(p, what) : x.channel(p, what - 7);
            }
        }
        return states;
    }

    /** PROCESSES 0 to 79: 8 of b, each with 8 of a, and 7 more of a; each a has a number of its own, from 0 on. */
    private static String eightyTalks(String leaf, String talk, String says) {
        StringBuilder text = new StringBuilder(leaf + " def b(x)c:end=");
        for (int i = 0; i < 8; i++) {
            text.append(talk.replace("#", "x+" + i).replace("%", "" + (char) ('p' + i)));
        }
        text.append(named(8, says)).append("close c def f()c:end=");
        for (int i = 0; i < 8; i++) {
            text.append("new d=b(").append(8 * i).append(");wait d;");
        }
        for (int i = 0; i < 7; i++) {
            text.append(talk.replace("#", "" + (64 + i)).replace("%", "" + (char) ('p' + i)));
        }
        return text + named(7, says) + "close c";
    }

    private static void allChannelsDown() {
        Desk.sentence("PROCESS 79 and CHANNEL 79 are there, and MESSAGES go DOWN in all of them");
        TalkHouse x = Desk.taken(eightyTalks("def a(x)c:!end=put c x;close c", "new d=a(#);get d %;wait d;", "say %;"));
        Desk.due("all STEPS", x.run(1, 600), 71 * 5 + 8 * 9 + 16 + 8);
        Desk.due("PROCESSES", x.look(2), 80);
        Desk.due("CHANNELS", x.look(4), 80);
        Desk.due("not SPENT", x.look(7), 0);
        Desk.due("all OVER", x.look(3), 0);
        for (int i = 0; i < 71; i++) {
            Desk.due("said(" + i + ", 0)", x.said(i, 0), i);
        }
        Desk.due("said(71, 0)", x.said(71, 0), NONE);
    }

    private static void allChannelsUp() {
        Desk.sentence("PROCESS 79 and CHANNEL 79 are there, and MESSAGES go UP in all of them");
        TalkHouse x = Desk.taken(eightyTalks("def a()c:?end=get c x;say x;close c", "new d=a();put d #;wait d;", ""));
        Desk.due("all STEPS", x.run(1, 600), 71 * 6 + 8 + 16 + 1);
        Desk.due("PROCESSES", x.look(2), 80);
        Desk.due("CHANNELS", x.look(4), 80);
        Desk.due("all OVER", x.look(3), 0);
        for (int i = 0; i < 71; i++) {
            Desk.due("said(" + i + ", 0)", x.said(i, 0), i);
            int by = i < 64 ? i + 2 + i / 8 : i + 9;
            Desk.due("said(" + i + ", 1)", x.said(i, 1), by);
        }
    }

    /** PROCESS 1 gives what all of 2 to 79 hand on, each to the next one. */
    private static void longestChain() {
        Desk.sentence("same: the CHANNEL given and the other become one; whoever has or gives the other has that one");
        StringBuilder hands = new StringBuilder();
        String[] both = {"new b=s(a);", "new a=s(b);"};
        for (int i = 0; i < 39; i++) {
            hands.append(both[i % 2]);
        }
        String more = hands.toString().replace("a", "#").replace("b", "a").replace("#", "b");
        String text = "def e()c:!end=put c 5;close c def s(d:!end)c:!end=same c d def g(b:!end)c:end=" + more
            + "get a x;say x;wait a;close c def f()c:end=new a=e();" + hands + "go g(b)";
        TalkHouse x = Desk.taken(text);
        for (int seed = -2; seed < 8; seed++) {
            x.begin();
            for (int i = 0; i < 80; i++) {
                stepOf(x, 0);
            }
            Desk.due("PROCESSES", x.look(2), 80);
            Desk.due("PROCESS 0 WAITS", x.process(0, 2), 1);
            if (seed >= 0) {
                Desk.due("all but PROCESS 0", x.run(seed, 80), 80);
            } else {
                for (int i = 2; i <= 79; i++) {
                    stepOf(x, seed == -1 ? i : 81 - i);
                    Desk.due("PROCESS 1 gives", x.process(1, 4), seed == -1 ? i : i == 79 ? 79 : 1);
                }
                stepOf(x, 1);
                stepOf(x, 1);
            }
            for (int c = 1; c <= 79; c++) {
                rows(x, c, seed >= 0 ? x.channel(79, 0) : 2, 0, c == 79 ? 0 : 1);
                Desk.due("MESSAGE 0 of " + c, x.message(c, 0, 1), x.message(79, 0, 1));
            }
            x.run(3, 600);
            Desk.due("steps", x.look(5), 80 + 78 + 2 + 4);
            Desk.due("said", x.said(0, 0), 5);
            Desk.due("all OVER", x.look(3), 0);
        }
    }

    /** 14 PROCESSES lay 36 numbers and the END each, and nobody takes any until all are laid. */
    private static void mostMessages() {
        Desk.sentence("put, send, pick, close lay a MESSAGE behind the others, however many lie there");
        StringBuilder puts = new StringBuilder();
        StringBuilder gets = new StringBuilder();
        for (int i = 0; i < 36; i++) {
            puts.append("put c").append(i % 10).append(';');
            gets.append("get p ").append((char) ('q' + i / 12)).append((char) ('a' + i % 12)).append(';');
        }
        StringBuilder news = new StringBuilder();
        StringBuilder waits = new StringBuilder();
        for (char k = 'd'; k < 'd' + 14; k++) {
            news.append("new ").append(k).append("=m();");
            waits.append("wait ").append(k).append(';');
        }
        String shut = Desk.times(12, "!");
        TalkHouse x = Desk.taken("type a=" + shut + "end;type b=" + shut + "a;type d=" + shut + "b;def a()c:d=" + puts
            + "close c def k(p:d)c:end=" + gets + "wait p;close c def m()c:end=new p=a();new q=k(p);wait q;close c "
            + "def z()c:end=" + news + waits + "close c");
        for (int i = 0; i < 14; i++) {
            stepOf(x, 0);
        }
        for (int p = 1; p <= 14; p++) {
            stepOf(x, p);
            stepOf(x, p);
        }
        for (int i = 0; i < 37; i++) {
            for (int p = 15; p < 43; p += 2) {
                stepOf(x, p);
            }
        }
        for (int c = 15; c < 43; c += 2) {
            rows(x, c, 37, 0, 0);
            for (int i = 0; i <= 37; i++) {
                Desk.due("kind of " + i + " in " + c, x.message(c, i, 0), i < 36 ? 0 : i == 36 ? 3 : NONE);
                Desk.due("MESSAGE " + i + " in " + c, x.message(c, i, 1), i < 36 ? i % 10 : i == 36 ? 0 : NONE);
            }
        }
        for (int i = 0; i < 3; i++) {
            stepOf(x, 42);
            stepOf(x, 16);
            Desk.due("the first of 41", x.message(41, 0, 1), i + 1);
            Desk.due("the first of 15", x.message(15, 0, 1), i + 1);
        }
        Desk.due("up to 600", x.run(1, 600), 600 - 14 * 40 - 6);
        Desk.due("SPENT", x.look(7), 1);
    }

    /** One after another: 11 times 49 STEPS, and 22 + says + 1 of PROCESS 0. */
    private static String long600(int says) {
        return "def a()c:end=" + Desk.times(9, "say1;") + "close c def b()c:end=" + Desk.times(4, "new x=a();wait x;")
            + "close c def f()c:end=" + Desk.times(11, "new x=b();wait x;") + Desk.times(says, "say1;") + "close c";
    }

    private static void sixHundredSteps() {
        Desk.sentence("SPENT; so is one that has done 600 STEPS and would do one more");
        for (int says = 36; says <= 38; says++) {
            TalkHouse x = Desk.taken(long600(says));
            Desk.due("all its STEPS", x.run(4, 600), 562 + says);
            Desk.due("all OVER", x.look(3), 0);
            Desk.due("steps", x.look(5), 562 + says);
            Desk.due("not SPENT", x.look(7), 0);
            Desk.due("ready", x.ready(), 0);
            Desk.due("no STEP more", x.step(0), NONE);
            Desk.due("no STEP more by run", x.run(1, 600), 0);
            Desk.due("not SPENT by those that are none", x.look(7), 0);
        }
        TalkHouse y = Desk.taken(long600(39));
        Desk.due("600 of 601", y.run(4, 600), 600);
        Desk.due("steps", y.look(5), 600);
        Desk.due("not SPENT", y.look(7), 0);
        Desk.due("ready", y.ready(), 1);
        Desk.due("which(0)", y.which(0), 0);
        Desk.due("none such", y.step(1), NONE);
        Desk.due("none such", y.step(-1), NONE);
        Desk.due("run of none", y.run(1, 0), 0);
        Desk.due("run of too many", y.run(1, 601), NONE);
        Desk.due("not SPENT by those", y.look(7), 0);
        Desk.due("one more", y.step(0), NONE);
        Desk.due("SPENT", y.look(7), 1);
        Desk.due("ready", y.ready(), 0);
        Desk.due("which(0)", y.which(0), NONE);
        Desk.due("steps", y.look(5), 600);
        Desk.due("not OVER", y.process(0, 1), 0);
        Desk.due("does not WAIT", y.process(0, 2), 0);
        Desk.due("steps of 0", y.process(0, 3), 22 + 39);
        Desk.due("its CHANNEL is empty", y.channel(0, 0), 0);
        Desk.due("begin", y.begin(), true);
        Desk.due("599", y.run(4, 599), 599);
        Desk.due("STEP 600", y.step(0), 0);
        Desk.due("not SPENT", y.look(7), 0);
        Desk.due("STEP 601", y.step(0), NONE);
        Desk.due("SPENT", y.look(7), 1);
    }

    private static void spentByRun() {
        Desk.sentence("run: STEPS up to n, until none is ready: how many; a STEP that is not done is none");
        TalkHouse x = Desk.taken(long600(39));
        Desk.due("the first 300", x.run(4, 300), 300);
        Desk.due("the other 300", x.run(4, 300), 300);
        Desk.due("not SPENT", x.look(7), 0);
        Desk.due("one more", x.run(4, 1), 0);
        Desk.due("SPENT", x.look(7), 1);
        x.begin();
        Desk.due("the first 300", x.run(4, 300), 300);
        Desk.due("up to 301", x.run(4, 301), 300);
        Desk.due("SPENT", x.look(7), 1);
        Desk.due("steps", x.look(5), 600);
    }

    private static void spentBeforeNew() {
        Desk.sentence("SPENT; so is one that has done 600 STEPS and would do one more: a new, too");
        String text = long600(38);
        TalkHouse x = Desk.taken(text.substring(0, text.length() - 7) + "new x=a();wait x;close c");
        Desk.due("a new as STEP 600", x.run(4, 600), 600);
        Desk.due("PROCESSES", x.look(2), 57);
        Desk.due("not SPENT", x.look(7), 0);
        Desk.due("ready", x.ready(), 1);
        TalkHouse z = Desk.taken(text.substring(0, text.length() - 7) + "say1;new x=a();wait x;close c");
        Desk.due("600 ahead of a new", z.run(4, 600), 600);
        Desk.due("not SPENT", z.look(7), 0);
        Desk.due("ready", z.ready(), 1);
        Desk.due("a new as STEP 601", z.step(0), NONE);
        Desk.due("SPENT", z.look(7), 1);
        Desk.due("PROCESSES", z.look(2), 56);
        Desk.due("CHANNELS", z.look(4), 56);
    }

    private static void begins() {
        Desk.sentence("begin: The run begins anew: true; false without a text");
        TalkHouse x = new TalkHouse();
        Desk.due("begin", x.begin(), false);
        Desk.load(x, LAST + " def");
        Desk.due("begin behind a fault", x.begin(), false);
        Desk.due("no PROCESS", x.look(2), 0);
        Desk.due("ready", x.ready(), 0);
        Desk.load(x, LAST);
        Desk.due("begin", x.begin(), true);
        Desk.load(x, "!");
        Desk.due("begin with the text of before", x.begin(), true);
        Desk.due("step", x.step(0), 0);
        Desk.due("OVER", x.process(0, 1), 1);
        Desk.due("begin at the end", x.begin(), true);
        Desk.due("not OVER", x.process(0, 1), 0);
        Desk.due("begin at the beginning", x.begin(), true);
        Desk.due("no steps", x.look(5), 0);
        Desk.due("nothing DOWN", x.channel(0, 0), 0);
    }

    private static void readyAndWhich() {
        Desk.sentence("ready: How many can do a STEP now (0 if SPENT). which: NONE if there is none such");
        TalkHouse x = Desk.taken("def e()c:end=close c def f()c:end=" + named(5, "new %=e();") + named(5, "wait %;") + "close c");
        for (int i = 0; i <= 5; i++) {
            int ready = i < 5 ? i + 1 : 5;
            Desk.due("ready", x.ready(), ready);
            for (int k = 0; k < ready; k++) {
                Desk.due("which(" + k + ")", x.which(k), i < 5 ? k : k + 1);
            }
            for (int k : new int[] {ready, ready + 1, 79, 80, 600, MOST, -1, -2, LEAST}) {
                Desk.due("which(" + k + ")", x.which(k), NONE);
            }
            if (i < 5) {
                x.step(0);
            }
        }
        // those that are OVER or WAIT are none of them
        stepOf(x, 3);
        int[] due = {1, 2, 4, 5};
        for (int k = 0; k < due.length; k++) {
            Desk.due("which(" + k + ")", x.which(k), due[k]);
        }
        Desk.due("which(4)", x.which(4), NONE);
        stepOf(x, 1);
        Desk.due("PROCESS 0 has what it waits for", x.which(0), 0);
        Desk.due("ready", x.ready(), 4);
    }

    private static void steps() {
        Desk.sentence("step: its number; NONE, and nothing happens: there is none such");
        TalkHouse x = Desk.taken("def e()c:end=close c def f()c:end=new p=e();new q=e();wait p;wait q;close c");
        for (int k : new int[] {1, 2, 79, 80, MOST, -1, LEAST}) {
            Desk.due("step(" + k + ")", x.step(k), NONE);
        }
        Desk.due("nothing happened", x.look(5), 0);
        Desk.due("not SPENT", x.look(7), 0);
        Desk.due("step(0)", x.step(0), 0);
        Desk.due("step(2) of two", x.step(2), NONE);
        Desk.due("one STEP", x.look(5), 1);
        Desk.due("step(1)", x.step(1), 1);
        Desk.due("step(1) of one", x.step(1), NONE);
        Desk.due("step(0)", x.step(0), 0);
        Desk.due("step(1)", x.step(1), 2);
        Desk.due("four STEPS", x.look(5), 4);
        for (int i = 0; i < 3; i++) {
            Desk.due("step(0)", x.step(0), 0);
        }
        for (int k : new int[] {0, 1, -1, MOST, LEAST}) {
            Desk.due("step at the end", x.step(k), NONE);
        }
        Desk.due("seven STEPS", x.look(5), 7);
        Desk.due("not SPENT at the end", x.look(7), 0);
    }

    private static void runsOfSomeSteps() {
        Desk.sentence("run: up to n (0 .. 600); until none is ready, or n are done: how many. NONE for another n");
        TalkHouse x = Desk.taken(long600(0));
        for (int n : new int[] {-1, -2, -600, LEAST, 601, 602, 1200, MOST}) {
            Desk.due("run(1, " + n + ")", x.run(1, n), NONE);
            Desk.due("nothing happened", x.look(5), 0);
        }
        Desk.due("run(1, 0)", x.run(1, 0), 0);
        Desk.due("nothing happened", x.look(5), 0);
        Desk.due("run(1, 1)", x.run(1, 1), 1);
        Desk.due("run(1, 2)", x.run(1, 2), 2);
        Desk.due("steps", x.look(5), 3);
        Desk.due("run(1, 558)", x.run(1, 558), 558);
        Desk.due("one is ready", x.ready(), 1);
        Desk.due("run(1, 600)", x.run(1, 600), 1);
        Desk.due("none is ready", x.ready(), 0);
        Desk.due("run(1, 600)", x.run(1, 600), 0);
        Desk.due("run(1, 601)", x.run(1, 601), NONE);
        x.begin();
        Desk.due("run(1, 561)", x.run(1, 561), 561);
        Desk.due("all", x.run(1, 561), 1);
        x.begin();
        Desk.due("run(1, 562)", x.run(1, 562), 562);
        x.begin();
        Desk.due("run(1, 563)", x.run(1, 563), 562);
        TalkHouse y = new TalkHouse();
        Desk.due("without a text", y.run(1, 600), 0);
        Desk.due("without a text", y.run(1, 0), 0);
        Desk.due("without a text", y.run(1, 601), NONE);
        Desk.due("without a text", y.run(1, -1), NONE);
    }

    /** The draws are made here in longs, which do not wrap. */
    private static void draws() {
        Desk.sentence("run: seed becomes seed * 1103515245 + 12345 (an int, it wraps), that at (seed >>> 16) modulo ready()");
        String text = "def a()c:end=say 1;say 2;close c def b()c:end=" + named(4, "new %=a();") + named(4, "wait %;")
            + "close c def f()c:end=" + named(3, "new %=b();") + named(3, "wait %;") + "close c";
        int[] seeds = {0, 1, -1, 2, 12345, -12345, MOST, LEAST, MOST - 1, LEAST + 1, 65535, 65536, -65536, 1 << 30,
            1103515245, 715827883, 987654321, -987654321};
        for (int seed : seeds) {
            TalkHouse x = Desk.taken(text);
            TalkHouse y = Desk.taken(text);
            long drawn = seed & 0xffffffffL;
            int steps = 0;
            while (y.ready() > 0 && steps < 600) {
                drawn = (drawn * 1103515245L + 12345L) & 0xffffffffL;
                int k = (int) (drawn / 65536 % y.ready());
                int p = y.which(k);
                Desk.due("step", y.step(k), p);
                steps++;
            }
            Desk.due("steps", steps, 12 * 3 + 3 * 9 + 7);
            Desk.due("steps of seed " + seed, x.run(seed, 600), steps);
            for (int i = 0; i < 24; i++) {
                Desk.due("said(" + i + ", 1) of seed " + seed, x.said(i, 1), y.said(i, 1));
            }
            for (int p = 0; p < 16; p++) {
                Desk.due("DEF of " + p + " of seed " + seed, x.process(p, 0), y.process(p, 0));
            }
            // one STEP a run: the seed is what was given
            TalkHouse one = Desk.taken(text);
            long first = ((seed & 0xffffffffL) * 1103515245L + 12345L) & 0xffffffffL;
            for (int i = 0; i < 20; i++) {
                int p = one.which((int) (first / 65536 % one.ready()));
                int before = one.process(p, 3);
                Desk.due("run(" + seed + ", 1)", one.run(seed, 1), 1);
                Desk.due("it was " + p + " of seed " + seed, one.process(p, 3), before + 1);
            }
        }
    }
}
