/** Promises 1 to 10 and 16 to 19: what is NONE, false, 0 or refused, and what stays as it was then. */
public final class CallEdgeTest {
    private static final int NONE = TalkHouse.NONE;
    private static final int MOST = Integer.MAX_VALUE;
    private static final int LEAST = Integer.MIN_VALUE;
    private static final String LAST = "def z()c:end=close c";
    /** Bytes for one feed: "def z()c:end=close c". */
    private static final int[] LAST_FED = {0x64656620, 0x7a282963, 0x3a656e64, 0x3d636c6f, 0x73652063};
    private static final int[] FAR = {-2, -3, 80, 81, 100, 512, 600, 1000, 65536, 1 << 30, MOST, MOST - 1, LEAST, LEAST + 1};
    private static final String FULL = "type t=+{ab:end,b:!end};"
        + "def e()c:end=close c def n(x)c:!end=put c x;close c "
        + "def g(x,d:!end,y,e:end)c:>!end.t=send c d;wait e;if x<y{pick c ab;close c}else{say x;pick c b;put c y;close c} "
        + "def f()c:end=new h=n(7);new i=e();new q=g(3,h,2-4,i);take q r;get r v;say v;wait r;case q{ab:wait q;close c"
        + "|b:get q w;say w;wait q;close c}";

    public static void main(String[] args) {
        newObject();
        feeds();
        feedsOfBytes();
        ends();
        loads();
        loadsOfFaults();
        loadsWithoutText();
        loadsOneBehindAnother();
        longTextsOneBehindAnother();
        faults();
        looks();
        defs();
        leasts();
        prints();
        sames();
        outs();
        processes();
        channels();
        messages();
        said();
        firstTwoHundred();
        fullestDef();
        Desk.finish();
    }

    /** All answers that there are without a text. */
    private static void saysNothing(TalkHouse x) {
        for (int what = 0; what <= 7; what++) {
            Desk.due("look(" + what + ")", x.look(what), 0);
        }
        Desk.due("look(8)", x.look(8), NONE);
        Desk.due("look(-1)", x.look(-1), NONE);
        Desk.due("ready()", x.ready(), 0);
        Desk.due("begin()", x.begin(), false);
        for (int i : new int[] {0, 1, -1, 11, 12, MOST, LEAST}) {
            Desk.due("which(" + i + ")", x.which(i), NONE);
            Desk.due("step(" + i + ")", x.step(i), NONE);
            for (int k = -1; k <= 4; k++) {
                Desk.due("def(" + i + ", " + k + ")", x.def(i, k), NONE);
                Desk.due("print(" + i + ", " + k + ")", x.print(i, k), NONE);
                Desk.due("same(" + i + ", " + k + ", " + i + ", " + k + ")", x.same(i, k, i, k), false);
                Desk.due("process(" + i + ", " + k + ")", x.process(i, k), NONE);
                Desk.due("channel(" + i + ", " + k + ")", x.channel(i, k), NONE);
                Desk.due("message(" + i + ", 0, " + k + ")", x.message(i, 0, k), NONE);
                Desk.due("said(" + i + ", " + k + ")", x.said(i, k), NONE);
            }
        }
        Desk.due("run(1, 600)", x.run(1, 600), 0);
        Desk.due("run(1, 0)", x.run(1, 0), 0);
        Desk.due("run(1, 601)", x.run(1, 601), NONE);
        Desk.due("run(1, -1)", x.run(1, -1), NONE);
    }

    private static void newObject() {
        Desk.sentence("A new object: No text, no run, an empty tape");
        TalkHouse x = new TalkHouse();
        saysNothing(x);
        Desk.due("fault(0)", x.fault(0), 0);
        Desk.due("fault(1)", x.fault(1), NONE);
        Desk.due("out(0)", x.out(0), NONE);
        Desk.due("end(1)", x.end(1), false);
        Desk.due("end(0)", x.end(0), true);
        // one object knows nothing of another
        TalkHouse y = Desk.taken(FULL);
        y.run(1, 600);
        y.feed(0, 0, 0, 0, 0);
        y.print(0, NONE);
        TalkHouse z = new TalkHouse();
        saysNothing(z);
        Desk.due("out(0)", z.out(0), NONE);
        Desk.due("end(1)", z.end(1), false);
    }

    private static void feedLast(TalkHouse x, int due) {
        Desk.due("feed", x.feed(LAST_FED[0], LAST_FED[1], LAST_FED[2], LAST_FED[3], LAST_FED[4]), due);
    }

    private static void feedBlanks(TalkHouse x, int times) {
        for (int i = 0; i < times; i++) {
            x.feed(0x20202020, 0x20202020, 0x20202020, 0x20202020, 0x20202020);
        }
    }

    private static void feeds() {
        Desk.sentence("feed: how many it has. NONE, and nothing comes, if there would be more than 1000");
        for (int bytes = 976; bytes <= 1000; bytes++) {
            TalkHouse x = new TalkHouse();
            feedBlanks(x, 50);
            Desk.due("end(" + bytes + ")", x.end(bytes), true);
            boolean fits = bytes <= 980;
            feedLast(x, fits ? bytes + 20 : NONE);
            Desk.due("so many bytes", x.end(fits ? bytes + 20 : bytes), true);
            Desk.due("not one more", x.end(fits ? bytes + 21 : bytes + 1), false);
            Desk.due("load", x.load(), fits ? 1 : NONE);
            Desk.due("its fault", x.fault(0), fits ? 0 : 1);
            Desk.due("its place", x.fault(1), fits ? NONE : bytes);
        }
        TalkHouse y = new TalkHouse();
        feedBlanks(y, 49);
        feedLast(y, 1000);
        for (int i = 0; i < 3; i++) {
            Desk.due("byte 1001", y.feed(0x3b3b3b3b, 0, 0, 0, 0), NONE);
        }
        Desk.due("what was there is there", y.load(), 1);
        feedLast(y, 20);
    }

    private static void feedsOfBytes() {
        Desk.sentence("feed: Twenty bytes come behind the TAPE, of each number the highest first");
        for (int place = 0; place < 20; place++) {
            for (int sign : new int[] {0, 1, 31, 33, 127, 128, 200, 254, 255}) {
                int[] five = {0x20202020, 0x20202020, 0x20202020, 0x20202020, 0x20202020};
                int shift = 24 - 8 * (place % 4);
                five[place / 4] = five[place / 4] & ~(255 << shift) | sign << shift;
                TalkHouse x = new TalkHouse();
                x.feed(five[0], five[1], five[2], five[3], five[4]);
                feedLast(x, 40);
                Desk.due("load with " + sign + " at " + place, x.load(), NONE);
                Desk.due("its fault", x.fault(0), 1);
                Desk.due("its place", x.fault(1), place);
            }
        }
        TalkHouse y = new TalkHouse();
        for (int i = 1; i <= 5; i++) {
            Desk.due("numbers below 0", y.feed(-1, LEAST, -128, -256, -65536), 20 * i);
        }
    }

    private static void ends() {
        Desk.sentence("end: The TAPE has its first n bytes alone; false, changing nothing, if it has not so many, or n is below 0");
        for (int bytes = 0; bytes <= 40; bytes++) {
            TalkHouse x = new TalkHouse();
            feedLast(x, 20);
            feedBlanks(x, 1);
            Desk.due("end(" + bytes + ")", x.end(bytes), true);
            for (int n : new int[] {bytes + 1, bytes + 20, 41, 1000, 1001, MOST, -1, -20, LEAST}) {
                Desk.due("end(" + n + ") of " + bytes, x.end(n), false);
            }
            Desk.due("end(" + bytes + ") again", x.end(bytes), true);
            // "clos", "close" alone can't stand, and what is cut off is there no more
            Desk.due("load of " + bytes, x.load(), bytes >= 20 ? 1 : NONE);
            Desk.due("an empty tape", x.end(1), false);
        }
        TalkHouse y = new TalkHouse();
        Desk.due("end(0) of none", y.end(0), true);
        Desk.due("end(1) of none", y.end(1), false);
        Desk.due("end(-1) of none", y.end(-1), false);
        feedBlanks(y, 1);
        y.end(3);
        feedLast(y, 23);
        Desk.due("behind the first three", y.load(), 1);
        feedBlanks(y, 2);
        y.end(0);
        feedLast(y, 20);
        Desk.due("behind none", y.load(), 1);
        feedLast(y, 20);
        y.end(19);
        Desk.due("without the last one", y.load(), NONE);
        Desk.due("its place", y.fault(1), 19);
    }

    private static void loads() {
        Desk.sentence("load: The TAPE, empty then, is read: how many DEFS; a run begins");
        StringBuilder text = new StringBuilder();
        for (int i = 1; i <= 12; i++) {
            text.append("def ").append((char) ('a' + i)).append("()c:end=close c ");
            TalkHouse x = new TalkHouse();
            Desk.due("DEFS", Desk.load(x, text.toString()), i);
            Desk.due("the tape is empty", x.end(1), false);
            Desk.due("a run begins", x.ready(), 1);
            feedLast(x, 20);
            Desk.due("feed does not change the text", x.look(1), i);
            Desk.due("load again", x.load(), 1);
            Desk.due("load of nothing", x.load(), NONE);
            Desk.due("its fault", x.fault(0), 1);
            Desk.due("its place", x.fault(1), 0);
            Desk.due("the text of before", x.look(1), 1);
        }
    }

    /** All that an object tells of its text and its run. */
    private static String told(TalkHouse x) {
        StringBuilder told = new StringBuilder();
        for (int what = 0; what <= 7; what++) {
            told.append(x.look(what)).append(' ');
        }
        for (int i = 0; i <= x.look(1); i++) {
            for (int k = 0; k < 4; k++) {
                told.append(x.def(i, k)).append(' ');
            }
            for (int k = -1; k < 4; k++) {
                told.append(x.print(i, k)).append(x.same(i, k, 0, -1)).append(' ');
            }
        }
        for (int p = 0; p <= x.look(2); p++) {
            for (int what = 0; what < 7; what++) {
                told.append(x.process(p, what)).append(' ');
            }
            told.append(x.which(p)).append(' ');
            for (int what = 0; what < 3; what++) {
                told.append(x.channel(p, what)).append(' ');
            }
            for (int i = 0; i <= x.channel(p, 0); i++) {
                told.append(x.message(p, i, 0)).append(x.message(p, i, 1)).append(x.message(p, i, 101)).append(' ');
            }
        }
        for (int i = 0; i <= x.look(6); i++) {
            told.append(x.said(i, 0)).append(x.said(i, 1)).append(' ');
        }
        return told.append(x.ready()).toString();
    }

    private static void loadsOfFaults() {
        Desk.sentence("NONE: a FAULT (the text and run of before stay)");
        String[] wrong = {"", "def", "def a(x,x)c:end=close c", "def a(x,y)c:!end=put c 3;close c;",
            "type t=!end;def a(d:t)c:t=close c", LAST + " def a(b:t)c:end=close c",
            LAST + " def y(x)c:end=say x;say x;close c", LAST + " def y(a,b,d,e,f)c:end=close c",
            "type t=+{a:&{b:end,d:+{x:end,y", "def a()c:end=" + Desk.times(9, "if 1{"),
            "def a(x,y)c:end=close c def b()c:end=go a(1)", "def a()c:!end=close c", "def a(d:end)c:end=close c"};
        int[] due = {1, 1, 2, 1, 4, 2, 7, 5, 1, 5, 6, 3, 4};
        for (int steps : new int[] {0, 1, 6, 13, 600}) {
            TalkHouse x = Desk.taken(FULL);
            x.run(31, steps);
            x.print(2, NONE);
            String before = told(x);
            int out = x.print(2, NONE);
            String lies = Desk.out(x);
            for (int i = 0; i < wrong.length; i++) {
                Desk.due("load of " + wrong[i], Desk.load(x, wrong[i]), NONE);
                Desk.due("fault(0) of " + wrong[i], x.fault(0), due[i]);
                Desk.due("OUT stays", Desk.out(x), lies);
                Desk.due("what is told behind " + wrong[i], told(x), before);
                x.print(2, NONE);
            }
            Desk.due("the same print", x.print(2, NONE), out);
            // and the run goes on
            TalkHouse y = Desk.taken(FULL);
            y.run(31, steps);
            Desk.due("the rest of the run", x.run(5, 600), y.run(5, 600));
            Desk.due("its end", told(x), told(y));
            Desk.due("begin", x.begin(), true);
            Desk.due("the beginning", told(x), told(Desk.taken(FULL)));
        }
    }

    private static void loadsWithoutText() {
        Desk.sentence("NONE: a FAULT (the text of before stays: none, if there was none)");
        TalkHouse x = new TalkHouse();
        for (String wrong : new String[] {"", FULL + ";", FULL + " def l(x)c:end=close c", FULL.substring(0, 300)}) {
            Desk.due("load", Desk.load(x, wrong), NONE);
            saysNothing(x);
            Desk.due("out(0)", x.out(0), NONE);
        }
        Desk.due("load", Desk.load(x, FULL), 4);
        Desk.due("the beginning", told(x), told(Desk.taken(FULL)));
    }

    private static final String[] TEXTS = {
        LAST, FULL, "type a=end;type b=!a;type d=?b;def f()c:d=get c x;put c x;close c",
        "type t=&{a:end,b:!end,d:?end};def f(p:t,x)c:t=same c p def g()c:t=case c{d:get c x;close c|b:put c 4;close c"
            + "|a:close c} def h()c:end=new p=g();new q=f(p,3);pick q b;get q v;say v;wait q;close c",
        "type t=!+{x:end,y:+{x:end,z:end}};def e(a:t,b,d:end,i)c:end=wait d;get a v;case a{y:case a{z:wait a;close c"
            + "|x:wait a;close c}|x:wait a;close c} def u()c:t=put c 1;pick c y;pick c z;close c def w()c:end=close c "
            + "def m()c:end=new p=u();new q=w();new r=e(p,1,q,2);wait r;say 5;say 6;close c",
        "def f()c:end=" + Desk.times(12, "say 1*2+3*(4-5);") + "close c",
        "def a()c:!!!end=put c 1;put c 2;put c 3;close c def b()c:!!!end=new d=a();same c d def f()c:!!!end=new d=b();same c d",
        "def f()c:!!+{abc:end,b:end}=put c 0-5;put c 6;pick c abc;close c"};
    private static final String[] FAULTY = {
        "type t=!end;type u=+{a:end,b:&{d:end,e:+{g:t,h:", "def f()c:end=" + Desk.times(8, "if 1{") + "if",
        "def f(a,b:end,d,e:!end)c:end=if 1{wait b;if 2{get e x;if 3{close c", "def f()c:end=say 1+2*(3-(4*(5",
        "def a(x,y)c:end=close c def f()c:end=new d=a(1,2);new e=a(3,", "def f(x,y:end)c:end=wait y;close c"};

    /** An object keeps nothing of the texts and runs that it had: it answers as a new one does. */
    private static void loadsOneBehindAnother() {
        Desk.sentence("The TAPE is read; a run begins: whatever was read and run ahead of it");
        for (String first : TEXTS) {
            for (String second : TEXTS) {
                for (int i = 0; i < 3; i++) {
                    TalkHouse x = Desk.taken(first);
                    x.run(i, i == 0 ? 600 : 2 * i);
                    for (int k = i; k < FAULTY.length; k += 3) {
                        Desk.due("a fault", Desk.load(x, FAULTY[k]), NONE);
                    }
                    for (int k = 0; k < i; k++) {
                        Desk.due("one between them", Desk.load(x, LAST), 1);
                    }
                    Desk.due("load", Desk.load(x, second), Desk.taken(second).look(1));
                    compareRuns(x, Desk.taken(second));
                    x.begin();
                    compareRuns(x, Desk.taken(second));
                }
            }
        }
    }

    /** Within its 512 calls an object can read a long text nine times, and a shorter one more often. */
    private static void longTextsOneBehindAnother() {
        Desk.sentence("TEXTS of at most 1000 bytes: as many as an object's calls can feed");
        String sum = "def f()c:end=say " + Desk.times(487, "1+") + "0;close c";
        TalkHouse x = new TalkHouse();
        for (int i = 0; i < 9; i++) {
            Desk.due("a long E", Desk.load(x, sum), 1);
            Desk.due("steps", x.run(1, 600), 2);
            Desk.due("its worth", x.said(0, 0), 487);
        }
        String args = "def e(p,q,r,s)c:end=say s;close c def f()c:end="
            + Desk.times(36, "new d=e(1,2,3,4);wait d;") + "go e(5,6,7,8)";
        TalkHouse y = new TalkHouse();
        for (int i = 0; i < 9; i++) {
            Desk.due("many ARGS", Desk.load(y, args), 2);
            Desk.due("steps", y.run(1, 600), 36 * 4 + 1 + 2);
            Desk.due("the first ones", y.said(0, 0), 4);
            Desk.due("the last ones", y.said(36, 0), 8);
        }
        TalkHouse z = new TalkHouse();
        for (int i = 0; i < 20; i++) {
            StringBuilder types = new StringBuilder("type a=!!!!!!!");
            for (int bit = 0; bit < 5; bit++) {
                types.append("!?".charAt(i >> bit & 1));
            }
            types.append("end;");
            for (char k = 'b'; k <= 'l'; k++) {
                types.append("type ").append(k).append('=').append(Desk.times(12, "?")).append((char) (k - 1)).append(';');
            }
            Desk.due("many Ts", Desk.load(z, types + "def f(x:l)c:l=same c x " + LAST), 2);
            Desk.due("print", z.print(0, 0), 2 * 144 + 3);
            Desk.due("its last sign", z.out(2 * 143), "!?".charAt(i >> 4 & 1));
            Desk.due("its last but four", z.out(2 * 139), "!?".charAt(i & 1));
        }
    }

    private static void compareRuns(TalkHouse x, TalkHouse y) {
        Desk.due("the beginning", told(x), told(y));
        for (int i = 0; i < 5; i++) {
            Desk.due("steps", x.run(9 * i, 3), y.run(9 * i, 3));
            Desk.due("behind some steps", told(x), told(y));
        }
        Desk.due("steps", x.run(77, 600), y.run(77, 600));
        Desk.due("the end", told(x), told(y));
    }

    private static void faults() {
        Desk.sentence("fault: Of the latest load(): what 0 the FAULT (0 without one), 1 its place (NONE). NONE for another what");
        TalkHouse x = new TalkHouse();
        for (int round = 0; round < 2; round++) {
            Desk.due("fault(0) without one", x.fault(0), 0);
            Desk.due("fault(1) without one", x.fault(1), NONE);
            for (int what : new int[] {2, 3, -1, -2, MOST, LEAST}) {
                Desk.due("fault(" + what + ")", x.fault(what), NONE);
            }
            Desk.load(x, "def f()c:x=close c");
            Desk.due("fault(0)", x.fault(0), 2);
            Desk.due("fault(1)", x.fault(1), 9);
            for (int what : new int[] {2, 3, -1, -2, MOST, LEAST}) {
                Desk.due("fault(" + what + ") with one", x.fault(what), NONE);
            }
            // it is of the latest load, whatever comes behind it
            feedLast(x, 20);
            x.end(20);
            x.begin();
            x.run(1, 600);
            x.print(0, NONE);
            Desk.due("fault(0) still", x.fault(0), 2);
            Desk.due("fault(1) still", x.fault(1), 9);
            Desk.due("load", x.load(), 1);
            x.load();
            Desk.due("fault(0) of the empty text", x.fault(0), 1);
            Desk.due("fault(1) of the empty text", x.fault(1), 0);
            Desk.load(x, LAST);
        }
    }

    private static void looks() {
        Desk.sentence("look: 0 without a text; NONE for another what");
        TalkHouse x = new TalkHouse();
        TalkHouse y = Desk.taken("type a=end;type b=a;" + LAST);
        for (int what : new int[] {-1, 8, 9, -2, 100, MOST, LEAST}) {
            Desk.due("look(" + what + ") without a text", x.look(what), NONE);
            Desk.due("look(" + what + ")", y.look(what), NONE);
        }
        int[] due = {2, 1, 1, 1, 1, 0, 0, 0};
        for (int what = 0; what < 8; what++) {
            Desk.due("look(" + what + ") without a text", x.look(what), 0);
            Desk.due("look(" + what + ")", y.look(what), due[what]);
        }
        y.step(0);
        Desk.due("those that are not OVER: none", y.look(3), 0);
        Desk.due("PROCESSES made: one", y.look(2), 1);
    }

    private static void defs() {
        Desk.sentence("def: how many PARAMS, how many of these have a T. NONE if there is none such, or another what");
        // of four PARAMS, those whose bit is set have a T
        for (int n = 0; n <= 4; n++) {
            for (int bits = 0; bits < 1 << n; bits++) {
                StringBuilder params = new StringBuilder();
                StringBuilder waits = new StringBuilder();
                for (int i = 0; i < n; i++) {
                    boolean talks = (bits >> i & 1) == 1;
                    params.append(i == 0 ? "" : ",").append((char) ('p' + i)).append(talks ? ":end" : "");
                    waits.append(talks ? "wait " + (char) ('p' + i) + ";" : "");
                }
                TalkHouse x = Desk.taken("def y(a,b:end)c:end=wait b;close c def f(" + params + ")c:end=" + waits
                    + "close c " + LAST.replace("z", "x") + " def w(a:!end,b)c:!end=same c a " + LAST);
                int talks = Integer.bitCount(bits);
                Desk.due("PARAMS of " + params, x.def(1, 0), n);
                Desk.due("with a T: " + params, x.def(1, 1), talks);
                Desk.due("words: " + params, x.def(1, 2), talks + 1);
                Desk.due("least: " + params, x.def(1, 3), talks + 1);
                for (int k = -1; k < 6; k++) {
                    boolean has = k == NONE || k >= 0 && k < n && (bits >> k & 1) == 1;
                    Desk.due("print(1, " + k + ") of " + params, x.print(1, k), has ? 3 : NONE);
                    Desk.due("same(1, " + k + ") of " + params, x.same(1, k, 0, 1), has);
                    Desk.due("same(1, " + k + ") with itself, of " + params, x.same(1, k, 1, k), has);
                }
                Desk.due("PARAM 4 is not PARAM 0 of the next one", x.print(2, 4), NONE);
                Desk.due("PARAM -2", x.print(3, -2), NONE);
            }
        }
        TalkHouse y = Desk.taken(FULL);
        for (int what = 0; what < 4; what++) {
            Desk.due("def(0, " + what + ")", y.def(0, what) >= 0, true);
            Desk.due("def(3, " + what + ")", y.def(3, what) >= 0, true);
            Desk.due("def(4, " + what + ")", y.def(4, what), NONE);
            Desk.due("def(-1, " + what + ")", y.def(-1, what), NONE);
            for (int far : FAR) {
                Desk.due("def(" + far + ", " + what + ")", y.def(far, what), NONE);
                Desk.due("def(0, " + far + ")", y.def(0, far), NONE);
            }
        }
        Desk.due("def(0, 4)", y.def(0, 4), NONE);
        Desk.due("def(0, -1)", y.def(0, -1), NONE);
    }

    private static int least(String p) {
        String ahead = "type t=&{a:end,b:end,d:end};def e()c:end=say 1;say 2;close c def o()c:t=say 3;case c{a:close c|b:close c"
            + "|d:close c} ";
        String gives = p.contains("case c") || p.contains("go o") ? "t" : "end";
        return Desk.taken(ahead + "def f(q:end)c:" + gives + "=" + p.replace("^", "wait q;") + " " + LAST).def(2, 3);
    }

    private static void leasts() {
        Desk.sentence("the least number of STEPS that it takes by itself, from its beginning to close, same or go");
        Desk.due("same", least("same c q"), 1);
        Desk.due("wait, close", least("^close c"), 2);
        Desk.due("wait, go", least("^go e()"), 2);
        Desk.due("what it goes on as does not count", least("^go o()"), 2);
        Desk.due("what it makes does not count", least("new d=e();^wait d;close c"), 4);
        Desk.due("an if is none", least("if 1{^close c}else{same c q}"), 1);
        Desk.due("an if is none", least("if 1{same c q}else{^close c}"), 1);
        Desk.due("an E does not count", least("if 0{same c q}else{say 1;^close c}"), 1);
        Desk.due("ifs in ifs", least("if 1{if 1{^close c}else{say 1;same c q}}else{say 2;^close c}"), 2);
        Desk.due("behind some", least("say 1;say 2;if 1{^close c}else{same c q}"), 3);
        Desk.due("the first is the least", least("case c{a:^close c|b:say 1;^close c|d:say 1;say 1;^close c}"), 3);
        Desk.due("the second is the least", least("case c{a:say 1;^close c|b:^close c|d:say 1;say 1;^close c}"), 3);
        Desk.due("the last is the least", least("case c{d:say 1;say 1;^close c|a:say 1;^close c|b:^close c}"), 3);
        Desk.due("the least is more", least("case c{d:say 1;say 1;^close c|a:say 1;^close c|b:say 1;^close c}"), 4);
        TalkHouse x = Desk.taken("def f()c:end=close c def g()c:end=" + Desk.times(79, "say1;") + "close c");
        Desk.due("one", x.def(0, 3), 1);
        Desk.due("80", x.def(1, 3), 80);
        TalkHouse y = Desk.taken("def g()c:&{a:end}=" + Desk.times(78, "say1;") + "case c{a:close c}");
        Desk.due("80 with a case", y.def(0, 3), 80);
        TalkHouse z = Desk.taken(LAST + " def g()c:end=" + Desk.times(39, "say1;") + "if 1{" + Desk.times(39, "say1;")
            + "close c}else{go z()}");
        Desk.due("80 words", z.def(1, 2), 80);
        Desk.due("half of them", z.def(1, 3), 40);
    }

    private static void prints() {
        Desk.sentence("print: How many bytes. NONE, and OUT stays: there is none such, or it has no T");
        TalkHouse x = Desk.taken(FULL);
        Desk.due("nothing is OUT", x.out(0), NONE);
        Desk.due("print(0, 0)", x.print(0, 0), NONE);
        Desk.due("nothing is OUT", x.out(0), NONE);
        String due = "> ! end . + { ab : end , b : ! end }";
        Desk.due("given", Desk.printed(x, 2, NONE), due);
        for (int[] none : new int[][] {{2, 0}, {2, 2}, {2, 4}, {2, 5}, {2, -2}, {0, 0}, {1, 0}, {1, 1}, {3, 0}, {4, -1}, {-1, -1},
            {-1, 0}, {12, -1}}) {
            Desk.due("print(" + none[0] + ", " + none[1] + ")", x.print(none[0], none[1]), NONE);
            Desk.due("OUT stays", Desk.out(x), due);
        }
        for (int far : FAR) {
            Desk.due("print(" + far + ", -1)", x.print(far, NONE), NONE);
            Desk.due("print(2, " + far + ")", x.print(2, far), NONE);
            Desk.due("print(" + far + ", " + far + ")", x.print(far, far), NONE);
        }
        Desk.due("OUT stays", Desk.out(x), due);
        Desk.due("PARAM 1", Desk.printed(x, 2, 1), "! end");
        Desk.due("PARAM 3", Desk.printed(x, 2, 3), "end");
        Desk.due("PARAM 2 has none", x.print(2, 2), NONE);
        Desk.due("OUT stays", Desk.out(x), "end");
        Desk.sentence("NAMES in the order of the alphabet (a shorter one ahead of what begins with it)");
        String[] orders = {"b:end,a:end", "ab:end,a:end", "a:end,ab:end", "ba:end,b:end,az:end", "zzzzzz:end,zzzzz:end,a:end",
            "abcdeg:end,abcdef:end,abcde:end,abcdez:end,abcd:end,b:end", "z:end,aaaaaa:end", "aab:end,aaa:end,aa:end"};
        String[] sorted = {"a : end , b : end", "a : end , ab : end", "a : end , ab : end", "az : end , b : end , ba : end",
            "a : end , zzzzz : end , zzzzzz : end",
            "abcd : end , abcde : end , abcdef : end , abcdeg : end , abcdez : end , b : end", "aaaaaa : end , z : end",
            "aa : end , aaa : end , aab : end"};
        for (int i = 0; i < orders.length; i++) {
            for (String sign : new String[] {"+", "&"}) {
                TalkHouse y = Desk.taken("def f(d:" + sign + "{" + orders[i] + "})c:end="
                    + (sign.equals("+") ? cases("case", orders[i]) : cases("pick", orders[i])) + " " + LAST);
                Desk.due("CHOICE", Desk.printed(y, 0, 0), sign + " { " + sorted[i] + " }");
            }
        }
        Desk.sentence("print: as deep as a T can be: 12 types and a T, each with 12 that are open");
        StringBuilder types = new StringBuilder("type a=" + Desk.times(12, "?") + "end;");
        for (char k = 'b'; k <= 'l'; k++) {
            types.append("type ").append(k).append('=').append(Desk.times(12, "?")).append((char) (k - 1)).append(';');
        }
        String most = Desk.times(11, "!") + "<end.l";
        TalkHouse deep = Desk.taken(types + "def f(x:" + most + ")c:" + most + "=same c x " + LAST);
        String asText = Desk.times(11, "! ") + "< end . " + Desk.times(144, "? ") + "end";
        Desk.due("PARAM", Desk.printed(deep, 0, 0), asText);
        Desk.due("given", Desk.printed(deep, 0, NONE), asText);
        Desk.sentence("blanks within the brackets at both ends");
        TalkHouse z = Desk.taken("def f(a:+{a:end},b:>+{a:end}.&{a:+{b:end}})c:&{a:end}=case a{a:wait a;take b d;"
            + "case d{a:wait d;pick b a;case b{b:wait b;case c{a:close c}}}} " + LAST);
        Desk.due("one NAME", Desk.printed(z, 0, 0), "+ { a : end }");
        Desk.due("in one another", Desk.printed(z, 0, 1), "> + { a : end } . & { a : + { b : end } }");
        Desk.due("given", Desk.printed(z, 0, NONE), "& { a : end }");
    }

    /** What ends a talk of such a CHOICE over d, and closes c. */
    private static String cases(String word, String choice) {
        String[] names = choice.replace(":end", "").split(",");
        if (word.equals("pick")) {
            return "pick d " + names[0] + ";wait d;close c";
        }
        StringBuilder text = new StringBuilder("case d{");
        for (int i = 0; i < names.length; i++) {
            text.append(i == 0 ? "" : "|").append(names[i]).append(":wait d;close c");
        }
        return text + "}";
    }

    private static void sames() {
        Desk.sentence("same: Whether the Ts of two such are the same. False, too, if one is none");
        TalkHouse x = Desk.taken(FULL);
        boolean[][] due = new boolean[4][5];
        // given: end, !end, > !end . t, end; of DEF 2 PARAM 1 !end, PARAM 3 end
        String[][] talks = {{"end", "", "", "", ""}, {"!", "", "", "", ""}, {">", "", "!", "", "end"}, {"end", "", "", "", ""}};
        for (int i = 0; i < 4; i++) {
            for (int k = 0; k < 5; k++) {
                for (int j = 0; j < 4; j++) {
                    for (int m = 0; m < 5; m++) {
                        boolean alike = !talks[i][k].isEmpty() && talks[i][k].equals(talks[j][m]);
                        due[i][k] |= alike;
                        Desk.due("same(" + i + ", " + (k - 1) + ", " + j + ", " + (m - 1) + ")",
                            x.same(i, k - 1, j, m - 1), alike);
                    }
                }
            }
        }
        for (int far : FAR) {
            Desk.due("same(" + far + ", -1, 0, -1)", x.same(far, -1, 0, -1), false);
            Desk.due("same(0, -1, " + far + ", -1)", x.same(0, -1, far, -1), false);
            Desk.due("same(2, " + far + ", 2, 1)", x.same(2, far, 2, 1), false);
            Desk.due("same(2, 1, 2, " + far + ")", x.same(2, 1, 2, far), false);
            Desk.due("same(" + far + ", " + far + ") twice", x.same(far, far, far, far), false);
        }
        Desk.due("same(4, -1, 4, -1)", x.same(4, -1, 4, -1), false);
        Desk.due("same(-1, -1, -1, -1)", x.same(-1, -1, -1, -1), false);
    }

    private static void outs() {
        Desk.sentence("out: Byte i of OUT; NONE if there is none");
        TalkHouse x = Desk.taken("def f(d:!end)c:?end=get d x;wait d;get c y;close c " + LAST);
        for (int far : FAR) {
            Desk.due("out(" + far + ") of none", x.out(far), NONE);
        }
        Desk.due("out(0) of none", x.out(0), NONE);
        Desk.due("print", x.print(0, NONE), 5);
        String due = "? end";
        for (int i = 0; i < 5; i++) {
            Desk.due("out(" + i + ")", x.out(i), due.charAt(i));
        }
        for (int i : new int[] {-1, 5, 6, 79}) {
            Desk.due("out(" + i + ")", x.out(i), NONE);
        }
        for (int far : FAR) {
            Desk.due("out(" + far + ")", x.out(far), NONE);
        }
        Desk.due("a shorter one", x.print(1, NONE), 3);
        Desk.due("out(2)", x.out(2), 'd');
        Desk.due("out(3)", x.out(3), NONE);
        Desk.due("another one", x.print(0, 0), 5);
        Desk.due("out(0)", x.out(0), '!');
    }

    private static void processes() {
        Desk.sentence("process: NONE if there is none such, or another what. (4, 5 of one that is OVER: NONE, 0.)");
        TalkHouse x = Desk.taken("def e()c:end=say 4;say 5;close c def s(d:end)c:end=same c d "
            + "def f()c:end=new p=e();new q=s(p);wait q;close c");
        for (int made = 1; made <= 3; made++) {
            for (int what = 0; what < 7; what++) {
                Desk.due("process(" + (made - 1) + ", " + what + ")", x.process(made - 1, what) >= 0, true);
                Desk.due("process(" + made + ", " + what + ")", x.process(made, what), NONE);
                Desk.due("process(-1, " + what + ")", x.process(-1, what), NONE);
                for (int far : FAR) {
                    Desk.due("process(" + far + ", " + what + ")", x.process(far, what), NONE);
                }
            }
            for (int what : new int[] {7, 8, -1, -2, 80, MOST, LEAST}) {
                Desk.due("process(0, " + what + ")", x.process(0, what), NONE);
            }
            x.step(0);
        }
        // 0 waits, 1 has nothing, 2 has what 1 gives: 0, 1 and 2 did 2, 1, 0
        int[][] due = {{2, 0, 1, 2, 0, 1, 0}, {0, 0, 0, 1, 1, 0, 1}, {1, 0, 0, 0, 2, 1, 0}};
        compare(x, due);
        // OVER by same: it HAS none, and gives none
        Desk.due("same", x.step(1), 2);
        compare(x, new int[][] {{2, 0, 1, 2, 0, 1, 0}, {0, 0, 0, 1, 2, 0, 1}, {1, 1, 0, 1, NONE, 0, 0}});
        x.step(0);
        x.step(0);
        // OVER by close
        compare(x, new int[][] {{2, 0, 0, 2, 0, 1, 0}, {0, 1, 0, 3, NONE, 0, 2}, {1, 1, 0, 1, NONE, 0, 0}});
        x.step(0);
        compare(x, new int[][] {{2, 0, 0, 3, 0, 0, 0}, {0, 1, 0, 3, NONE, 0, 2}, {1, 1, 0, 1, NONE, 0, 0}});
        x.step(0);
        compare(x, new int[][] {{2, 1, 0, 4, NONE, 0, 0}, {0, 1, 0, 3, NONE, 0, 2}, {1, 1, 0, 1, NONE, 0, 0}});
        Desk.due("PROCESS 3", x.process(3, 0), NONE);
    }

    private static void compare(TalkHouse x, int[][] due) {
        for (int p = 0; p < due.length; p++) {
            for (int what = 0; what < 7; what++) {
                Desk.due("process(" + p + ", " + what + ") behind " + x.look(5), x.process(p, what), due[p][what]);
            }
        }
    }

    private static void channels() {
        Desk.sentence("channel: NONE if there is none such, or another what; 2: 1 if it is one with another one (it was not the one given)");
        TalkHouse x = Desk.taken("def e()c:!end=put c 4;close c def s(d:!end)c:!end=same c d "
            + "def f()c:!end=new p=e();new q=s(p);same c q");
        for (int made = 1; made <= 3; made++) {
            for (int what = 0; what < 3; what++) {
                Desk.due("channel(" + (made - 1) + ", " + what + ")", x.channel(made - 1, what), 0);
                Desk.due("channel(" + made + ", " + what + ")", x.channel(made, what), NONE);
                Desk.due("channel(-1, " + what + ")", x.channel(-1, what), NONE);
                for (int far : FAR) {
                    Desk.due("channel(" + far + ", " + what + ")", x.channel(far, what), NONE);
                }
            }
            for (int what : new int[] {3, 4, -1, -2, 80, MOST, LEAST}) {
                Desk.due("channel(0, " + what + ")", x.channel(0, what), NONE);
            }
            if (made < 3) {
                x.step(0);
            }
        }
        // 0 with 2, 2 with 1: all are 0
        Desk.due("same of 0", x.step(0), 0);
        int[] joined = {0, 0, 1};
        for (int c = 0; c < 3; c++) {
            Desk.due("joined: " + c, x.channel(c, 2), joined[c]);
        }
        Desk.due("same of 2", x.step(1), 2);
        Desk.due("put of 1", x.step(0), 1);
        joined[1] = 1;
        for (int c = 0; c < 3; c++) {
            Desk.due("joined: " + c, x.channel(c, 2), joined[c]);
            Desk.due("DOWN: " + c, x.channel(c, 0), 1);
            Desk.due("UP: " + c, x.channel(c, 1), 0);
            Desk.due("MESSAGE 0 of " + c, x.message(c, 0, 1), 4);
            Desk.due("no MESSAGE 1 of " + c, x.message(c, 1, 1), NONE);
        }
        Desk.due("CHANNELS made", x.look(4), 3);
        Desk.due("1 gives 0", x.process(1, 4), 0);
    }

    private static void messages() {
        Desk.sentence("message: 1: the letters of the NAME (0 of the END); 100 + k: letter k of the NAME. NONE if there is none such");
        TalkHouse x = Desk.taken("def e()c:end=close c def f()c:+{a:+{abcxyz:!>end.end}}=pick c a;pick c abcxyz;put c 0-9999;"
            + "new d=e();send c d;close c");
        String[] names = {"a", "abcxyz", "", "", ""};
        int[] kinds = {2, 2, 0, 1, 3};
        int[] values = {1, 6, -9999, 1, 0};
        for (int laid = 0; laid <= 5; laid++) {
            for (int i = 0; i < 5; i++) {
                Desk.due("kind of " + i + " of " + laid, x.message(0, i, 0), i < laid ? kinds[i] : NONE);
                Desk.due("value of " + i + " of " + laid, x.message(0, i, 1), i < laid ? values[i] : NONE);
                for (int k = 0; k < 8; k++) {
                    int due = i < laid && k < names[i].length() ? names[i].charAt(k) : NONE;
                    Desk.due("letter " + k + " of " + i + " of " + laid, x.message(0, i, 100 + k), due);
                }
                for (int what : new int[] {-1, -2, 2, 3, 50, 98, 99, 106, 107, 200, MOST, LEAST}) {
                    Desk.due("message(0, " + i + ", " + what + ")", x.message(0, i, what), NONE);
                }
            }
            Desk.due("MESSAGES", x.channel(0, 0), laid);
            Desk.due("MESSAGE " + laid, x.message(0, laid, 0), NONE);
            Desk.due("MESSAGE -1", x.message(0, -1, 0), NONE);
            for (int far : FAR) {
                Desk.due("message(0, " + far + ", 0)", x.message(0, far, 0), NONE);
                Desk.due("message(" + far + ", 0, 0)", x.message(far, 0, 0), NONE);
            }
            Desk.due("message(-1, 0, 0)", x.message(-1, 0, 0), NONE);
            Desk.due("CHANNEL 1 is empty or none", x.message(1, 0, 0), NONE);
            Desk.due("CHANNEL 2 is none", x.message(2, 0, 0), NONE);
            x.step(0);
            if (laid == 3) {
                x.step(0);
            }
        }
        // the least and the most of numbers
        TalkHouse y = Desk.taken("def f()c:!!!end=put c 2*1024*1024*1024;put c 2*1024*1024*1024-1;put c 0;close c");
        y.run(1, 600);
        Desk.due("the least", y.message(0, 0, 1), LEAST);
        Desk.due("the most", y.message(0, 1, 1), MOST);
        Desk.due("zero", y.message(0, 2, 1), 0);
        // MESSAGES that lie UP are not told
        TalkHouse z = Desk.taken("def e()c:?end=get c x;close c def f()c:end=new d=e();put d 7;wait d;close c");
        z.step(0);
        z.step(0);
        Desk.due("one UP", z.channel(1, 1), 1);
        Desk.due("it is not DOWN", z.message(1, 0, 0), NONE);
    }

    private static void said() {
        Desk.sentence("said: in the order of time: what 0 the number, 1 the PROCESS. NONE if there is none such");
        TalkHouse x = Desk.taken("def e(n)c:end=say n;close c def f()c:end=new p=e(0-1);new q=e(5);say 6;wait p;wait q;close c");
        Desk.due("said(0, 0) of none", x.said(0, 0), NONE);
        Desk.due("said(0, 1) of none", x.said(0, 1), NONE);
        x.step(0);
        x.step(0);
        Desk.due("step of 2", x.step(2), 2);
        Desk.due("step of 0", x.step(0), 0);
        Desk.due("step of 1", x.step(0), 1);
        int[][] due = {{5, 2}, {6, 0}, {-1, 1}};
        for (int i = 0; i < 3; i++) {
            Desk.due("said(" + i + ", 0)", x.said(i, 0), due[i][0]);
            Desk.due("said(" + i + ", 1)", x.said(i, 1), due[i][1]);
            for (int what : new int[] {2, 3, -1, -2, 100, MOST, LEAST}) {
                Desk.due("said(" + i + ", " + what + ")", x.said(i, what), NONE);
            }
        }
        for (int what = 0; what < 2; what++) {
            Desk.due("said(3, " + what + ")", x.said(3, what), NONE);
            Desk.due("said(-1, " + what + ")", x.said(-1, what), NONE);
            for (int far : FAR) {
                Desk.due("said(" + far + ", " + what + ")", x.said(far, what), NONE);
            }
        }
    }

    /** PROCESSES 1 to so many, one behind another, each saying 20 numbers, and PROCESS 0 some more. */
    private static String says(int processes, int more) {
        StringBuilder text = new StringBuilder("def a(x)c:end=");
        for (int i = 0; i < 20; i++) {
            text.append("say x+").append(i).append(';');
        }
        text.append("close c def f()c:end=");
        for (int p = 0; p < processes; p++) {
            text.append("new d=a(").append(20 * p).append(");wait d;");
        }
        for (int i = 0; i < more; i++) {
            text.append("say ").append(20 * processes + i).append(';');
        }
        return text + "close c";
    }

    private static void firstTwoHundred() {
        Desk.sentence("said: NONE if there is none such (the first 200 are kept; look(6) counts all)");
        int[][] some = {{9, 19}, {10, 0}, {10, 1}, {11, 9}, {9, 20}, {9, 21}};
        for (int[] one : some) {
            int all = 20 * one[0] + one[1];
            TalkHouse x = Desk.taken(says(one[0], one[1]));
            Desk.due("steps", x.run(1, 600), 23 * one[0] + one[1] + 1);
            Desk.due("look(6)", x.look(6), all);
            for (int i = 0; i < 260; i++) {
                boolean kept = i < all && i < 200;
                Desk.due("said(" + i + ", 0) of " + all, x.said(i, 0), kept ? i : NONE);
                int by = i / 20 < one[0] ? i / 20 + 1 : 0;
                Desk.due("said(" + i + ", 1) of " + all, x.said(i, 1), kept ? by : NONE);
            }
            // process(.., 6) counts all of its own
            Desk.due("said by 0", x.process(0, 6), one[1]);
            for (int p = 1; p <= one[0]; p++) {
                Desk.due("said by " + p, x.process(p, 6), 20);
            }
            Desk.due("begin", x.begin(), true);
            Desk.due("said(0, 0) behind begin", x.said(0, 0), NONE);
            Desk.due("look(6) behind begin", x.look(6), 0);
        }
    }

    private static String talkOf(int n) {
        StringBuilder types = new StringBuilder("type a=" + Desk.times(n % 12, "?") + "end;");
        for (int i = 1; i <= n / 12; i++) {
            types.append("type ").append((char) ('a' + i)).append('=').append(Desk.times(12, "?"))
                .append((char) ('a' + i - 1)).append(';');
        }
        return types.toString();
    }

    private static String gets(int n) {
        StringBuilder text = new StringBuilder();
        for (int i = 0; i < n; i++) {
            text.append("get c ").append((char) ('j' + i / 12)).append((char) ('a' + i % 12)).append(';');
        }
        return text.toString();
    }

    private static void fullestDef() {
        Desk.sentence("TEXTS: the most NAMES that can be there at once, with four PARAMS and 80 of close .. say");
        String first = talkOf(78) + "def f(p,q,r,s)c:g=" + gets(78);
        TalkHouse x = Desk.taken(first + "say p+s+ja+pf;close c def z()c:g=go f(1,2,3,4)");
        Desk.due("80 words", x.def(0, 2), 80);
        Desk.due("it goes on and WAITS", x.run(1, 600), 1);
        Desk.refused(2, first + "say p+s+ja+pf+~pg;close c");
        Desk.refused(2, first.substring(0, first.length() - 9) + "get c ~pe;close c");
        Desk.refused(5, first + "say s;say pf;~close c");
        Desk.sentence("RUNS: NUMBERS keep what they are, however many there are");
        String puts = "";
        for (int i = 0; i < 48; i++) {
            puts += "put d" + i % 10 + ";";
        }
        TalkHouse y = Desk.taken(talkOf(48) + "def f(p,s)c:e=" + gets(48) + "say p;say s;say jj;say ml;say kh;close c "
            + "def z()c:end=new d=f(55,66);" + puts + "wait d;close c");
        Desk.due("all its STEPS", y.run(8, 600), 2 * 48 + 5 + 1 + 3);
        int[] due = {55, 66, 9, 7, 9};
        for (int i = 0; i < due.length; i++) {
            Desk.due("said(" + i + ", 0)", y.said(i, 0), due[i]);
        }
    }
}
