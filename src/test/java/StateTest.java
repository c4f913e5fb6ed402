/** Promises 16 to 19: process, channel, message, said; and part II of the Terms, STEP by STEP. */
public final class StateTest {
    private static final int NONE = TalkHouse.NONE;

    public static void main(String[] args) {
        processes();
        wrongProcesses();
        channelsAndMessages();
        namesInMessages();
        sentChannels();
        joinedDown();
        joinedUp();
        joinedTwice();
        joinedAndSent();
        goesOn();
        numbersSaid();
        Desk.finish();
    }

    private static void processIs(TalkHouse x, int p, int... due) {
        for (int what = 0; what < due.length; what++) {
            Desk.due("process(" + p + ", " + what + ") behind " + x.look(5), x.process(p, what), due[what]);
        }
    }

    private static void channelIs(TalkHouse x, int c, int... due) {
        for (int what = 0; what < due.length; what++) {
            Desk.due("channel(" + c + ", " + what + ") behind " + x.look(5), x.channel(c, what), due[what]);
        }
    }

    private static void messageIs(TalkHouse x, int c, int i, int kind, int value) {
        Desk.due("message(" + c + ", " + i + ", 0) behind " + x.look(5), x.message(c, i, 0), kind);
        Desk.due("message(" + c + ", " + i + ", 1) behind " + x.look(5), x.message(c, i, 1), value);
    }

    /** The PROCESS does a STEP, wherever it stands among those that are ready. */
    private static void stepOf(TalkHouse x, int p) {
        for (int k = 0; k < x.ready(); k++) {
            if (x.which(k) == p) {
                Desk.due("step of " + p, x.step(k), p);
                return;
            }
        }
        Desk.due("is ready: " + p + " behind " + x.look(5), false, true);
    }

    private static void processes() {
        TalkHouse x = Desk.taken("def e(x,d:end)c:!end=say x;put c x+1;wait d;close c def b()c:end=say 8;close c "
            + "def f()c:end=new d=b();new a=e(5,d);get a y;say y;wait a;close c");
        processIs(x, 0, 2, 0, 0, 0, 0, 0, 0);
        stepOf(x, 0);
        processIs(x, 0, 2, 0, 0, 1, 0, 1, 0);
        processIs(x, 1, 1, 0, 0, 0, 1, 0, 0);
        stepOf(x, 0);
        processIs(x, 0, 2, 0, 1, 2, 0, 1, 0);
        processIs(x, 2, 0, 0, 0, 0, 2, 1, 0);
        stepOf(x, 2);
        processIs(x, 2, 0, 0, 0, 1, 2, 1, 1);
        stepOf(x, 2);
        processIs(x, 2, 0, 0, 1, 2, 2, 1, 1);
        processIs(x, 0, 2, 0, 0, 2, 0, 1, 0);
        stepOf(x, 0);
        stepOf(x, 0);
        processIs(x, 0, 2, 0, 1, 4, 0, 1, 1);
        stepOf(x, 1);
        stepOf(x, 1);
        processIs(x, 1, 1, 1, 0, 2, NONE, 0, 1);
        processIs(x, 2, 0, 0, 0, 2, 2, 1, 1);
        stepOf(x, 2);
        processIs(x, 2, 0, 0, 0, 3, 2, 0, 1);
        stepOf(x, 2);
        processIs(x, 2, 0, 1, 0, 4, NONE, 0, 1);
        stepOf(x, 0);
        stepOf(x, 0);
        processIs(x, 0, 2, 1, 0, 6, NONE, 0, 1);
        Desk.due("said by 2", x.said(0, 0), 5);
        Desk.due("said by 0", x.said(1, 0), 6);
        Desk.due("said by 1", x.said(2, 0), 8);
        Desk.due("the end", x.ready(), 0);
    }

    private static void wrongProcesses() {
        TalkHouse x = Desk.taken("def f()c:end=close c");
        int[] wrong = {1, -1, 79, 80, Integer.MAX_VALUE, Integer.MIN_VALUE};
        for (int w : wrong) {
            for (int what = 0; what < 7; what++) {
                Desk.due("process(" + w + ", " + what + ")", x.process(w, what), NONE);
            }
            for (int what = 0; what < 3; what++) {
                Desk.due("channel(" + w + ", " + what + ")", x.channel(w, what), NONE);
            }
            x.step(0);
            Desk.due("message(" + w + ", 0, 0)", x.message(w, 0, 0), NONE);
            Desk.due("message(0, " + w + ", 0)", x.message(0, w, 0), NONE);
            Desk.due("said(" + w + ", 0)", x.said(w, 0), NONE);
        }
        for (int what : new int[] {7, -1, 100, Integer.MAX_VALUE, Integer.MIN_VALUE}) {
            Desk.due("process(0, " + what + ")", x.process(0, what), NONE);
            Desk.due("channel(0, " + what + ")", x.channel(0, what), NONE);
            Desk.due("message(0, 0, " + what + ")", x.message(0, 0, what), NONE);
        }
        Desk.due("channel(0, 3)", x.channel(0, 3), NONE);
        Desk.due("message(0, 0, 2)", x.message(0, 0, 2), NONE);
    }

    private static void channelsAndMessages() {
        TalkHouse x = Desk.taken("def a()c:!!+{ab:end,zzzzzz:?end}=put c 1-3;put c 77;pick c zzzzzz;get c x;close c "
            + "def f()c:end=new d=a();get d x;get d y;case d{ab:wait d;close c|zzzzzz:put d x+y;wait d;close c}");
        stepOf(x, 0);
        channelIs(x, 1, 0, 0, 0);
        Desk.due("no message", x.message(1, 0, 0), NONE);
        stepOf(x, 1);
        stepOf(x, 1);
        channelIs(x, 1, 2, 0, 0);
        messageIs(x, 1, 0, 0, -2);
        messageIs(x, 1, 1, 0, 77);
        messageIs(x, 1, 2, NONE, NONE);
        Desk.due("a letter of a number", x.message(1, 0, 100), NONE);
        stepOf(x, 1);
        channelIs(x, 1, 3, 0, 0);
        messageIs(x, 1, 2, 2, 6);
        processIs(x, 1, 0, 0, 1);
        stepOf(x, 0);
        channelIs(x, 1, 2, 0, 0);
        messageIs(x, 1, 0, 0, 77);
        stepOf(x, 0);
        messageIs(x, 1, 0, 2, 6);
        stepOf(x, 0);
        channelIs(x, 1, 0, 0, 0);
        stepOf(x, 0);
        channelIs(x, 1, 0, 1, 0);
        Desk.due("what is UP is not shown", x.message(1, 0, 0), NONE);
        processIs(x, 1, 0, 0, 0);
        stepOf(x, 1);
        channelIs(x, 1, 0, 0, 0);
        stepOf(x, 1);
        messageIs(x, 1, 0, 3, 0);
        Desk.due("a letter of the END", x.message(1, 0, 100), NONE);
        stepOf(x, 0);
        channelIs(x, 1, 0, 0, 0);
        stepOf(x, 0);
        channelIs(x, 0, 1, 0, 0);
        messageIs(x, 0, 0, 3, 0);
    }

    private static void namesInMessages() {
        TalkHouse x = Desk.taken("def f()c:+{azb:+{a:+{zyxwvu:end}}}=pick c azb;pick c a;pick c zyxwvu;close c");
        Desk.due("steps", x.run(1, 600), 4);
        String[] names = {"azb", "a", "zyxwvu"};
        for (int i = 0; i < names.length; i++) {
            messageIs(x, 0, i, 2, names[i].length());
            for (int k = 0; k < 9; k++) {
                int due = k < names[i].length() ? names[i].charAt(k) : NONE;
                Desk.due("letter " + k + " of " + names[i], x.message(0, i, 100 + k), due);
            }
            Desk.due("what 99", x.message(0, i, 99), NONE);
            Desk.due("what MAX", x.message(0, i, Integer.MAX_VALUE), NONE);
            Desk.due("what 2", x.message(0, i, 2), NONE);
            Desk.due("what -1", x.message(0, i, -1), NONE);
            Desk.due("what MIN", x.message(0, i, Integer.MIN_VALUE), NONE);
        }
        messageIs(x, 0, 3, 3, 0);
        messageIs(x, 0, 4, NONE, NONE);
        messageIs(x, 0, -1, NONE, NONE);
    }

    private static void sentChannels() {
        TalkHouse x = Desk.taken("def n()c:!end=put c 42;close c "
            + "def p()c:>!end.end=new d=n();send c d;close c "
            + "def q()c:<!end.end=take c g;get g x;say x;wait g;close c "
            + "def f()c:end=new a=p();new b=q();take a h;send b h;wait a;wait b;close c");
        stepOf(x, 0);
        stepOf(x, 0);
        processIs(x, 0, 3, 0, 1, 2, 0, 2, 0);
        processIs(x, 2, 2, 0, 1, 0, 2, 0, 0);
        stepOf(x, 1);
        processIs(x, 1, 1, 0, 0, 1, 1, 1, 0);
        stepOf(x, 1);
        processIs(x, 1, 1, 0, 0, 2, 1, 0, 0);
        messageIs(x, 1, 0, 1, 3);
        Desk.due("a letter of a channel", x.message(1, 0, 100), NONE);
        stepOf(x, 0);
        processIs(x, 0, 3, 0, 0, 3, 0, 3, 0);
        stepOf(x, 0);
        processIs(x, 0, 3, 0, 1, 4, 0, 2, 0);
        channelIs(x, 2, 0, 1, 0);
        stepOf(x, 2);
        processIs(x, 2, 2, 0, 1, 1, 2, 1, 0);
        Desk.due("to the end", x.run(1, 600), 10);
        Desk.due("said", x.said(0, 0), 42);
        Desk.due("said by", x.said(0, 1), 2);
        Desk.due("all over", x.look(3), 0);
    }

    private static void joinedDown() {
        TalkHouse x = Desk.taken("def q()d:!?end=put d 7;get d v;say v;close d "
            + "def p()c:!!?end=new d=q();put c 1;same c d "
            + "def m()c:end=new e=p();get e a;get e b;put e 10*a+b;wait e;close c");
        stepOf(x, 0);
        stepOf(x, 1);
        stepOf(x, 1);
        stepOf(x, 2);
        channelIs(x, 1, 1, 0, 0);
        channelIs(x, 2, 1, 0, 0);
        processIs(x, 1, 1, 0, 0, 2, 1, 1, 0);
        stepOf(x, 1);
        processIs(x, 1, 1, 1, 0, 3, NONE, 0, 0);
        processIs(x, 2, 0, 0, 1, 1, 1, 0, 0);
        channelIs(x, 1, 2, 0, 0);
        channelIs(x, 2, 2, 0, 1);
        channelIs(x, 0, 0, 0, 0);
        messageIs(x, 1, 0, 0, 1);
        messageIs(x, 1, 1, 0, 7);
        messageIs(x, 2, 0, 0, 1);
        messageIs(x, 2, 1, 0, 7);
        messageIs(x, 2, 2, NONE, NONE);
        Desk.due("channels made", x.look(4), 3);
        stepOf(x, 0);
        stepOf(x, 0);
        stepOf(x, 0);
        channelIs(x, 1, 0, 1, 0);
        channelIs(x, 2, 0, 1, 1);
        stepOf(x, 2);
        stepOf(x, 2);
        Desk.due("said", x.said(0, 0), 17);
        stepOf(x, 2);
        messageIs(x, 2, 0, 3, 0);
        messageIs(x, 1, 0, 3, 0);
        Desk.due("to the end", x.run(1, 600), 2);
        Desk.due("all over", x.look(3), 0);
        Desk.due("begin", x.begin(), true);
        stepOf(x, 0);
        stepOf(x, 1);
        channelIs(x, 2, 0, 0, 0);
    }

    private static void joinedUp() {
        TalkHouse x = Desk.taken("def q()d:??end=get d v;say v;get d w;say w;close d "
            + "def p()c:??end=get c v;new d=q();put d v;same c d "
            + "def m()c:end=new e=p();put e 1;put e 2;wait e;close c");
        stepOf(x, 0);
        stepOf(x, 0);
        stepOf(x, 0);
        channelIs(x, 1, 0, 2, 0);
        stepOf(x, 1);
        stepOf(x, 1);
        stepOf(x, 1);
        channelIs(x, 1, 0, 1, 0);
        channelIs(x, 2, 0, 1, 0);
        stepOf(x, 1);
        channelIs(x, 1, 0, 2, 0);
        channelIs(x, 2, 0, 2, 1);
        processIs(x, 2, 0, 0, 0, 0, 1, 0, 0);
        Desk.due("to the end", x.run(1, 600), 7);
        Desk.due("the other's first", x.said(0, 0), 1);
        Desk.due("then its own", x.said(1, 0), 2);
        Desk.due("all over", x.look(3), 0);
        // what comes behind the join lies behind the other's
        x.begin();
        for (int p : new int[] {0, 0, 1, 1, 1, 1, 0}) {
            stepOf(x, p);
        }
        channelIs(x, 1, 0, 2, 0);
        Desk.due("to the end", x.run(1, 600), 7);
        Desk.due("the other's first", x.said(0, 0), 1);
        Desk.due("then what came later", x.said(1, 0), 2);
        Desk.due("all over", x.look(3), 0);
    }

    private static void joinedTwice() {
        TalkHouse x = Desk.taken("def a()c:!!!end=put c 1;put c 2;put c 3;close c "
            + "def b()c:!!!end=new d=a();same c d def e()c:!!!end=new d=b();same c d "
            + "def f()c:!!!!end=new d=e();put c 9;same c d");
        for (int seed = 0; seed < 60; seed++) {
            x.begin();
            Desk.due("steps", x.run(seed, 600), 3 + 2 + 2 + 4);
            for (int c = 0; c < 4; c++) {
                channelIs(x, c, 5, 0, c == 0 ? 0 : 1);
                messageIs(x, c, 0, 0, 9);
                messageIs(x, c, 1, 0, 1);
                messageIs(x, c, 2, 0, 2);
                messageIs(x, c, 3, 0, 3);
                messageIs(x, c, 4, 3, 0);
                messageIs(x, c, 5, NONE, NONE);
            }
        }
        // the inner ones first, then the outer ones, and the other way round
        int[][] orders = {{0, 1, 2, 3, 2, 1, 0, 0}, {0, 1, 2, 0, 0, 1, 2, 3}};
        for (int[] order : orders) {
            x.begin();
            for (int p : order) {
                stepOf(x, p);
            }
            processIs(x, 3, 0, 0, 0, 1, 0, 0, 0);
            channelIs(x, 3, 2, 0, 1);
        }
    }

    /** A CHANNEL on its way can become one with another: it is the one given, and keeps its number. */
    private static void joinedAndSent() {
        TalkHouse x = Desk.taken("def a()c:!end=put c 4;close c def b()c:!end=new d=a();same c d "
            + "def s()c:>!end.end=new d=b();send c d;close c "
            + "def f()c:end=new e=s();take e d;get d x;say x;wait d;wait e;close c");
        stepOf(x, 0);
        stepOf(x, 1);
        stepOf(x, 1);
        messageIs(x, 1, 0, 1, 2);
        stepOf(x, 2);
        stepOf(x, 3);
        stepOf(x, 2);
        messageIs(x, 1, 0, 1, 2);
        channelIs(x, 2, 1, 0, 0);
        channelIs(x, 3, 1, 0, 1);
        Desk.due("to the end", x.run(4, 600), 8);
        Desk.due("said", x.said(0, 0), 4);
        Desk.due("all over", x.look(3), 0);
    }

    private static void goesOn() {
        TalkHouse x = Desk.taken("def g(x,d:end,y)c:!end=say x;say y;wait d;put c x;close c def e()c:end=close c "
            + "def f()c:!!end=new a=e();put c 1;go g(1+2,a,4)"
            + " def h(y,x)c:!end=new d=e();go g(y,d,x) def i()c:!end=go h(1,2)");
        Desk.due("it is taken", x.look(1), 5);
        processIs(x, 0, 4, 0, 0, 0, 0, 0, 0);
        stepOf(x, 0);
        processIs(x, 0, 3, 0, 0, 1, 0, 0, 0);
        stepOf(x, 0);
        processIs(x, 0, 3, 0, 0, 2, 0, 1, 0);
        stepOf(x, 0);
        processIs(x, 0, 0, 0, 0, 3, 0, 1, 0);
        Desk.due("to the end", x.run(1, 600), 6);
        Desk.due("said x", x.said(0, 0), 1);
        Desk.due("said y", x.said(1, 0), 2);
        Desk.due("one process for all of it", x.process(0, 3), 8);
        Desk.due("PROCESS 1", x.process(1, 3), 1);
        // ARGS that change places
        TalkHouse y = Desk.taken("def g(x,y)c:end=say x;say y;close c def h(x,y)c:end=go g(y,x) "
            + "def i()c:end=go h(5,6)");
        y.run(1, 600);
        Desk.due("said(0)", y.said(0, 0), 6);
        Desk.due("said(1)", y.said(1, 0), 5);
        Desk.due("the DEF of one that is OVER", y.process(0, 0), 0);
    }

    private static void numbersSaid() {
        TalkHouse x = Desk.taken("def e(x)c:end=say x;say x*10;close c def f()c:end=say 3;new a=e(1);new b=e(2);"
            + "wait a;wait b;say 0-4;close c");
        for (int p : new int[] {0, 0, 0, 2, 1, 1, 2, 1, 2, 0, 0, 0}) {
            stepOf(x, p);
        }
        int[][] due = {{3, 0}, {2, 2}, {1, 1}, {10, 1}, {20, 2}, {-4, 0}};
        for (int i = 0; i < due.length; i++) {
            Desk.due("said(" + i + ", 0)", x.said(i, 0), due[i][0]);
            Desk.due("said(" + i + ", 1)", x.said(i, 1), due[i][1]);
            Desk.due("said(" + i + ", 2)", x.said(i, 2), NONE);
            Desk.due("said(" + i + ", -1)", x.said(i, -1), NONE);
        }
        Desk.due("said(6, 0)", x.said(6, 0), NONE);
        Desk.due("said(6, 1)", x.said(6, 1), NONE);
        Desk.due("said(-1, 0)", x.said(-1, 0), NONE);
        Desk.due("look(6)", x.look(6), 6);
        processIs(x, 0, 1, 0, 0, 6, 0, 0, 2);
    }
}
