/** Promises 1, 2, 3: a new object, feed, end; and the tape's part in 4. */
public final class TapeTest {
    private static final String SHORTEST = "def f()c:end=close c";

    public static void main(String[] args) {
        newObject();
        feeding();
        cutting();
        highestByteFirst();
        loadEmptiesTheTape();
        Desk.finish();
    }

    private static void newObject() {
        TalkHouse x = new TalkHouse();
        for (int what = 0; what <= 7; what++) {
            Desk.due("new look " + what, x.look(what), 0);
        }
        Desk.due("new look(8)", x.look(8), -1);
        Desk.due("new look(-1)", x.look(-1), -1);
        Desk.due("new fault(0)", x.fault(0), 0);
        Desk.due("new fault(1)", x.fault(1), -1);
        Desk.due("new out(0)", x.out(0), -1);
        Desk.due("new begin", x.begin(), false);
        Desk.due("new ready", x.ready(), 0);
        Desk.due("new which(0)", x.which(0), -1);
        Desk.due("new step(0)", x.step(0), -1);
        Desk.due("new run(1, 600)", x.run(1, 600), 0);
        Desk.due("new run(1, 601)", x.run(1, 601), -1);
        Desk.due("new def", x.def(0, 0), -1);
        Desk.due("new print", x.print(0, -1), -1);
        Desk.due("new same", x.same(0, -1, 0, -1), false);
        Desk.due("new process", x.process(0, 0), -1);
        Desk.due("new channel", x.channel(0, 0), -1);
        Desk.due("new message", x.message(0, 0, 0), -1);
        Desk.due("new said", x.said(0, 0), -1);
        Desk.due("new end(0)", x.end(0), true);
        Desk.due("new end(1)", x.end(1), false);
        Desk.due("the empty text", x.load(), -1);
        Desk.due("its fault", x.fault(0), 1);
        Desk.due("its place", x.fault(1), 0);
        Desk.due("NONE", TalkHouse.NONE, -1);
    }

    private static void feeding() {
        TalkHouse x = new TalkHouse();
        for (int i = 1; i <= 50; i++) {
            Desk.due("feed " + i, x.feed(0, 0, 0, 0, 0), 20 * i);
        }
        Desk.due("feed 51", x.feed(0, 0, 0, 0, 0), -1);
        Desk.due("end behind it", x.end(1001), false);
        Desk.due("nothing came", x.end(1000), true);
        Desk.due("end(981)", x.end(981), true);
        Desk.due("20 bytes more are too many", x.feed(0, 0, 0, 0, 0), -1);
        Desk.due("end(980)", x.end(980), true);
        Desk.due("20 bytes more are not", x.feed(0, 0, 0, 0, 0), 1000);
    }

    private static void cutting() {
        TalkHouse x = new TalkHouse();
        x.feed(0, 0, 0, 0, 0);
        Desk.due("end(-1)", x.end(-1), false);
        Desk.due("end(MIN)", x.end(Integer.MIN_VALUE), false);
        Desk.due("end(21)", x.end(21), false);
        Desk.due("end(MAX)", x.end(Integer.MAX_VALUE), false);
        Desk.due("end(20)", x.end(20), true);
        Desk.due("end(7)", x.end(7), true);
        Desk.due("end(8)", x.end(8), false);
        Desk.due("feed behind 7", x.feed(0, 0, 0, 0, 0), 27);
        Desk.due("end(0)", x.end(0), true);
        Desk.due("feed behind 0", x.feed(0, 0, 0, 0, 0), 20);
    }

    private static void highestByteFirst() {
        TalkHouse x = new TalkHouse();
        Desk.due("feed", x.feed(0x64656620, 0x66282963, 0x3a656e64, 0x3d636c6f, 0x73652063), 20);
        Desk.due("load", x.load(), 1);
        Desk.due("a byte above 127", x.feed(0xff000000, 0, 0, 0, 0), 20);
        Desk.due("its load", x.load(), -1);
        Desk.due("its fault", x.fault(0), 1);
        Desk.due("its place", x.fault(1), 0);
    }

    private static void loadEmptiesTheTape() {
        TalkHouse x = new TalkHouse();
        Desk.load(x, SHORTEST);
        Desk.due("end(1) behind a load", x.end(1), false);
        Desk.load(x, "wrong");
        Desk.due("end(1) behind a fault", x.end(1), false);
        Desk.due("the empty text again", x.load(), -1);
        Desk.due("its place", x.fault(1), 0);
    }
}
