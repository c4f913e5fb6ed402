import java.util.List;
import java.util.Random;

/**
 * All promises, over texts that were written by chance: the class is held against a second reader and a
 * second run, both written from the document in another way. The seeds are fixed.
 */
public final class OracleTest {
    private static final int TEXTS = 500;
    private static final int SPOILT_A_TEXT = 12;
    private static final int[] faults = new int[8];
    private static int ended = 0;
    private static int steps = 0;

    public static void main(String[] args) {
        int texts = args.length > 0 ? Integer.parseInt(args[0]) : TEXTS;
        int firstSeed = args.length > 1 ? Integer.parseInt(args[1]) : 0;
        for (int seed = firstSeed; seed < firstSeed + texts; seed++) {
            Random chance = new Random(seed);
            String text = Author.write(chance);
            compare(text, chance, true);
            for (int i = 0; i < SPOILT_A_TEXT; i++) {
                compare(Author.spoil(text, chance), chance, false);
            }
        }
        System.out.print("texts by fault:");
        for (int count : faults) {
            System.out.print(" " + count);
        }
        System.out.println("; runs ended: " + ended + ", steps: " + steps);
        Desk.finish();
    }

    private static void compare(String text, Random chance, boolean mustBeTaken) {
        TalkHouse house = new TalkHouse();
        int got = Desk.load(house, text);
        Judge judge = null;
        int fault = 0;
        int place = TalkHouse.NONE;
        try {
            judge = new Judge(text);
        } catch (Judge.Fault wrong) {
            fault = wrong.kind;
            place = wrong.place;
        }
        faults[fault]++;
        if (mustBeTaken && fault != 0 && fault != 5) {
            Desk.due("the author's own text: " + text, fault, 0);
        }
        Desk.due("fault(0) of: " + text, house.fault(0), fault);
        Desk.due("fault(1) of: " + text, house.fault(1), place);
        Desk.due("load of: " + text, got, judge == null ? TalkHouse.NONE : judge.defs.size());
        if (judge == null || got == TalkHouse.NONE) {
            return;
        }
        compareTexts(house, judge, text);
        for (int i = 0; i < 3; i++) {
            house.begin();
            compareRuns(house, new Play(judge), chance, text);
        }
    }

    private static void compareTexts(TalkHouse house, Judge judge, String text) {
        Desk.due("types of: " + text, house.look(0), judge.types.size());
        for (Judge.Def def : judge.defs.values()) {
            int i = def.number;
            int talks = 0;
            for (int k = 0; k < def.params.size(); k++) {
                Judge.Talk talk = def.params.get(k).talk();
                talks += talk == null ? 0 : 1;
                Desk.due("print(" + i + ", " + k + ") of: " + text, Desk.printed(house, i, k),
                    talk == null ? "NONE" : talk.text());
            }
            Desk.due("print(" + i + ", NONE) of: " + text, Desk.printed(house, i, -1), def.gives.text());
            Desk.due("def(" + i + ", 0) of: " + text, house.def(i, 0), def.params.size());
            Desk.due("def(" + i + ", 1) of: " + text, house.def(i, 1), talks);
            Desk.due("def(" + i + ", 2) of: " + text, house.def(i, 2), def.words);
            Desk.due("def(" + i + ", 3) of: " + text, house.def(i, 3), def.least);
            for (Judge.Def other : judge.defs.values()) {
                Desk.due("same(" + i + ", " + other.number + ") of: " + text, house.same(i, -1, other.number, -1),
                    def.gives.text().equals(other.gives.text()));
            }
        }
    }

    private static void compareRuns(TalkHouse house, Play play, Random chance, String text) {
        for (int i = 0; i < 700; i++) {
            List<Play.Speaker> ready = play.ready();
            Desk.due("ready of: " + text, house.ready(), ready.size());
            if (ready.isEmpty()) {
                break;
            }
            int k = chance.nextInt(ready.size());
            Desk.due("which of: " + text, house.which(k), ready.get(k).number);
            Desk.due("step of: " + text, house.step(k), play.step(k));
            steps++;
            if (chance.nextInt(8) == 0) {
                compareStates(house, play, text);
            }
        }
        compareStates(house, play, text);
        ended++;
        if (!play.spent) {
            judgeEnd(house, play, text);
        }
    }

    /**
     * At the end each one is OVER or waits; and the first in a chain of those that wait asks for what nobody
     * says: into CHANNEL 0, or into one that went out of the house through it.
     */
    private static void judgeEnd(TalkHouse house, Play play, String text) {
        int waiting = 0;
        for (int p = 0; p < house.look(2); p++) {
            waiting += house.process(p, 2);
        }
        Desk.due("not over at the end of: " + text, house.look(3), waiting);
        boolean asksZero = false;
        for (Play.Speaker speaker : play.speakers) {
            boolean gives = !speaker.over && speaker.given.whole().number == 0;
            asksZero |= gives && speaker.act.channel.equals(speaker.def.given);
        }
        for (Object[] message : play.lines.get(0).whole().down) {
            asksZero |= message[1] instanceof Play.Line;
        }
        Desk.due("some wait, but none for CHANNEL 0: " + text, waiting > 0 && !asksZero, false);
    }

    private static void compareStates(TalkHouse house, Play play, String text) {
        int over = 0;
        for (Play.Speaker speaker : play.speakers) {
            int p = speaker.number;
            over += speaker.over ? 1 : 0;
            Desk.due("process(" + p + ", 0) of: " + text, house.process(p, 0), speaker.def.number);
            Desk.due("process(" + p + ", 1) of: " + text, house.process(p, 1), speaker.over ? 1 : 0);
            Desk.due("process(" + p + ", 2) of: " + text, house.process(p, 2), play.waits(speaker) ? 1 : 0);
            Desk.due("process(" + p + ", 3) of: " + text, house.process(p, 3), speaker.steps);
            Desk.due("process(" + p + ", 4) of: " + text, house.process(p, 4),
                speaker.over ? -1 : speaker.given.whole().number);
            Desk.due("process(" + p + ", 5) of: " + text, house.process(p, 5), speaker.over ? 0 : speaker.has.size());
            Desk.due("process(" + p + ", 6) of: " + text, house.process(p, 6), speaker.said);
        }
        int all = play.speakers.size();
        int[] looks = {all, all - over, play.lines.size(), play.done, play.said.size(), play.spent ? 1 : 0};
        for (int i = 0; i < looks.length; i++) {
            Desk.due("look(" + (i + 2) + ") of: " + text, house.look(i + 2), looks[i]);
        }
        Desk.due("no more processes: " + text, house.process(all, 0), -1);
        compareChannels(house, play, text);
        for (int i = 0; i < play.said.size() && i < 200; i++) {
            Desk.due("said(" + i + ", 0) of: " + text, house.said(i, 0), play.said.get(i)[0]);
            Desk.due("said(" + i + ", 1) of: " + text, house.said(i, 1), play.said.get(i)[1]);
        }
        Desk.due("said no more: " + text, house.said(Math.min(play.said.size(), 200), 1), -1);
    }

    private static void compareChannels(TalkHouse house, Play play, String text) {
        for (int c = 0; c < play.lines.size(); c++) {
            Play.Line line = play.lines.get(c).whole();
            Desk.due("channel(" + c + ", 0) of: " + text, house.channel(c, 0), line.down.size());
            Desk.due("channel(" + c + ", 1) of: " + text, house.channel(c, 1), line.up.size());
            Desk.due("channel(" + c + ", 2) of: " + text, house.channel(c, 2), line.number == c ? 0 : 1);
            for (int i = 0; i < line.down.size(); i++) {
                Object[] message = line.down.get(i);
                Desk.due("message(" + c + ", " + i + ", 0) of: " + text, house.message(c, i, 0), (Integer) message[0]);
                Desk.due("message(" + c + ", " + i + ", 1) of: " + text, house.message(c, i, 1), worth(message[1]));
                if (message[1] instanceof String name) {
                    for (int k = 0; k <= name.length(); k++) {
                        int letter = k < name.length() ? name.charAt(k) : -1;
                        Desk.due("letter " + k + " of: " + text, house.message(c, i, 100 + k), letter);
                    }
                }
            }
            Desk.due("no more messages: " + text, house.message(c, line.down.size(), 0), -1);
        }
        Desk.due("no more channels: " + text, house.channel(play.lines.size(), 0), -1);
    }

    private static int worth(Object said) {
        if (said instanceof Play.Line line) {
            return line.whole().number;
        }
        return said instanceof String name ? name.length() : (Integer) said;
    }
}
