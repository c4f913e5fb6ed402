import java.util.ArrayList;
import java.util.HashMap;
import java.util.List;
import java.util.Map;

/** A second run of a text that Judge has read, with objects for all that the document names. */
final class Play {
    static final class Line {
        int number;
        Line with;
        List<Object[]> down = new ArrayList<>();
        List<Object[]> up = new ArrayList<>();

        Line whole() {
            return with == null ? this : with.whole();
        }
    }

    static final class Speaker {
        int number;
        Judge.Def def;
        Judge.Act act;
        boolean over;
        int steps;
        int said;
        Line given;
        Map<String, Line> has = new HashMap<>();
        Map<String, Integer> numbers = new HashMap<>();
    }

    final List<Speaker> speakers = new ArrayList<>();
    final List<Line> lines = new ArrayList<>();
    final List<int[]> said = new ArrayList<>();
    int done;
    boolean spent;

    Play(Judge judge) {
        Judge.Def last = null;
        for (Judge.Def def : judge.defs.values()) {
            last = def;
        }
        add(last, new ArrayList<>());
    }

    private Speaker add(Judge.Def def, List<Object> args) {
        Speaker speaker = new Speaker();
        speaker.number = speakers.size();
        speaker.given = new Line();
        speaker.given.number = lines.size();
        lines.add(speaker.given);
        speakers.add(speaker);
        become(speaker, def, args);
        return speaker;
    }

    private void become(Speaker speaker, Judge.Def def, List<Object> args) {
        speaker.def = def;
        speaker.has.clear();
        speaker.numbers.clear();
        for (int k = 0; k < args.size(); k++) {
            String name = def.params.get(k).name();
            if (args.get(k) instanceof Line line) {
                speaker.has.put(name, line);
            } else {
                speaker.numbers.put(name, (Integer) args.get(k));
            }
        }
        comeTo(speaker, def.body);
    }

    private void comeTo(Speaker speaker, Judge.Act act) {
        Judge.Act here = act;
        while (here != null && here.word.equals("if")) {
            here = worth(speaker, here.sum) != 0 ? here.next : here.second;
        }
        speaker.act = here;
    }

    private static int worth(Speaker speaker, Judge.Sum sum) {
        switch (sum.op) {
            case "number":
                return sum.number;
            case "name":
                return speaker.numbers.get(sum.name);
            case "negate":
                return -worth(speaker, sum.left);
            default:
                break;
        }
        int a = worth(speaker, sum.left);
        int b = worth(speaker, sum.right);
        switch (sum.op) {
            case "+":
                return a + b;
            case "-":
                return a - b;
            case "*":
                return a * b;
            case "<":
                return a < b ? 1 : 0;
            default:
                return a == b ? 1 : 0;
        }
    }

    private static boolean gives(Speaker speaker, Judge.Act act) {
        return act.channel.equals(speaker.def.given);
    }

    private static Line line(Speaker speaker, Judge.Act act) {
        return (gives(speaker, act) ? speaker.given : speaker.has.get(act.channel)).whole();
    }

    boolean waits(Speaker speaker) {
        if (speaker.over) {
            return false;
        }
        switch (speaker.act.word) {
            case "get": case "take": case "case": case "wait":
                return incoming(speaker).isEmpty();
            default:
                return false;
        }
    }

    private static List<Object[]> incoming(Speaker speaker) {
        Line line = line(speaker, speaker.act);
        return gives(speaker, speaker.act) ? line.up : line.down;
    }

    List<Speaker> ready() {
        List<Speaker> ready = new ArrayList<>();
        for (Speaker speaker : speakers) {
            if (!spent && !speaker.over && !waits(speaker)) {
                ready.add(speaker);
            }
        }
        return ready;
    }

    int step(int k) {
        List<Speaker> ready = ready();
        if (k < 0 || k >= ready.size()) {
            return -1;
        }
        Speaker speaker = ready.get(k);
        if (done == 600 || speaker.act.word.equals("new") && speakers.size() == 80) {
            spent = true;
            return -1;
        }
        done++;
        speaker.steps++;
        act(speaker);
        return speaker.number;
    }

    private List<Object> args(Speaker speaker, Judge.Act act) {
        List<Object> args = new ArrayList<>();
        for (Object arg : act.args) {
            if (arg instanceof Judge.Sum sum) {
                args.add(worth(speaker, sum));
            } else {
                args.add(speaker.has.remove(arg));
            }
        }
        return args;
    }

    private void lay(Speaker speaker, Object... message) {
        Line line = line(speaker, speaker.act);
        (gives(speaker, speaker.act) ? line.down : line.up).add(message);
    }

    private void act(Speaker speaker) {
        Judge.Act act = speaker.act;
        Judge.Act next = act.next;
        switch (act.word) {
            case "put":
                lay(speaker, 0, worth(speaker, act.sum));
                break;
            case "send":
                lay(speaker, 1, speaker.has.remove(act.other));
                break;
            case "pick":
                lay(speaker, 2, act.other);
                break;
            case "close":
                lay(speaker, 3, 0);
                speaker.over = true;
                return;
            case "get":
                speaker.numbers.put(act.other, (Integer) incoming(speaker).remove(0)[1]);
                break;
            case "take":
                speaker.has.put(act.other, (Line) incoming(speaker).remove(0)[1]);
                break;
            case "case":
                next = act.branches.get(incoming(speaker).remove(0)[1]);
                break;
            case "wait":
                incoming(speaker).remove(0);
                speaker.has.remove(act.channel);
                break;
            case "new":
                speaker.has.put(act.channel, add(act.def, args(speaker, act)).given);
                break;
            case "go":
                become(speaker, act.def, args(speaker, act));
                return;
            case "same":
                join(speaker.given.whole(), speaker.has.get(act.other).whole());
                speaker.over = true;
                return;
            default:
                said.add(new int[] {worth(speaker, act.sum), speaker.number});
                speaker.said++;
                break;
        }
        comeTo(speaker, next);
    }

    private static void join(Line given, Line other) {
        given.down.addAll(other.down);
        given.up.addAll(0, other.up);
        other.with = given;
    }
}
