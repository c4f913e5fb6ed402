import java.util.ArrayList;
import java.util.Arrays;
import java.util.HashSet;
import java.util.LinkedHashMap;
import java.util.List;
import java.util.Map;
import java.util.Set;
import java.util.TreeMap;

/** A second reader of texts, written from the document in another way, to hold the class against. */
final class Judge {
    static final Set<String> WORDS = new HashSet<>(Arrays.asList(
        "type def end put get send take pick case new same go if else say close wait".split(" ")));

    static final class Fault extends RuntimeException {
        private static final long serialVersionUID = 1L;
        final int kind;
        final int place;

        Fault(int kind, int place) {
            this.kind = kind;
            this.place = place;
        }
    }

    /** kind: n a NAME, w a WORD, d a NUMBER, s a sign, b what is none, e the end. */
    record Token(char kind, String text, int place) {
    }

    /** A T: its own text, in which CHOICES are in order, tells it from all others. */
    record Talk(String sign, Talk first, Talk then, TreeMap<String, Talk> branches, int parts, String text) {
    }

    record Param(String name, Talk talk) {
    }

    static final class Sum {
        String op;
        String name;
        int number;
        Sum left;
        Sum right;
    }

    static final class Act {
        String word;
        String channel;
        String other;
        Sum sum;
        Def def;
        List<Object> args = new ArrayList<>();
        Map<String, Act> branches = new LinkedHashMap<>();
        Act next;
        Act second;
    }

    static final class Def {
        int number;
        List<Param> params = new ArrayList<>();
        String given;
        Talk gives;
        Act body;
        int words;
        int least;
        int firstParam = -1;
    }

    private static final class World {
        String given;
        Talk gives;
        Map<String, Talk> has = new LinkedHashMap<>();
        Set<String> numbers = new HashSet<>();

        World copy() {
            World copy = new World();
            copy.given = given;
            copy.gives = gives;
            copy.has.putAll(has);
            copy.numbers.addAll(numbers);
            return copy;
        }

        boolean knows(String name) {
            return name.equals(given) || has.containsKey(name) || numbers.contains(name);
        }

        Talk talk(String name) {
            return name.equals(given) ? gives : has.get(name);
        }
    }

    final Map<String, Talk> types = new LinkedHashMap<>();
    final Map<String, Def> defs = new LinkedHashMap<>();
    private final List<Token> tokens = new ArrayList<>();
    private int at = 0;
    private int parts = 0;
    private Def def;

    Judge(String text) {
        cut(text);
        while (sees("type")) {
            next();
            Token name = fresh(types.keySet(), 12);
            want("=");
            Talk talk = wholeTalk();
            want(";");
            types.put(name.text, talk);
        }
        do {
            readDef();
        } while (here().kind != 'e');
        if (def.firstParam >= 0) {
            throw new Fault(7, def.firstParam);
        }
    }

    private void cut(String text) {
        int i = 0;
        while (i < text.length()) {
            char sign = text.charAt(i);
            int start = i;
            if (sign == ' ' || sign == '\n') {
                i++;
            } else if (sign >= 'a' && sign <= 'z') {
                while (i < text.length() && text.charAt(i) >= 'a' && text.charAt(i) <= 'z') {
                    i++;
                }
                String run = text.substring(start, i);
                tokens.add(new Token(run.length() > 6 ? 'b' : WORDS.contains(run) ? 'w' : 'n', run, start));
            } else if (sign >= '0' && sign <= '9') {
                while (i < text.length() && text.charAt(i) >= '0' && text.charAt(i) <= '9') {
                    i++;
                }
                boolean letter = text.substring(i).matches("(?s)[A-Za-z].*");
                tokens.add(new Token(i - start > 4 || letter ? 'b' : 'd', text.substring(start, i), start));
            } else if (text.startsWith("==", i)) {
                i += 2;
                tokens.add(new Token('s', "==", start));
            } else {
                i++;
                boolean known = "(){},;:.=!?><+-*&|".indexOf(sign) >= 0;
                tokens.add(new Token(known ? 's' : 'b', known ? "" + sign : "bad", start));
            }
        }
        tokens.add(new Token('e', "", text.length()));
    }

    private Token here() {
        return tokens.get(at);
    }

    private Token next() {
        Token token = here();
        if (token.kind != 'e') {
            at++;
        }
        return token;
    }

    private boolean sees(String text) {
        Token token = here();
        return (token.kind == 's' || token.kind == 'w') && token.text.equals(text);
    }

    private Token want(String text) {
        if (!sees(text)) {
            throw new Fault(1, here().place);
        }
        return next();
    }

    private Token name() {
        if (here().kind != 'n') {
            throw new Fault(1, here().place);
        }
        return next();
    }

    private Token fresh(Set<String> known, int most) {
        Token name = name();
        if (known.contains(name.text)) {
            throw new Fault(2, name.place);
        }
        if (known.size() == most) {
            throw new Fault(5, name.place);
        }
        return name;
    }

    private Talk wholeTalk() {
        parts = 0;
        return talk(0);
    }

    private void count(int more, int place) {
        parts += more;
        if (parts > 200) {
            throw new Fault(5, place);
        }
    }

    private Talk talk(int open) {
        Token token = here();
        if (token.kind == 'n') {
            next();
            if (!types.containsKey(token.text)) {
                throw new Fault(2, token.place);
            }
            Talk known = types.get(token.text);
            count(known.parts, token.place);
            return known;
        }
        if (sees("end")) {
            next();
            count(1, token.place);
            return new Talk("end", null, null, null, 1, "end");
        }
        if (token.kind != 's' || !"!?><+&".contains(token.text)) {
            throw new Fault(1, token.place);
        }
        if (open == 12) {
            throw new Fault(5, token.place);
        }
        next();
        count(1, token.place);
        String sign = token.text;
        if (sign.equals("!") || sign.equals("?")) {
            Talk then = talk(open + 1);
            return new Talk(sign, null, then, null, 1 + then.parts, sign + " " + then.text);
        }
        if (sign.equals(">") || sign.equals("<")) {
            Talk first = talk(open + 1);
            want(".");
            Talk then = talk(open + 1);
            return new Talk(sign, first, then, null, 1 + first.parts + then.parts,
                sign + " " + first.text + " . " + then.text);
        }
        TreeMap<String, Talk> branches = new TreeMap<>();
        want("{");
        int all = 1;
        do {
            Token name = fresh(branches.keySet(), 6);
            want(":");
            Talk branch = talk(open + 1);
            branches.put(name.text, branch);
            all += branch.parts;
        } while (skips(","));
        want("}");
        List<String> texts = new ArrayList<>();
        branches.forEach((name, branch) -> texts.add(name + " : " + branch.text));
        return new Talk(sign, null, null, branches, all, sign + " { " + String.join(" , ", texts) + " }");
    }

    private boolean skips(String text) {
        if (sees(text)) {
            next();
            return true;
        }
        return false;
    }

    private void readDef() {
        want("def");
        Token name = fresh(defs.keySet(), 12);
        def = new Def();
        def.number = defs.size();
        World world = new World();
        want("(");
        if (!sees(")")) {
            do {
                Token param = name();
                if (world.knows(param.text)) {
                    throw new Fault(2, param.place);
                }
                if (def.params.size() == 4) {
                    throw new Fault(5, param.place);
                }
                if (def.params.isEmpty()) {
                    def.firstParam = param.place;
                }
                Talk talk = skips(":") ? wholeTalk() : null;
                def.params.add(new Param(param.text, talk));
                if (talk == null) {
                    world.numbers.add(param.text);
                } else {
                    world.has.put(param.text, talk);
                }
            } while (skips(","));
        }
        want(")");
        Token given = name();
        if (world.knows(given.text)) {
            throw new Fault(2, given.place);
        }
        want(":");
        def.given = given.text;
        def.gives = wholeTalk();
        world.given = def.given;
        world.gives = def.gives;
        want("=");
        def.body = act(world, 0);
        def.least = least(def.body);
        defs.put(name.text, def);
    }

    private static int least(Act act) {
        switch (act.word) {
            case "if":
                return Math.min(least(act.next), least(act.second));
            case "case":
                return 1 + act.branches.values().stream().mapToInt(Judge::least).min().getAsInt();
            case "close": case "go": case "same":
                return 1;
            default:
                return 1 + least(act.next);
        }
    }

    private Act act(World world, int open) {
        Token word = here();
        if (word.kind != 'w' || "type def end else".contains(word.text)) {
            throw new Fault(1, word.place);
        }
        Act act = new Act();
        act.word = word.text;
        if (word.text.equals("if")) {
            return readIf(act, world, open);
        }
        if (word.text.equals("close") && !world.has.isEmpty()) {
            throw new Fault(4, word.place);
        }
        def.words++;
        if (def.words > 80 || word.text.equals("case") && open == 8) {
            throw new Fault(5, word.place);
        }
        next();
        switch (word.text) {
            case "case":
                return readCase(act, world, open);
            case "close":
                act.channel = channel(act.word, world);
                return act;
            case "go":
                readGo(act, word, world, open);
                return act;
            case "same":
                readSame(act, word, world);
                return act;
            case "say":
                act.sum = sum(world, open);
                break;
            case "new":
                readNew(act, world, open);
                break;
            default:
                readTalk(act, world, open);
                break;
        }
        want(";");
        act.next = act(world, open);
        return act;
    }

    private Act readIf(Act act, World world, int open) {
        if (open == 8) {
            throw new Fault(5, here().place);
        }
        next();
        act.sum = sum(world, open + 1);
        want("{");
        act.next = act(world.copy(), open + 1);
        want("}");
        want("else");
        want("{");
        act.second = act(world.copy(), open + 1);
        want("}");
        return act;
    }

    private Act readCase(Act act, World world, int open) {
        act.channel = channel("case", world);
        TreeMap<String, Talk> choice = world.talk(act.channel).branches;
        want("{");
        do {
            Token name = name();
            if (act.branches.containsKey(name.text)) {
                throw new Fault(2, name.place);
            }
            if (!choice.containsKey(name.text)) {
                throw new Fault(3, name.place);
            }
            want(":");
            World inner = world.copy();
            become(inner, act.channel, choice.get(name.text));
            act.branches.put(name.text, act(inner, open + 1));
        } while (skips("|"));
        if (sees("}") && act.branches.size() < choice.size()) {
            throw new Fault(3, here().place);
        }
        want("}");
        return act;
    }

    private static void become(World world, String channel, Talk talk) {
        if (channel.equals(world.given)) {
            world.gives = talk;
        } else {
            world.has.put(channel, talk);
        }
    }

    private String channel(String word, World world) {
        Token name = name();
        Talk talk = world.talk(name.text);
        if (talk == null) {
            throw new Fault(2, name.place);
        }
        boolean given = name.text.equals(world.given);
        String byGiven = "end close ! put ? get > send < take + pick & case";
        String byHad = "end wait ! get ? put > take < send + case & pick";
        List<String> rules = Arrays.asList((given ? byGiven : byHad).split(" "));
        if (!rules.get(rules.indexOf(talk.sign) + 1).equals(word)) {
            throw new Fault(3, name.place);
        }
        return name.text;
    }

    private String freshThing(World world) {
        Token name = name();
        if (world.knows(name.text)) {
            throw new Fault(2, name.place);
        }
        return name.text;
    }

    private void readTalk(Act act, World world, int open) {
        act.channel = channel(act.word, world);
        Talk talk = world.talk(act.channel);
        switch (act.word) {
            case "wait":
                world.has.remove(act.channel);
                return;
            case "put":
                act.sum = sum(world, open);
                break;
            case "get":
                act.other = freshThing(world);
                world.numbers.add(act.other);
                break;
            case "take":
                act.other = freshThing(world);
                world.has.put(act.other, talk.first);
                break;
            case "send":
                act.other = sent(world, talk.first);
                break;
            default:
                Token name = name();
                if (!talk.branches.containsKey(name.text)) {
                    throw new Fault(3, name.place);
                }
                act.other = name.text;
                become(world, act.channel, talk.branches.get(name.text));
                return;
        }
        become(world, act.channel, talk.then);
    }

    private String sent(World world, Talk wanted) {
        Token name = name();
        Talk talk = world.talk(name.text);
        if (talk == null) {
            throw new Fault(2, name.place);
        }
        if (!talk.text.equals(wanted.text)) {
            throw new Fault(3, name.place);
        }
        if (name.text.equals(world.given)) {
            throw new Fault(4, name.place);
        }
        world.has.remove(name.text);
        return name.text;
    }

    private void readNew(Act act, World world, int open) {
        act.channel = freshThing(world);
        want("=");
        readArgs(act, world, open);
        world.has.put(act.channel, act.def.gives);
    }

    private void readGo(Act act, Token word, World world, int open) {
        readArgs(act, world, open);
        if (!act.def.gives.text.equals(world.gives.text)) {
            throw new Fault(3, word.place);
        }
        if (!world.has.isEmpty()) {
            throw new Fault(4, word.place);
        }
    }

    private void readSame(Act act, Token word, World world) {
        Token first = name();
        if (world.talk(first.text) == null) {
            throw new Fault(2, first.place);
        }
        if (!first.text.equals(world.given)) {
            throw new Fault(4, first.place);
        }
        Token second = name();
        if (world.talk(second.text) == null) {
            throw new Fault(2, second.place);
        }
        if (second.text.equals(world.given)) {
            throw new Fault(4, second.place);
        }
        if (!world.gives.text.equals(world.talk(second.text).text)) {
            throw new Fault(3, word.place);
        }
        if (world.has.size() > 1) {
            throw new Fault(4, word.place);
        }
        act.channel = first.text;
        act.other = second.text;
    }

    private void readArgs(Act act, World world, int open) {
        Token f = name();
        act.def = defs.get(f.text);
        if (act.def == null) {
            throw new Fault(2, f.place);
        }
        want("(");
        int count = act.def.params.size();
        if (count > 0 && sees(")")) {
            throw new Fault(6, here().place);
        }
        for (int k = 0; k < count; k++) {
            act.args.add(arg(act.def.params.get(k).talk, world, open));
            boolean last = k == count - 1;
            if (sees(last ? "," : ")")) {
                throw new Fault(6, here().place);
            }
            if (!last) {
                want(",");
            }
        }
        want(")");
    }

    private Object arg(Talk wanted, World world, int open) {
        if (wanted == null) {
            return sum(world, open);
        }
        Token name = name();
        Talk talk = world.talk(name.text);
        if (talk == null) {
            throw new Fault(2, name.place);
        }
        if (name.text.equals(world.given) || !talk.text.equals(wanted.text)) {
            throw new Fault(3, name.place);
        }
        world.has.remove(name.text);
        return name.text;
    }

    private static Sum joined(String op, Sum left, Sum right) {
        Sum sum = new Sum();
        sum.op = op;
        sum.left = left;
        sum.right = right;
        return sum;
    }

    private Sum sum(World world, int open) {
        Sum left = terms(world, open);
        if (sees("<") || sees("==")) {
            String op = next().text;
            return joined(op, left, terms(world, open));
        }
        return left;
    }

    private Sum terms(World world, int open) {
        Sum left = product(world, open);
        while (sees("+") || sees("-")) {
            String op = next().text;
            left = joined(op, left, product(world, open));
        }
        return left;
    }

    private Sum product(World world, int open) {
        Sum left = unit(world, open);
        while (sees("*")) {
            next();
            left = joined("*", left, unit(world, open));
        }
        return left;
    }

    private Sum unit(World world, int open) {
        Token token = here();
        Sum sum = new Sum();
        if (token.kind == 'd') {
            next();
            sum.op = "number";
            sum.number = Integer.parseInt(token.text);
            return sum;
        }
        if (token.kind == 'n') {
            next();
            if (!world.numbers.contains(token.text)) {
                throw new Fault(2, token.place);
            }
            sum.op = "name";
            sum.name = token.text;
            return sum;
        }
        if (!sees("-") && !sees("(")) {
            throw new Fault(1, token.place);
        }
        if (open == 8) {
            throw new Fault(5, token.place);
        }
        next();
        if (token.text.equals("-")) {
            return joined("negate", unit(world, open + 1), null);
        }
        Sum inner = sum(world, open + 1);
        want(")");
        return inner;
    }
}
