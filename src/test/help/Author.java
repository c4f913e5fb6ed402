import java.util.ArrayList;
import java.util.HashMap;
import java.util.LinkedHashMap;
import java.util.List;
import java.util.Map;
import java.util.Random;

/** Writes texts by chance that can be taken, and spoils them. */
final class Author {
    /** A T as the author knows it. */
    private static final class Talk {
        String sign;
        Talk first;
        Talk then;
        Map<String, Talk> branches = new LinkedHashMap<>();
        String text;
        String key;
    }

    private record Def(String name, List<Talk> params, Talk gives) {
    }

    private static final class World {
        String given;
        Talk gives;
        Map<String, Talk> has = new LinkedHashMap<>();
        List<String> numbers = new ArrayList<>();

        World copy() {
            World copy = new World();
            copy.given = given;
            copy.gives = gives;
            copy.has.putAll(has);
            copy.numbers.addAll(numbers);
            return copy;
        }
    }

    /** Cases can make a text far longer than a tape; it is given up then. */
    private static final int MOST_ACTS = 200;
    private static final String[] NAMES = {"a", "b", "c", "d", "x", "y", "z", "ab", "abc", "foo", "zzzzzz", "ends"};

    private final Random chance;
    private final Map<String, Talk> named = new LinkedHashMap<>();
    private final List<Def> defs = new ArrayList<>();
    private final StringBuilder text = new StringBuilder();
    private int acts = 0;

    private Author(Random chance) {
        this.chance = chance;
    }

    static String write(Random chance) {
        for (int i = 0; i < 1000; i++) {
            Author author = new Author(chance);
            String text = author.write();
            if (text.length() <= 1000 && author.acts <= MOST_ACTS) {
                return text;
            }
        }
        return "def f()c:end=close c";
    }

    private String write() {
        Talk end = new Talk();
        end.sign = "end";
        end.text = "end";
        end.key = "end";
        provide(end);
        int more = chance.nextInt(4);
        for (int i = 0; i < more; i++) {
            Talk talk = talk(3);
            if (chance.nextInt(2) == 0 && named.size() < 3) {
                String name = "t" + (char) ('a' + named.size());
                text.insert(0, "type " + name + " = " + talk.text + ";");
                // types stand ahead of all DEFS, in their order
                moveTypeBack(name, talk);
            }
            provide(talk);
        }
        int helpers = chance.nextInt(3);
        for (int i = 0; i < helpers; i++) {
            helper();
        }
        def(new ArrayList<>(), chance.nextInt(4) == 0 ? pickTalk() : end, 3 + chance.nextInt(20));
        return text.toString();
    }

    private void moveTypeBack(String name, Talk talk) {
        String line = "type " + name + " = " + talk.text + ";";
        text.delete(0, line.length());
        int at = 0;
        for (Map.Entry<String, Talk> known : named.entrySet()) {
            at += known.getValue().text.length();
        }
        text.insert(at, line);
        Talk whole = new Talk();
        whole.text = line;
        named.put(name, whole);
        talk.text = name;
    }

    private Talk pickTalk() {
        return defs.get(chance.nextInt(defs.size())).gives;
    }

    private Talk talk(int depth) {
        Talk talk = new Talk();
        int kind = depth == 0 ? 0 : chance.nextInt(8);
        if (kind == 0 || kind == 7) {
            return defs.get(chance.nextInt(defs.size())).gives;
        }
        talk.sign = "" + " !?><+&".charAt(kind);
        if (kind <= 2) {
            talk.then = talk(depth - 1);
            talk.text = talk.sign + blank() + talk.then.text;
            talk.key = talk.sign + talk.then.key;
        } else if (kind <= 4) {
            talk.first = pickTalk();
            talk.then = talk(depth - 1);
            talk.text = talk.sign + blank() + talk.first.text + blank() + "." + blank() + talk.then.text;
            talk.key = talk.sign + talk.first.key + "." + talk.then.key;
        } else {
            int count = 1 + chance.nextInt(3);
            List<String> parts = new ArrayList<>();
            for (int i = 0; i < count; i++) {
                String name = NAMES[chance.nextInt(NAMES.length)];
                if (!talk.branches.containsKey(name)) {
                    Talk branch = talk(depth - 1);
                    talk.branches.put(name, branch);
                    parts.add(name + ":" + blank() + branch.text);
                }
            }
            talk.text = talk.sign + "{" + String.join("," + blank(), parts) + "}";
            StringBuilder key = new StringBuilder(talk.sign + "{");
            new java.util.TreeMap<>(talk.branches).forEach((n, t) -> key.append(n).append(':').append(t.key).append(','));
            talk.key = key + "}";
        }
        return talk;
    }

    private String blank() {
        return chance.nextInt(4) == 0 ? " " : "";
    }

    /** A DEF that gives the T and needs no CHANNELS. */
    private void provide(Talk talk) {
        List<Talk> params = new ArrayList<>();
        for (int i = chance.nextInt(3); i > 1; i--) {
            params.add(null);
        }
        def(params, talk, chance.nextInt(6));
    }

    private void helper() {
        List<Talk> params = new ArrayList<>();
        for (int i = chance.nextInt(3) + 1; i > 0; i--) {
            params.add(chance.nextInt(3) == 0 ? null : pickTalk());
        }
        def(params, pickTalk(), chance.nextInt(8));
    }

    private void def(List<Talk> params, Talk gives, int fuel) {
        String name = "f" + (char) ('a' + defs.size());
        World world = new World();
        world.given = "c";
        world.gives = gives;
        List<String> texts = new ArrayList<>();
        for (int k = 0; k < params.size(); k++) {
            String param = "p" + (char) ('a' + k);
            Talk talk = params.get(k);
            texts.add(talk == null ? param : param + ":" + talk.text);
            if (talk == null) {
                world.numbers.add(param);
            } else {
                world.has.put(param, talk);
            }
        }
        String body = act(world, fuel, 0);
        text.append("def ").append(name).append('(').append(String.join(",", texts)).append(")c:").append(gives.text)
            .append('=').append(body).append('\n');
        defs.add(new Def(name, params, gives));
    }

    private static boolean knows(World world, String name) {
        return name.equals(world.given) || world.has.containsKey(name) || world.numbers.contains(name);
    }

    private String fresh(World world) {
        for (int i = 0; i < 50; i++) {
            String name = NAMES[chance.nextInt(NAMES.length)];
            if (!knows(world, name)) {
                return name;
            }
        }
        int first = chance.nextInt(26 * 26);
        String name = longer(first);
        for (int i = 1; knows(world, name) && i < 26 * 26; i++) {
            name = longer((first + i) % (26 * 26));
        }
        return name;
    }

    private static String longer(int n) {
        return "q" + (char) ('a' + n / 26) + (char) ('a' + n % 26);
    }

    private String sum(World world, int depth) {
        int kind = chance.nextInt(depth == 0 ? 3 : 8);
        switch (kind) {
            case 0: case 1:
                return "" + chance.nextInt(kind == 0 ? 3 : 10000);
            case 2:
                return world.numbers.isEmpty() ? "7" : world.numbers.get(chance.nextInt(world.numbers.size()));
            case 3:
                return "-" + sum(world, 0);
            case 4:
                return "(" + sum(world, depth - 1) + (chance.nextInt(2) == 0 ? "<" : "==") + sum(world, 0) + ")";
            case 5:
                return sum(world, 0) + "-" + sum(world, depth - 1);
            case 6:
                return sum(world, 0) + "*" + sum(world, depth - 1);
            default:
                return sum(world, 0) + " + " + sum(world, depth - 1);
        }
    }

    private String act(World world, int fuel, int open) {
        acts++;
        if (acts > MOST_ACTS) {
            return "";
        }
        String last = last(world);
        if (last != null && (fuel <= 0 || chance.nextInt(12) == 0)) {
            return last;
        }
        int kind = chance.nextInt(10);
        if (fuel > 0 && kind == 0) {
            return "say " + sum(world, 2) + ";" + act(world, fuel - 1, open);
        }
        if (fuel > 0 && kind == 1 && open < 3) {
            return "if " + sum(world, 1) + "{" + act(world.copy(), fuel / 2, open + 1) + "}else{"
                + act(world.copy(), fuel / 2, open + 1) + "}";
        }
        boolean idle = world.has.isEmpty() && world.gives.sign.equals("end");
        if (fuel > 0 && (kind <= 4 || idle) && !defs.isEmpty()) {
            String made = make(world, defs.get(chance.nextInt(defs.size())));
            if (made != null) {
                return made + act(world, fuel - 1, open);
            }
        }
        return talkOn(world, fuel, open);
    }

    private String make(World world, Def def) {
        String args = args(world.copy(), def);
        if (args == null) {
            return null;
        }
        String name = fresh(world);
        args = args(world, def);
        world.has.put(name, def.gives);
        return "new " + name + "=" + def.name + args + ";";
    }

    private String args(World world, Def def) {
        List<String> args = new ArrayList<>();
        for (Talk talk : def.params) {
            if (talk == null) {
                args.add(sum(world, 1));
                continue;
            }
            String found = null;
            for (Map.Entry<String, Talk> had : world.has.entrySet()) {
                if (had.getValue().key.equals(talk.key)) {
                    found = had.getKey();
                }
            }
            if (found == null) {
                return null;
            }
            world.has.remove(found);
            args.add(found);
        }
        return "(" + String.join(",", args) + ")";
    }

    private String last(World world) {
        if (world.has.size() == 1) {
            Map.Entry<String, Talk> only = world.has.entrySet().iterator().next();
            if (only.getValue().key.equals(world.gives.key)) {
                return "same " + world.given + " " + only.getKey();
            }
        }
        for (Def def : defs) {
            World copy = world.copy();
            if (def.gives.key.equals(world.gives.key) && chance.nextInt(3) == 0) {
                String args = args(copy, def);
                if (args != null && copy.has.isEmpty()) {
                    return "go " + def.name + args;
                }
            }
        }
        return world.gives.sign.equals("end") && world.has.isEmpty() ? "close " + world.given : null;
    }

    private String talkOn(World world, int fuel, int open) {
        List<String> can = new ArrayList<>(world.has.keySet());
        if (!world.gives.sign.equals("end")) {
            can.add(world.given);
        }
        if (can.isEmpty()) {
            return "close " + world.given;
        }
        String name = can.get(chance.nextInt(can.size()));
        boolean given = name.equals(world.given);
        Talk talk = given ? world.gives : world.has.get(name);
        String sign = talk.sign;
        if (sign.equals("end")) {
            world.has.remove(name);
            return "wait " + name + ";" + act(world, fuel, open);
        }
        if (sign.equals("+") || sign.equals("&")) {
            return choose(world, name, talk, fuel, open);
        }
        String done;
        if (sign.equals(given ? "!" : "?")) {
            done = "put " + name + " " + sum(world, 2) + ";";
        } else if (sign.equals(given ? "?" : "!")) {
            String fresh = fresh(world);
            world.numbers.add(fresh);
            done = "get " + name + " " + fresh + ";";
        } else if (sign.equals(given ? "<" : ">")) {
            String fresh = fresh(world);
            world.has.put(fresh, talk.first);
            done = "take " + name + " " + fresh + ";";
        } else {
            done = send(world, name, talk);
        }
        become(world, name, talk.then);
        return done + act(world, fuel, open);
    }

    private String send(World world, String name, Talk talk) {
        for (Map.Entry<String, Talk> had : world.has.entrySet()) {
            if (had.getValue().key.equals(talk.first.key) && !had.getKey().equals(name)) {
                world.has.remove(had.getKey());
                return "send " + name + " " + had.getKey() + ";";
            }
        }
        for (Def def : defs) {
            if (def.gives.key.equals(talk.first.key) && def.params.stream().allMatch(t -> t == null)) {
                String made = make(world, def);
                String fresh = made.substring(4, made.indexOf('='));
                world.has.remove(fresh);
                return made + "send " + name + " " + fresh + ";";
            }
        }
        return "close ;";
    }

    private static void become(World world, String name, Talk talk) {
        if (name.equals(world.given)) {
            world.gives = talk;
        } else {
            world.has.put(name, talk);
        }
    }

    private String choose(World world, String name, Talk talk, int fuel, int open) {
        boolean picks = talk.sign.equals(name.equals(world.given) ? "+" : "&");
        List<String> names = new ArrayList<>(talk.branches.keySet());
        java.util.Collections.shuffle(names, chance);
        if (picks) {
            become(world, name, talk.branches.get(names.get(0)));
            return "pick " + name + " " + names.get(0) + ";" + act(world, fuel, open);
        }
        List<String> parts = new ArrayList<>();
        for (String branch : names) {
            World copy = world.copy();
            become(copy, name, talk.branches.get(branch));
            parts.add(branch + ":" + act(copy, fuel / 2, open + 1));
        }
        return "case " + name + "{" + String.join("|", parts) + "}";
    }

    private static final String[] TOKENS = {"type", "def", "end", "put", "get", "send", "take", "pick", "case", "new",
        "same", "go", "if", "else", "say", "close", "wait", "(", ")", "{", "}", ",", ";", ":", ".", "=", "==", "!", "?",
        ">", "<", "+", "-", "*", "&", "|", "1", "12345", "2x", "3X", "A", "tooolong", "#", "", " ", "a", "b", "c", "d", "x", "fa",
        "fb", "((", "--", "if 1{", "!!!!", "f()", "((((((((", "--------", "!!!!!!!!!!", "if 1{if 2{if 3{if 4{if 5{"};

    /** The text with one or two tokens changed, left out, doubled, or changed with one another. */
    static String spoil(String text, Random chance) {
        List<String> tokens = tokens(text);
        int count = 1 + chance.nextInt(2);
        for (int i = 0; i < count && !tokens.isEmpty(); i++) {
            int at = chance.nextInt(tokens.size());
            int other = chance.nextInt(tokens.size());
            switch (chance.nextInt(14)) {
                case 0:
                    tokens.remove(at);
                    break;
                case 1:
                    tokens.add(at, tokens.get(other));
                    break;
                case 2:
                    tokens.set(at, tokens.get(other));
                    break;
                case 3:
                    tokens.set(at, TOKENS[chance.nextInt(TOKENS.length)]);
                    break;
                case 4:
                    tokens.add(at, TOKENS[chance.nextInt(TOKENS.length)]);
                    break;
                case 5:
                    String kept = tokens.get(at);
                    tokens.set(at, tokens.get(other));
                    tokens.set(other, kept);
                    break;
                default:
                    tokens.set(at, likeOf(tokens, at, chance));
                    break;
            }
        }
        String spoilt = String.join("", tokens);
        int cut = chance.nextInt(20) == 0 ? chance.nextInt(spoilt.length() + 1) : spoilt.length();
        return spoilt.substring(0, Math.min(cut, 1000));
    }

    /** Another token of the same sort: what is wrong then is no matter of grammar alone. */
    private static String likeOf(List<String> tokens, int at, Random chance) {
        String old = tokens.get(at);
        Map<String, Integer> sorts = new HashMap<>();
        List<String> alike = new ArrayList<>();
        for (String token : tokens) {
            if (sort(token) == sort(old) && sorts.put(token, 1) == null) {
                alike.add(token);
            }
        }
        return alike.get(chance.nextInt(alike.size()));
    }

    private static int sort(String token) {
        if (token.isEmpty()) {
            return 0;
        }
        char first = token.charAt(0);
        if (Character.isLetter(first)) {
            return Judge.WORDS.contains(token) ? 1 : 2;
        }
        return Character.isDigit(first) ? 3 : "!?><+&".indexOf(first) >= 0 ? 4 : first;
    }

    private static List<String> tokens(String text) {
        List<String> tokens = new ArrayList<>();
        int i = 0;
        while (i < text.length()) {
            int start = i;
            i++;
            if (Character.isLetterOrDigit(text.charAt(start))) {
                boolean letters = Character.isLetter(text.charAt(start));
                while (i < text.length() && Character.isLetterOrDigit(text.charAt(i))
                        && Character.isLetter(text.charAt(i)) == letters) {
                    i++;
                }
            }
            tokens.add(text.substring(start, i));
        }
        return tokens;
    }
}
