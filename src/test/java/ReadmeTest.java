import java.io.ByteArrayOutputStream;
import java.io.File;
import java.io.IOException;
import java.io.InputStream;
import java.lang.reflect.Method;
import java.lang.reflect.Modifier;
import java.nio.charset.StandardCharsets;
import java.nio.file.Files;
import java.nio.file.Path;
import java.util.ArrayList;
import java.util.Comparator;
import java.util.List;
import java.util.regex.Matcher;
import java.util.regex.Pattern;
import java.util.stream.Collectors;
import java.util.stream.Stream;

/** What README.md says holds as it is written there: its example, its commands, and the files that it names. */
public final class ReadmeTest {
    private static final Path README = Path.of("README.md");
    /** Running all tests from within a test would have no end. */
    private static final String ALL_TESTS = ".ci/run";

    public static void main(String[] args) throws IOException, InterruptedException {
        String page = Files.readString(README, StandardCharsets.UTF_8);
        Path room = Files.createTempDirectory("readme");
        try {
            copySources(room);
            commands(page, room);
        } finally {
            removeAll(room);
        }
        names(page);
        calls(page);
        Desk.due(ALL_TESTS + " can be run", new File(ALL_TESTS).canExecute(), true);
        Desk.finish();
    }

    private static List<String> blocks(String page, String language) {
        List<String> blocks = new ArrayList<>();
        Matcher matcher = Pattern.compile("(?s)```" + language + "\n(.*?)```").matcher(page);
        while (matcher.find()) {
            blocks.add(matcher.group(1));
        }
        return blocks;
    }

    private static void copySources(Path room) throws IOException {
        List<Path> sources;
        try (Stream<Path> all = Files.walk(Path.of("src"))) {
            sources = all.filter(Files::isRegularFile).collect(Collectors.toList());
        }
        for (Path source : sources) {
            Path copy = room.resolve(source);
            Files.createDirectories(copy.getParent());
            Files.copy(source, copy);
        }
    }

    private static void removeAll(Path room) throws IOException {
        List<Path> all;
        try (Stream<Path> walk = Files.walk(room)) {
            all = walk.sorted(Comparator.reverseOrder()).collect(Collectors.toList());
        }
        for (Path one : all) {
            Files.delete(one);
        }
    }

    /** The example is put where README.md says; each block of commands is run as it stands. */
    private static void commands(String page, Path room) throws IOException, InterruptedException {
        Desk.sentence("README.md, commands");
        List<String> examples = blocks(page, "java");
        Desk.due("examples", examples.size(), 1);
        Files.writeString(room.resolve("Example.java"), examples.get(0));
        List<String> commands = blocks(page, "sh");
        Desk.due("blocks of commands", commands.size(), 3);
        for (String block : commands) {
            if (block.trim().equals(ALL_TESTS)) {
                continue;
            }
            String printed = printedBy(block, room);
            if (block.contains("Example")) {
                example(examples.get(0), printed);
            }
        }
    }

    private static String printedBy(String block, Path room) throws IOException, InterruptedException {
        ProcessBuilder builder = new ProcessBuilder("sh", "-e", "-c", block);
        builder.directory(room.toFile()).redirectError(ProcessBuilder.Redirect.INHERIT);
        Process process = builder.start();
        ByteArrayOutputStream printed = new ByteArrayOutputStream();
        try (InputStream from = process.getInputStream()) {
            from.transferTo(printed);
        }
        int code = process.waitFor();
        String text = printed.toString(StandardCharsets.UTF_8);
        Desk.due("the exit code of " + block, code, 0);
        return text;
    }

    /** Behind each line that prints stands the answer that is due. */
    private static void example(String source, String printed) {
        Desk.sentence("README.md, example");
        Matcher matcher = Pattern.compile("println\\((.*)\\); *// (-?\\d+):").matcher(source);
        String[] answers = printed.split("\n");
        int count = 0;
        while (matcher.find()) {
            String got = count < answers.length ? answers[count] : "nothing";
            Desk.due(matcher.group(1), got, matcher.group(2));
            count++;
        }
        Desk.due("each line that prints tells its answer", source.split("println").length - 1, count);
        Desk.due("lines printed", answers.length, count);
    }

    /** Each path and each test that is named is there, and each test of the project is named. */
    private static void names(String page) throws IOException {
        Desk.sentence("README.md, names");
        Matcher paths = Pattern.compile("(\\.\\./shared|src)/[A-Za-z./]*[A-Za-z]").matcher(page);
        while (paths.find()) {
            Desk.due(paths.group() + " is there", Files.exists(Path.of(paths.group())), true);
        }
        Matcher tests = Pattern.compile("`(\\w+Test)`").matcher(page);
        while (tests.find()) {
            Path test = Path.of("src/test/java", tests.group(1) + ".java");
            Desk.due(test + " is there", Files.exists(test) || tests.group(1).equals("EdgeTest"), true);
        }
        try (Stream<Path> all = Files.list(Path.of("src/test/java"))) {
            for (Path test : all.collect(Collectors.toList())) {
                String name = test.getFileName().toString().replace(".java", "");
                boolean named = page.contains("`" + name + "`") || name.endsWith("EdgeTest");
                Desk.due(name + " is named", named, true);
            }
        }
    }

    /** Each method of the face is named, and what is said of bounds holds. */
    private static void calls(String page) {
        Desk.sentence("README.md, calls");
        for (Method method : TalkHouse.class.getDeclaredMethods()) {
            if (Modifier.isPublic(method.getModifiers())) {
                Desk.due(method.getName() + " is named", page.contains("`" + method.getName() + "`"), true);
            }
        }
        TalkHouse house = new TalkHouse();
        Desk.due("an empty text", Desk.load(house, "def"), TalkHouse.NONE);
        Desk.due("load empties the tape, also if it finds a FAULT", house.end(1), false);
    }
}
