import java.io.IOException;
import java.lang.reflect.Constructor;
import java.lang.reflect.Field;
import java.lang.reflect.Method;
import java.lang.reflect.Modifier;
import java.nio.file.Files;
import java.nio.file.Path;
import java.util.ArrayList;
import java.util.Arrays;
import java.util.List;
import java.util.Set;
import java.util.TreeSet;
import java.util.regex.Matcher;
import java.util.regex.Pattern;

/** What stands ahead of the document's terms: "What it is" and "The public face". */
final class EdgeFaceTest {
    private static final int MOST_CALLS = 512;

    private EdgeFaceTest() {
    }

    public static void main(String[] args) throws IOException {
        putRightLater();
        aReviewSays();
        shared();
        steps();
        takenBack();
        rollsOnAndEarns();
        tiltedAndDealt();
        aBench();
        logged();
        triedBeside();
        aPlanThatPaysMore();
        eachCoin();
        calls();
        theFace();
        Check.end();
    }

    /** RULES from REVIEW 0 on, told on DAY 0, and FIRMS. */
    private static Story by(String rules, int... worths) {
        return new Story().rules(0, rules).go(Story.ofFirms(worths));
    }

    // ---- What it is

    private static void putRightLater() {
        Check.says("What it is", "What a waterworks may earn: firms tell what drives their costs, what"
                + " they spent and plan, all put right later;");
        for (int what : new int[] {0, 1, 2, 3, 4, 5, 6, 7, 8, 9, 10}) {
            int w = what;
            Story s = Story.ofFirms(1, 1).fact(1, 6, w, 50).day(3).fact(1, 6, w, 70);
            s.answers("as told at first", 50, x -> x.known(1, 6, w, 2));
            s.answers("put right", 70, x -> x.known(1, 6, w, 3));
        }
    }

    private static void aReviewSays() {
        Check.says("What it is", "a review says for five years, by rules in a text and by what the"
                + " others' costs follow, what is allowed;");
        Story s = new Story().rules(1, "allow run mean 0 100;").rules(2, "allow run mean 0 50;")
                .go(Story.ofFirms(1, 1)).fact(0, 0, 0, 30);
        s.point(1, 4, 0, 10, 0, 200).point(1, 9, 0, 10, 0, 400);
        for (int year = 0; year < 15; year++) {
            int y = year;
            s.answers("allowed in year " + y, y < 5 ? 0 : 600, x -> x.allowed(0, 0, y, 0));
        }
    }

    private static void shared() {
        Check.says("What it is", "what is over or under is shared,");
        Story s = by("share run 30 60;", 0).bench(0, 0, 1, 500);
        Story.of(s).fact(0, 1, 3, 600).answers("over", 70, x -> x.line(0, 2, 0, 10));
        Story.of(s).fact(0, 1, 3, 400).answers("under", -40, x -> x.line(0, 2, 0, 10));
    }

    private static void steps() {
        Check.says("What it is", "outputs earn or owe by steps,");
        Story s = by("target 2 more 100 step 10 coin 7 dead 0 cap 99;", 0);
        Story.of(s).fact(0, 1, 16, 129).answers("earn", 14, x -> x.line(0, 2, 0, 9));
        Story.of(s).fact(0, 1, 16, 71).answers("owe", -14, x -> x.line(0, 2, 0, 9));
    }

    private static void takenBack() {
        Check.says("What it is", "works that come late are taken back,");
        Story s = by("back 30;", 0).work(0, 200, 1);
        s.answers("it comes late", -60, x -> x.line(0, 2, 0, 6));
        Story.of(s).day(199).done(0).answers("it comes in time", 0, x -> x.line(0, 2, 199, 6));
    }

    private static void rollsOnAndEarns() {
        Check.says("What it is", "the firm's worth rolls on and earns,");
        Story s = by("index 110;wear 4;return 50;", 1000);
        s.answers("it rolls on", 1060, x -> x.worth(0, 1));
        s.answers("it earns", 53, x -> x.line(0, 1, 0, 4));
    }

    private static void tiltedAndDealt() {
        Check.says("What it is", "bills are tilted and dealt to homes,");
        Story s = by("tilt 20;", 0).work(0, 1000, 0).work(0, 5000, 1).fact(0, 1, 12, 4);
        s.answers("tilted", 1200, x -> x.bills(0, 1, 0, 0));
        s.answers("the rest is carried", 3800, x -> x.bills(0, 1, 0, 1));
        s.answers("dealt to homes", 300, x -> x.home(0, 1, 0, 1));
    }

    private static void aBench() {
        Check.says("What it is", "a bench may say otherwise,");
        Story s = by("allow run plan 100;", 0).fact(0, 1, 7, 80);
        s.answers("by the plan", 80, x -> x.allowed(0, 0, 1, 0));
        Story.of(s).bench(0, 0, 1, 90).answers("otherwise", 90, x -> x.allowed(0, 0, 1, 0));
    }

    private static void logged() {
        Check.says("What it is", "changes are logged between,");
        Story.ofFirms(0).day(130).log(0, 2, 44).answers("between reviews", 44,
                x -> x.line(0, 2, 130, 14));
    }

    private static void triedBeside() {
        Check.says("What it is", "other rules are tried beside,");
        Story s = by("return 10;", 1000).beside("return 25;");
        s.answers("by its own", 10, x -> x.revenue(0, 0, 0));
        s.answers("by those beside", 25, x -> x.tried(0, 0));
    }

    private static void aPlanThatPaysMore() {
        Check.says("What it is", "a plan that pays more than the truth is told,");
        Story s = by("allow run plan 100;share run 50 50;", 0).fact(0, 1, 3, 1000);
        s.answers("what it pays", 100, x -> x.hole(0, 0, 1, 0));
        s.answers("the plan, by hundredths", 120, x -> x.hole(0, 0, 1, 1));
        s.answers("what the truth pays", 0, x -> x.hole(0, 0, 1, 2));
    }

    private static void eachCoin() {
        Check.says("What it is", "each coin led to its line.");
        Story s = by("allow run plan 100;return 40;", 1000).fact(0, 0, 7, 60).work(0, 100, 0)
                .fact(0, 0, 11, 5);
        s.answers("what a home pays", 40, x -> x.home(0, 0, 0, 0));
        long[] due = {12, 0, 0, 0, 8, 20, 0, 0, 0, 0, 0, 0, 0, 0, 0};
        for (int k = 0; k < due.length; k++) {
            int line = k;
            s.answers("of line " + k, due[k], x -> x.who(0, 0, 0, 0, line));
        }
    }

    private static void calls() {
        Check.says("What it is",
                "An object is used for at most 512 calls after it has been made;");
        WaterReview facts = new WaterReview();
        facts.firm(5);
        for (int i = 1; i < MOST_CALLS - 1; i++) {
            Check.due("call " + (i + 1), facts.fact(0, 3, 3, i), i <= 500 ? i - 1 : -1);
        }
        Check.due("the last call", facts.known(0, 3, 3, 0), 500);
        WaterReview texts = new WaterReview();
        texts.firm(1000);
        for (int i = 1; i < MOST_CALLS - 2; i += 2) {
            Check.due("call " + (i + 1), texts.feed(0x72657475, 0x726e2031 + i % 9, 0x303b2020,
                    0x20202020, 0x20202020), 20);
            Check.due("call " + (i + 2), texts.beside(10), 0);
        }
        Check.due("the last call", texts.tried(0, 0), 10 * (1 + 509 % 9));
        Check.says("What it is", "what later calls answer is free.");
        // Free, but none may throw (LANGUAGE.md, rule 7).
        for (Questions.Question question : Questions.ALL) {
            question.call().on(facts);
            question.call().on(texts);
        }
        Check.due("none has thrown", true, true);
    }

    // ---- The public face

    /** The code block of the document, line by line, against what the class has. */
    private static void theFace() throws IOException {
        Check.says("The public face", "public final class WaterReview {");
        Class<?> face = WaterReview.class;
        Check.due("public and final", face.getModifiers(), Modifier.PUBLIC | Modifier.FINAL);
        Check.due("in no package", face.getPackageName().isEmpty(), true);
        Check.due("extends nothing", face.getSuperclass() == Object.class, true);
        Check.due("implements nothing", face.getInterfaces().length, 0);
        Set<String> there = members(face);
        Set<String> due = new TreeSet<>();
        String document = Files.readString(Path.of("../shared/DOC.md"));
        Matcher block = Pattern.compile("(?s)## The public face\\s+```java\n(.*?)```")
                .matcher(document);
        Check.due("the document has a face", block.find(), true);
        for (String line : block.group(1).split("\n")) {
            if (line.startsWith("    ")) {
                due.add(line.trim().replaceAll(" \\w+(?=[,)])", ""));
            }
        }
        Check.due("as many as in the document", there.size(), due.size());
        for (String member : due) {
            Check.due("there is " + member, there.contains(member), true);
        }
        for (String member : there) {
            Check.due("the document has " + member, due.contains(member), true);
        }
    }

    /** All that isn't private, as the document writes it, names of parameters left out. */
    private static Set<String> members(Class<?> face) {
        Set<String> all = new TreeSet<>();
        for (Field field : face.getDeclaredFields()) {
            if (!Modifier.isPrivate(field.getModifiers())) {
                all.add(told(field.getModifiers(), field.getType().toString(), field.getName())
                        + " = " + WaterReview.NONE + ";");
            }
        }
        for (Constructor<?> constructor : face.getDeclaredConstructors()) {
            if (!Modifier.isPrivate(constructor.getModifiers())) {
                all.add(Modifier.toString(constructor.getModifiers()) + " "
                        + face.getSimpleName() + types(constructor.getParameterTypes()));
            }
        }
        for (Method method : face.getDeclaredMethods()) {
            if (!Modifier.isPrivate(method.getModifiers())) {
                all.add(told(method.getModifiers(), method.getReturnType().toString(),
                        method.getName()) + types(method.getParameterTypes()));
            }
        }
        return all;
    }

    private static String told(int modifiers, String type, String name) {
        return Modifier.toString(modifiers) + " " + type + " " + name;
    }

    private static String types(Class<?>[] types) {
        List<String> names = new ArrayList<>();
        Arrays.stream(types).forEach(type -> names.add(type.toString()));
        return "(" + String.join(", ", names) + ");";
    }
}
