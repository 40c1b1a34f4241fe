import java.lang.reflect.Method;
import java.lang.reflect.Modifier;
import java.nio.file.Files;
import java.nio.file.Path;

/** What README.md shows is what the class answers; run from the project's root. */
public final class ReadmeTest {
    private static int wrong = 0;

    private static void must(boolean holds, String what) {
        if (!holds) {
            wrong++;
            System.out.println("not so: " + what);
        }
    }

    public static void main(String[] args) throws Exception {
        String page = Files.readString(Path.of("README.md"));
        showsThisTest(page);
        namesEachCall(page);
        answersAsShown();
        System.out.println(wrong == 0 ? "the page is as the class" : wrong + " things of the page are not so");
        if (wrong != 0) {
            System.exit(1);
        }
    }

    /** The page's lines stand in this file too, where they are compiled and run. */
    private static void showsThisTest(String page) throws Exception {
        String own = plain(Files.readString(Path.of("src/test/java/ReadmeTest.java")));
        String[] blocks = page.split("```");
        int shown = 0;
        for (int i = 1; i < blocks.length; i += 2) {
            if (blocks[i].startsWith("java\n")) {
                shown++;
                must(own.contains(plain(blocks[i].substring(5))), "the page shows what is run: " + blocks[i]);
            }
        }
        must(shown == 3, "three pieces are shown");
    }

    private static String plain(String code) {
        return code.replaceAll("\\s+", " ").trim();
    }

    private static void namesEachCall(String page) {
        for (Method m : WithoutE.class.getDeclaredMethods()) {
            must(!Modifier.isPublic(m.getModifiers()) || page.contains("`" + m.getName() + "`"), "the table has " + m.getName());
        }
    }

    static void onto(WithoutE e, String text) {
        e.end(0);
        int[] five = new int[5];
        for (int at = 0; at < text.length(); at += 20) {
            for (int i = 0; i < 20; i++) {
                int next = at + i < text.length() ? text.charAt(at + i) : 0;
                five[i / 4] = five[i / 4] << 8 | next;
            }
            e.feed(five[0], five[1], five[2], five[3], five[4]);
        }
        e.end(text.length());
    }

    private static void answersAsShown() {
        WithoutE e = new WithoutE();
        onto(e, "sun");
        int sun = e.word(0, 0, 1);                // 0: a plain word for sense 0, told stiff 1
        int line = e.sense(1, 0, 0, 0, 0, 0);     // 0: a sentence of one sense
        boolean lost = e.key(20);                 // true: the u is lost
        int unsaid = e.least(line, 0);            // -1: it can't be said any more
        int steps = e.undo();                     // 0: the u is back, and no step is left to take back
        int stiff = e.write(line);                // 1: how stiff it was
        must(sun == 0 && line == 0 && lost && unsaid == -1 && steps == 0 && stiff == 1, "the first piece");

        onto(e, "stiff told + 2 * holes; word sxn kind 4 sense 0 stiff 3; lose u; write 0;");
        int text = e.text();                      // 0: it was read; fault(0) and fault(1) say what is wrong, and where
        boolean rules = e.by(text);               // true
        int stuck = e.played(text);               // -1: all is done
        int day = e.image();                      // 0: restore() will come back to this
        int gone = e.week(40);                    // 2: so many keys are lost when forty days have passed
        int back = e.restore();                   // 0: the day of the image
        onto(e, "stiff kind;");
        int other = e.text();                     // 1
        int heard = e.stiffs(1, 3);               // 1: word 1 was heard as stiff as 3
        int whose = e.law();                      // 1: by text 0 alone (bits)
        must(text == 0 && rules && stuck == -1 && day == 0, "the second piece: " + text + rules + stuck + day);
        must(gone == 2 && back == 0, "its week: " + gone + " " + back);
        must(other == 1 && heard == 1 && whose == 1, "its laws: " + other + " " + heard + " " + whose);
    }
}
