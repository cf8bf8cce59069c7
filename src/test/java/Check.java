import java.io.IOException;
import java.nio.file.Files;
import java.nio.file.Path;
import java.util.ArrayList;
import java.util.List;
import java.util.function.LongSupplier;

/** Counts the answers that are not due, and ends the program as a test under ../shared/tests does. */
final class Check {
    static final Class<IndexOutOfBoundsException> INDEX = IndexOutOfBoundsException.class;
    static final Class<IllegalArgumentException> ARGUMENT = IllegalArgumentException.class;
    static final Class<IllegalStateException> STATE = IllegalStateException.class;

    private static final Path DOCUMENT = Path.of("../shared/DOC.md");

    private static int right;
    private static int wrong;
    private static final List<String> quotes = new ArrayList<>();
    private static String quote = "";

    private Check() {
    }

    /** Names the words of the document that the next checks are about. */
    static void sentence(String words) {
        quote = "\"" + words + "\": ";
        quotes.add(words);
    }

    static void due(String call, long got, long want) {
        note(got == want, call + " answered " + got + ", due is " + want);
    }

    static void isTrue(String what, boolean holds) {
        note(holds, what + " does not hold");
    }

    static void thrown(String call, Class<? extends RuntimeException> want, LongSupplier run) {
        String got;
        try {
            got = "answered " + run.getAsLong();
        } catch (RuntimeException e) {
            got = e.getClass() == want ? "" : "threw " + e.getClass().getName();
        }
        note(got.isEmpty(), call + " " + got + ", due is " + want.getSimpleName());
    }

    private static void note(boolean holds, String fault) {
        if (holds) {
            right++;
        } else {
            wrong++;
            System.out.println(quote + fault);
        }
    }

    static void end(String test) {
        quote = "";
        quotesStandInTheDocument();
        System.out.println(test + ": " + right + " right, " + wrong + " wrong");
        System.exit(wrong == 0 ? 0 : 1);
    }

    private static void quotesStandInTheDocument() {
        if (!Files.exists(DOCUMENT)) {
            return;
        }
        try {
            String document = Files.readString(DOCUMENT).replaceAll("```text|`", "").replaceAll("\\s+", " ");
            for (String words : quotes) {
                isTrue("the document says \"" + words + "\": this", document.contains(words));
            }
        } catch (IOException e) {
            isTrue("reading " + DOCUMENT, false);
        }
    }

    static MixerStation station(String text) {
        MixerStation x = new MixerStation();
        type(x, text);
        x.load();
        return x;
    }

    static void type(MixerStation x, String text) {
        x.clearText();
        for (char c : text.toCharArray()) {
            x.append(c);
        }
    }

    /** All that can be asked without changing anything, so that two states can be compared. */
    static String picture(MixerStation x) {
        StringBuilder all = new StringBuilder();
        for (int what = 0; what <= 12; what++) {
            all.append(x.about(what)).append(' ');
        }
        all.append('|');
        for (int what = 0; what <= 8; what++) {
            all.append(x.setting(what)).append(' ');
        }
        all.append('|');
        for (int p = 0; p < 2 + x.about(0); p++) {
            all.append(x.place(p, 0)).append(' ').append(x.place(p, 1)).append(' ').append(x.place(p, 2)).append(' ');
        }
        all.append('|');
        for (int i = 0; i < x.about(0); i++) {
            for (int what = 0; what <= 6; what++) {
                all.append(x.room(i, what)).append(' ');
            }
        }
        all.append('|');
        for (int k = 0; k < x.about(11); k++) {
            all.append(x.way(k, 0)).append('>').append(x.way(k, 1)).append('=').append(x.way(k, 2)).append(' ');
        }
        return all.toString();
    }

    /** A call that throws changes nothing: it leaves the picture and the text as they are. */
    static void thrownUnchanged(MixerStation x, String call, Class<? extends RuntimeException> want, LongSupplier run) {
        String before = picture(x);
        int position = x.errorPosition();
        thrown(call, want, run);
        isTrue(call + " leaves all as it was", picture(x).equals(before) && x.errorPosition() == position);
    }
}
