import java.util.ArrayList;
import java.util.List;

/**
 * All that an object answers, as one list: two objects that stand alike answer alike. It makes some 380 calls,
 * so that an object has some 130 of its 512 left for what is done ahead of it.
 */
final class Probe {
    private final NoteBells x;
    private final List<String> answers = new ArrayList<>();

    private Probe(NoteBells x) {
        this.x = x;
    }

    /** What can be asked without a change. */
    static List<String> asked(NoteBells x) {
        Probe p = new Probe(x);
        p.askAll("");
        return p.answers;
    }

    /** What can be asked, and what stands behind calls that bring out the rest: the rope, the trace, the images, the text. */
    static List<String> broughtOut(NoteBells x) {
        Probe p = new Probe(x);
        p.askAll("");
        p.add("mends()", x.mends());
        for (int kind = 0; kind <= 5; kind++) {
            p.add("mark(" + kind + ", 0)", x.mark(kind, 0));
        }
        p.add("heard(0, 0)", x.heard(0, 0));
        p.add("sing(0)", x.sing(0));
        p.add("back(1)", x.back(1));
        p.add("mends() behind back(1)", x.mends());
        p.askAll("behind back(1) ");
        p.add("back(0)", x.back(0));
        p.add("mends() behind back(0)", x.mends());
        p.askAll("behind back(0) ");
        p.add("shaft()", x.shaft());
        p.add("clear()", x.clear());
        p.add("LEVELS of the text", x.count(0));
        p.add("EAR of the text", x.count(2));
        return p.answers;
    }

    private void add(String call, long answer) {
        answers.add(call + " answers " + answer);
    }

    private void askAll(String when) {
        for (int what = 0; what <= 8; what++) {
            add(when + "count(" + what + ")", x.count(what));
        }
        for (int l = 0; l < 8; l++) {
            for (int what = 0; what <= 3; what++) {
                add(when + "level(" + l + ", " + what + ")", x.level(l, what));
            }
            add(when + "taken(" + l + ")", x.taken(l));
        }
        for (int m = 0; m < 3; m++) {
            add(when + "man(" + m + ")", x.man(m));
            add(when + "plucks(" + m + ")", x.plucks(m));
        }
        for (int note = -10; note <= 60; note += 10) {
            add(when + "comes(" + note + ")", x.comes(note));
        }
        askTheBook(when);
        askTheTuning(when);
        add(when + "climbing()", x.climbing());
        for (int i = 0; i < 8; i++) {
            add(when + "by(" + i + ", 0)", x.by(i, 0));
            add(when + "by(" + i + ", 1)", x.by(i, 1));
        }
        add(when + "trace()", x.trace());
    }

    private void askTheBook(String when) {
        add(when + "tracks()", x.tracks());
        for (int k = 0; k < 6; k++) {
            add(when + "where(" + k + ")", x.where(k));
        }
        add(when + "men()", x.men());
    }

    private void askTheTuning(String when) {
        add(when + "keeps(0)", x.keeps(0));
        add(when + "keeps(1)", x.keeps(1));
        for (int a = 0; a < 8; a++) {
            for (int b = a + 1; b < 8; b++) {
                add(when + "meet(" + a + ", " + b + ")", x.meet(a, b));
            }
        }
        add(when + "first()", x.first());
    }
}
