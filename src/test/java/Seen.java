import java.util.LinkedHashMap;
import java.util.Map;

/** All that can be seen of an object that has gone a way, by each call that changes nothing. */
final class Seen {
    interface Way {
        void go(TierMill mill);
    }

    /** So a way may have some 300 calls: no object is used for more than 512. */
    private static final int MOST_QUESTIONS = 200;

    private final Way way;
    private final Map<String, Integer> answers = new LinkedHashMap<>();
    private TierMill mill;
    private int asked = MOST_QUESTIONS;

    private Seen(Way way) {
        this.way = way;
    }

    static Map<String, Integer> all(Way way) {
        Seen seen = new Seen(way);
        seen.ofRun();
        seen.ofFrames();
        seen.ofTiers();
        seen.ofFile();
        return seen.answers;
    }

    /** The object that is asked next: a new one that goes the way, if the last one was asked enough. */
    private TierMill next() {
        if (asked >= MOST_QUESTIONS) {
            mill = new TierMill();
            way.go(mill);
            asked = 0;
        }
        asked++;
        return mill;
    }

    private int keep(String call, Check.Call question) {
        int answer = Check.answered(question);
        answers.put(call, answer);
        return answer;
    }

    private void ofRun() {
        keep("state()", () -> next().state());
        for (int what = 0; what < 2; what++) {
            int w = what;
            keep("result(" + w + ")", () -> next().result(w));
        }
        for (int what = 0; what < 10; what++) {
            int w = what;
            keep("total(" + w + ")", () -> next().total(w));
        }
        int out = Math.min(500, next().total(2));
        for (int k = 0; k <= out; k++) {
            int kth = k;
            keep("output(" + k + ")", () -> next().output(kth));
        }
        int entries = next().total(4);
        for (int k = 0; k <= entries; k++) {
            for (int what = 0; what < 5; what++) {
                int kth = k;
                int w = what;
                keep("log(" + k + ", " + w + ")", () -> next().log(kth, w));
            }
        }
    }

    private void ofFrames() {
        int depth = next().total(3);
        for (int k = 0; k <= depth; k++) {
            for (int what = 0; what < 4; what++) {
                int kth = k;
                int w = what;
                keep("frame(" + k + ", " + w + ")", () -> next().frame(kth, w));
            }
            for (int i = 0; i <= 8 && k < depth; i++) {
                ofSlot(k, i);
                ofSlot(k, 100 + i);
            }
        }
    }

    private void ofSlot(int k, int i) {
        if (keep("local(" + k + ", " + i + ")", () -> next().local(k, i)) <= 0) {
            return;
        }
        int parts = Check.answered(() -> next().part(k, i, 1));
        for (int what = 0; what <= Math.min(parts, 12) + 2; what++) {
            int w = what;
            keep("part(" + k + ", " + i + ", " + w + ")", () -> next().part(k, i, w));
        }
    }

    private void ofTiers() {
        for (int m = 0; m <= 5; m++) {
            int ofMethod = m;
            for (int what = 0; what < 3; what++) {
                int w = what;
                keep("method(" + m + ", " + w + ")", () -> next().method(ofMethod, w));
            }
            int sites = Math.max(0, next().method(m, 2));
            for (int k = 0; k <= sites; k++) {
                for (int what = 0; what < 5; what++) {
                    int kth = k;
                    int w = what;
                    keep("inlined(" + m + ", " + k + ", " + w + ")", () -> next().inlined(ofMethod, kth, w));
                }
            }
            for (int p = 0; p < 40; p++) {
                int place = p;
                for (int c = 0; c < 4 && (c == 0 || next().profile(m, p, 0) != TierMill.NONE); c++) {
                    int ofClass = c;
                    keep("profile(" + m + ", " + p + ", " + c + ")", () -> next().profile(ofMethod, place, ofClass));
                }
            }
        }
    }

    private void ofFile() {
        for (int what = 0; what < 3; what++) {
            int w = what;
            keep("fault(" + w + ")", () -> next().fault(w));
        }
        for (int m = 0; m <= 5; m++) {
            for (int p = 0; p < 40; p++) {
                ofPlace(m, p);
            }
        }
    }

    private void ofPlace(int m, int p) {
        for (int i = 0; i <= 8; i++) {
            int at = i;
            int local = keep("kind(" + m + ", " + p + ", " + i + ")", () -> next().kind(m, p, at));
            int stack = keep("kind(" + m + ", " + p + ", " + (100 + i) + ")", () -> next().kind(m, p, 100 + at));
            if (local == TierMill.NONE && stack == TierMill.NONE) {
                return;
            }
        }
    }
}
