/** What the tests share: feeding texts, calling, and counting what is not as due. */
final class Check {
    private int wrong = 0;
    private int asked = 0;
    private String about = "";

    interface Call {
        long answer();
    }

    static final long NO_SUCH = Long.MIN_VALUE;
    static final long ILLEGAL = Long.MIN_VALUE + 1;

    /** The answer, or which of the document's exceptions came instead. */
    static long answerOf(Call call) {
        try {
            return call.answer();
        } catch (java.util.NoSuchElementException e) {
            return NO_SUCH;
        } catch (IllegalArgumentException e) {
            return ILLEGAL;
        }
    }

    void due(String what, long want, Call call) {
        same(what, want, answerOf(call));
    }

    void same(String what, long want, long got) {
        asked++;
        if (want != got) {
            wrong++;
            System.out.println(about + what + " answered " + shown(got) + ", due is " + shown(want));
        }
    }

    /** What is said ahead of each answer that is not as due. */
    void about(String next) {
        about = next;
    }

    long asked() {
        return asked;
    }

    void fault(String text, int fault, int place) {
        HorizonDues x = new HorizonDues();
        same("duchy of " + text, fault, told(x, text));
        same("fault of " + text, place, x.fault());
        same("status of " + text, fault == 0 ? 0 : 1, x.count(12));
    }

    void fine(String text) {
        fault(text, 0, -1);
    }

    /** The fault at the first '@' of the text, which is not part of it. */
    void at(int fault, String marked) {
        int place = marked.indexOf('@');
        fault(marked.substring(0, place) + marked.substring(place + 1), fault, place);
    }

    static String shown(long answer) {
        if (answer == NO_SUCH) {
            return "throws.NoSuchElementException";
        }
        return answer == ILLEGAL ? "throws.IllegalArgumentException" : Long.toString(answer);
    }

    static long of(boolean b) {
        return b ? 1 : 0;
    }

    /** Puts a text on the tape, in twenties, filled up with blanks. */
    static void put(HorizonDues x, String text) {
        for (int at = 0; at < text.length(); at += 20) {
            int[] five = new int[5];
            for (int i = 0; i < 20; i++) {
                int b = at + i < text.length() ? text.charAt(at + i) & 255 : 32;
                five[i / 4] = five[i / 4] << 8 | b;
            }
            x.feed(five[0], five[1], five[2], five[3], five[4]);
        }
    }

    static int told(HorizonDues x, String text) {
        put(x, text);
        return x.duchy(text.length());
    }

    static HorizonDues landOf(String text) {
        HorizonDues x = new HorizonDues();
        int fault = told(x, text);
        if (fault != 0) {
            throw new IllegalStateException("a test's own text has fault " + fault + " at " + x.fault() + ": " + text);
        }
        return x;
    }

    void end(String name) {
        System.out.println(name + ": " + asked + " answers, " + wrong + " not as due");
        if (wrong != 0 || asked == 0) {
            System.exit(1);
        }
    }
}
