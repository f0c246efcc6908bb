import java.util.NoSuchElementException;

/**
 * Speaks with one ParcelLine in whole lines and texts, and counts the calls, as an object is good for 512.
 * A call that throws answers the short name of its exception.
 */
final class Client {
    static final String ARGUMENT = "IllegalArgumentException";
    static final String STATE = "IllegalStateException";
    static final String ELEMENT = "NoSuchElementException";
    static final String FINE = "fine";

    private static final int MOST_CALLS = 512;

    private final ParcelLine parcel = new ParcelLine();
    private int calls = 0;

    static Client adm() {
        Client client = new Client();
        client.logIn(0, "adm");
        return client;
    }

    static int name(String text) {
        int number = 0;
        for (int i = text.length() - 1; i >= 0; i--) {
            number = number * 128 + text.charAt(i);
        }
        return number;
    }

    private ParcelLine counted() {
        calls++;
        if (calls > MOST_CALLS) {
            throw new AssertionError("the test makes more than 512 calls on one object");
        }
        return parcel;
    }

    boolean feed(int s, int b) {
        return counted().feed(s, b);
    }

    void bytes(int s, int... bytes) {
        for (int b : bytes) {
            feed(s, b);
        }
    }

    void text(int s, String text) {
        for (int i = 0; i < text.length(); i++) {
            feed(s, text.charAt(i));
        }
    }

    void say(int s, String line) {
        text(s, line);
        bytes(s, 13, 10);
    }

    /** All reply bytes of a session; 13 10 is shown as ; and other bytes outside 32 .. 126 in angles. */
    String hear(int s) {
        StringBuilder heard = new StringBuilder();
        int waiting = counted().waiting(s);
        for (int i = 0; i < waiting; i++) {
            int b = counted().reply(s);
            if (b == 10 && heard.toString().endsWith("<13>")) {
                heard.setLength(heard.length() - 4);
                heard.append(';');
            } else if (b < 32 || b > 126) {
                heard.append('<').append(b).append('>');
            } else {
                heard.append((char) b);
            }
        }
        return heard.toString();
    }

    /** What a line is answered; replies of earlier lines must have been heard. */
    String ask(int s, String line) {
        say(s, line);
        return hear(s);
    }

    void due(int s, String line, String want) {
        Due.is("session " + s + ": " + line, ask(s, line), want);
    }

    /** What some lines are answered together. */
    String talk(int s, String... lines) {
        for (String line : lines) {
            say(s, line);
        }
        return hear(s);
    }

    void logIn(int s, String user) {
        due(s, "USER " + user, "331;");
        due(s, "PASS key", "230;");
    }

    /** Begins a file by STOR and brings its bytes; the transfer runs on. */
    void begin(int s, String command, int... bytes) {
        due(s, "PASV", "227;");
        due(s, command, "150;");
        bringAll(s, bytes);
    }

    void bringAll(int s, int... bytes) {
        for (int b : bytes) {
            Due.is("bring", bring(s, b), FINE);
        }
    }

    /** Keeps a file safely. */
    void keep(int s, String path, int... bytes) {
        begin(s, "STOR " + path, bytes);
        Due.is("close", close(s), FINE);
        Due.is("the answer to close", hear(s), "226;");
    }

    /** The bytes that a transfer sends until it ends. */
    String takeAll(int s) {
        StringBuilder taken = new StringBuilder();
        while (running(s) == 1) {
            taken.append(take(s)).append(' ');
        }
        return taken.toString().trim();
    }

    String contents(int n) {
        StringBuilder held = new StringBuilder();
        int count = node(n, 2);
        for (int k = 0; k < count; k++) {
            held.append(content(n, k)).append(' ');
        }
        return held.toString().trim();
    }

    String onShelf(int k) {
        StringBuilder held = new StringBuilder();
        int count = shelf(k, -1);
        for (int i = 0; i < count; i++) {
            held.append(shelf(k, i)).append(' ');
        }
        return held.toString().trim();
    }

    /** All that can be seen without a change. */
    String look() {
        StringBuilder seen = new StringBuilder();
        for (int n = 0; n < 16; n++) {
            int isFile = node(n, 1);
            if (isFile != ParcelLine.NONE) {
                seen.append(n).append(isFile == 1 ? " file " : " directory ").append(node(n, 0)).append(' ');
                seen.append(node(n, 3)).append(": ").append(isFile == 1 ? contents(n) : "" + node(n, 2)).append('\n');
            }
        }
        for (int k = 0; k < 3; k++) {
            seen.append("shelf ").append(onShelf(k)).append('\n');
        }
        for (int s = 0; s < 2; s++) {
            seen.append("session ").append(current(s)).append(' ').append(running(s)).append(' ').append(waiting(s));
            seen.append('\n');
        }
        return seen.toString();
    }

    String close(int s) {
        try {
            counted().close(s);
            return FINE;
        } catch (RuntimeException e) {
            return e.getClass().getSimpleName();
        }
    }

    String bring(int s, int b) {
        try {
            counted().bring(s, b);
            return FINE;
        } catch (RuntimeException e) {
            return e.getClass().getSimpleName();
        }
    }

    String take(int s) {
        try {
            return Integer.toString(counted().take(s));
        } catch (IllegalArgumentException | NoSuchElementException e) {
            return e.getClass().getSimpleName();
        }
    }

    boolean cut(int s) {
        return counted().cut(s);
    }

    void crash() {
        counted().crash();
    }

    int waiting(int s) {
        return counted().waiting(s);
    }

    int reply(int s) {
        return counted().reply(s);
    }

    int node(int n, int what) {
        return counted().node(n, what);
    }

    int content(int n, int k) {
        return counted().content(n, k);
    }

    int current(int s) {
        return counted().current(s);
    }

    int running(int s) {
        return counted().running(s);
    }

    boolean fill(int k, int n, int seed, int step) {
        return counted().fill(k, n, seed, step);
    }

    int shelf(int k, int i) {
        return counted().shelf(k, i);
    }

    String job(boolean bringing, int k, int name, int tries) {
        try {
            counted().job(bringing, k, name, tries);
            return FINE;
        } catch (RuntimeException e) {
            return e.getClass().getSimpleName();
        }
    }

    String step() {
        try {
            return Integer.toString(counted().step());
        } catch (IllegalStateException e) {
            return e.getClass().getSimpleName();
        }
    }

    /** What so many steps answer. */
    String steps(int count) {
        StringBuilder answers = new StringBuilder();
        for (int i = 0; i < count; i++) {
            answers.append(step()).append(' ');
        }
        return answers.toString().trim();
    }
}
