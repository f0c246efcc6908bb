import java.util.NoSuchElementException;
import java.util.Random;

/** Any calls in any state: nothing but the document's exceptions is thrown, and what is answered stays in its bounds. */
public final class AnyCallsTest {
    private static final String[] LINES = {"USER adm", "PASS key", "USER any", "PASS x", "PASV", "PASV", "TYPE A", "TYPE I",
        "STOR f", "STOR tmp", "STOR a/g", "APPE f", "RETR f", "RETR tmp", "NLST", "MKD a", "MKD a/b", "CWD a", "CWD ..",
        "RMD a", "DELE f", "RNFR f", "RNTO g", "RNFR a", "RNTO a/b/c", "REST 3", "REST 24", "SIZE f", "PWD", "CDUP", "ABOR",
        "QUIT", "NOOP", "", "FOO", "USER aaaaaaaaaaaaaaaaaaaaaaaaaaaaaaaaaa", "CWD /../a/../../b"};

    public static void main(String[] args) {
        for (int seed = 0; seed < 400; seed++) {
            run(new Random(seed));
        }
        Due.end();
    }

    private static void run(Random random) {
        ParcelLine parcel = new ParcelLine();
        int calls = 0;
        while (calls < 390) {
            calls += random.nextInt(3) > 0 ? feedLine(parcel, random) : call(parcel, random);
        }
        bounds(parcel);
    }

    private static int feedLine(ParcelLine parcel, Random random) {
        int s = random.nextInt(2);
        String line = LINES[random.nextInt(LINES.length)];
        for (int i = 0; i < line.length(); i++) {
            parcel.feed(s, line.charAt(i));
        }
        parcel.feed(s, 13);
        parcel.feed(s, 10);
        return line.length() + 2;
    }

    private static int number(Random random) {
        int[] edges = {Integer.MIN_VALUE, Integer.MAX_VALUE, -1, 16, 24, 255, 256};
        return random.nextInt(8) == 0 ? edges[random.nextInt(edges.length)] : random.nextInt(3);
    }

    private static int call(ParcelLine parcel, Random random) {
        int a = number(random);
        int b = number(random);
        int kind = random.nextInt(16);
        try {
            switch (kind) {
                case 0 -> parcel.feed(a, random.nextInt(256));
                case 1 -> parcel.close(a);
                case 2, 3, 4 -> parcel.bring(a, random.nextBoolean() ? 13 : b);
                case 5, 6 -> within("take", parcel.take(a), 0, 255);
                case 7 -> parcel.cut(random.nextInt(4) == 0 ? a : -1);
                case 8 -> within("reply", parcel.reply(a), -1, 255);
                case 9 -> within("node", parcel.node(a, b), -1, 128 * 128 * 128);
                case 10 -> within("content", parcel.content(a, b), -1, 255);
                case 11 -> parcel.fill(a, b, number(random), number(random));
                case 12 -> parcel.job(random.nextBoolean(), a, random.nextInt(5) == 0 ? b : 'f', 2);
                case 13, 14 -> within("step", parcel.step(), 0, 5);
                default -> {
                    if (random.nextInt(8) == 0) {
                        parcel.crash();
                    }
                }
            }
        } catch (IllegalArgumentException e) {
            Due.is("IllegalArgumentException of call " + kind, kind >= 1 && kind <= 6 || kind == 12, true);
        } catch (IllegalStateException e) {
            Due.is("IllegalStateException of call " + kind, kind >= 1 && kind <= 4 || kind >= 12 && kind <= 14, true);
        } catch (NoSuchElementException e) {
            Due.is("NoSuchElementException of call " + kind, kind == 5 || kind == 6, true);
        }
        return 1;
    }

    private static void within(String what, int got, int least, int most) {
        Due.is(what + " " + got + " is in its bounds", got >= least && got <= most, true);
    }

    private static void bounds(ParcelLine parcel) {
        for (int s = 0; s < 2; s++) {
            within("waiting", parcel.waiting(s), 0, 200);
            within("running", parcel.running(s), 0, 2);
            within("current", parcel.current(s), -1, 15);
        }
        for (int n = 1; n < 16; n++) {
            if (parcel.node(n, 1) != ParcelLine.NONE) {
                within("bytes", parcel.node(n, 2), 0, 24);
                Due.is("a node is in a directory", parcel.node(parcel.node(n, 0), 1), 0);
            }
        }
    }
}
