import java.util.Arrays;

/** The edges of a cut and a crash: what is safe, and what is as at first. */
public final class SafeEdgesTest {
    private static final int[] BYTES = {1, 2, 3, 4, 5, 6, 7, 8, 9, 10, 11, 12, 13, 14, 15, 16, 17, 18, 19, 20, 21, 22, 23, 24};

    public static void main(String[] args) {
        whatRepliesSay();
        wholeFours();
        wholeFoursWhenItIsOver();
        tenAndOne();
        withoutAByte();
        offsetOfFours();
        twoTwentySixForAll();
        twoTwentySixForSomethingElse();
        renamedOrRead();
        crashAfterCrash();
        bothSessions();
        newFileOfAnOldNumber();
        waitingReturn();
        sessionsAsAtFirst();
        shelvesStay();
        cutIsAsAtFirst();
        cutLosesNoBytes();
        cutOfNoSession();
        Due.end();
    }

    private static String first(int count) {
        StringBuilder bytes = new StringBuilder();
        for (int i = 0; i < count; i++) {
            bytes.append(BYTES[i]).append(' ');
        }
        return bytes.toString().trim();
    }

    private static void whatRepliesSay() {
        Due.sentence("SAFE: all that a reply says is safe;");
        Client client = Client.adm();
        Due.is("lines", client.talk(0, "MKD a", "MKD b", "MKD a/c", "RMD b", "RNFR a/c", "RNTO d"),
            "257 /a;257 /b;257 /a/c;250;350;250;");
        client.keep(0, "f", 1, 2, 3, 4, 5);
        client.keep(0, "g", 6);
        client.due(0, "DELE g", "250;");
        String before = client.look().split("shelf")[0];
        client.crash();
        Due.is("the store", client.look().split("shelf")[0], before);
    }

    private static void wholeFours() {
        Due.sentence("or is being received, without a 226 for that, the first 4 n bytes, as many as there wholly are");
        for (int count = 0; count <= 24; count++) {
            Client client = Client.adm();
            client.begin(0, "STOR f", Arrays.copyOf(BYTES, count));
            client.crash();
            Due.is("of " + count, client.contents(1), first(count / 4 * 4));
            Due.is("it is there", client.node(1, 1), 1);
        }
    }

    private static void wholeFoursWhenItIsOver() {
        Due.sentence("of a file that was received, or is being received, without a 226 for that,");
        String[] ends = {"ABOR", "QUIT", "cut", "job"};
        for (String end : ends) {
            for (int count = 3; count <= 5; count++) {
                Client client = new Client();
                client.logIn(1, "adm");
                client.begin(1, "STOR f", Arrays.copyOf(BYTES, count));
                if (end.equals("cut")) {
                    client.cut(1);
                } else if (end.equals("job")) {
                    client.job(true, 0, Client.name("f"), 0);
                } else {
                    client.say(1, end);
                }
                Due.is("before the crash", client.contents(1), first(count));
                client.crash();
                Due.is(end + " with " + count, client.contents(1), first(count / 4 * 4));
            }
        }
    }

    private static void tenAndOne() {
        Due.sentence("(no matter what was safe of it before: of ten safe bytes to which one came eight stay;");
        Client client = Client.adm();
        client.keep(0, "f", Arrays.copyOf(BYTES, 10));
        client.crash();
        Due.is("ten safe bytes", client.contents(1), first(10));
        client.logIn(0, "adm");
        client.begin(0, "APPE f", 11);
        client.crash();
        Due.is("to which one came", client.contents(1), first(8));
        client.logIn(0, "adm");
        client.begin(0, "APPE f", 9, 10, 11, 12);
        client.crash();
        Due.is("eight, to which four came", client.contents(1), first(12));
    }

    private static void withoutAByte() {
        Due.sentence("of a file that was received, or is being received, without a 226 for that,");
        Client client = Client.adm();
        client.keep(0, "f", Arrays.copyOf(BYTES, 10));
        client.begin(0, "APPE f");
        client.crash();
        Due.is("to which none came yet", client.contents(1), first(8));
        client.logIn(0, "adm");
        client.keep(0, "g", Arrays.copyOf(BYTES, 7));
        client.begin(0, "APPE g");
        client.due(0, "ABOR", "426;226;");
        client.crash();
        Due.is("to which none came at all", client.contents(2), first(4));
        client.logIn(0, "adm");
        Due.is("a transfer that was refused", client.talk(0, "PASV", "STOR g", "ABOR"), "227;150;426;226;");
        client.keep(0, "g", 1, 2, 3);
        Due.is("no transfer", client.talk(0, "APPE g", "PASV", "REST 4", "STOR g"), "425;227;350;554;");
        client.crash();
        Due.is("takes nothing", client.contents(2), "1 2 3");
    }

    private static void offsetOfFours() {
        Due.sentence("of a file that was received, or is being received, without a 226 for that, the first 4 n bytes,");
        int[] offsets = {3, 4, 5};
        for (int offset : offsets) {
            Client client = Client.adm();
            client.keep(0, "f", Arrays.copyOf(BYTES, 10));
            Due.is("lines", client.talk(0, "PASV", "REST " + offset, "STOR f"), "227;350;150;");
            client.crash();
            Due.is("of ten safe ones from " + offset, client.contents(1), first(offset / 4 * 4));
        }
        Client client = Client.adm();
        client.keep(0, "f", Arrays.copyOf(BYTES, 10));
        Due.is("lines", client.talk(0, "PASV", "STOR f"), "227;150;");
        client.crash();
        Due.is("of a STOR from 0", client.contents(1), "");
    }

    private static void twoTwentySixForAll() {
        Due.sentence("a 226 makes all of it safe)");
        Client client = Client.adm();
        client.begin(0, "STOR f", Arrays.copyOf(BYTES, 5));
        client.due(0, "ABOR", "426;226;");
        client.begin(0, "APPE f");
        Due.is("close", client.close(0), Client.FINE);
        Due.is("the 226", client.hear(0), "226;");
        client.crash();
        Due.is("also what was received before", client.contents(1), first(5));
        client.logIn(0, "adm");
        client.keep(0, "f", 1);
        client.crash();
        Due.is("less than before", client.contents(1), "1");
    }

    private static void twoTwentySixForSomethingElse() {
        Due.sentence("without a 226 for that,");
        Client client = Client.adm();
        client.begin(0, "STOR f", Arrays.copyOf(BYTES, 6));
        client.due(0, "ABOR", "426;226;");
        client.begin(0, "RETR f");
        Due.is("it is sent", client.takeAll(0), first(6));
        Due.is("with 226", client.hear(0), "226;");
        client.due(0, "SIZE f", "213 6;");
        client.keep(0, "g", 1);
        client.due(0, "ABOR", "226;");
        client.crash();
        Due.is("four are safe", client.contents(1), first(4));
        Due.is("g", client.contents(2), "1");
    }

    private static void renamedOrRead() {
        Due.sentence("of a file that was received, or is being received, without a 226 for that,");
        Client client = Client.adm();
        client.begin(0, "STOR f", Arrays.copyOf(BYTES, 6));
        client.due(0, "QUIT", "221;");
        client.logIn(0, "adm");
        Due.is("lines", client.talk(0, "MKD a", "RNFR f", "RNTO a/g"), "257 /a;350;250;");
        client.begin(0, "RETR a/g");
        client.crash();
        Due.is("the file is where it was brought", client.node(1, 0), 2);
        Due.is("with the bytes that are safe", client.contents(1), first(4));
    }

    private static void crashAfterCrash() {
        Due.sentence("then each file loses the bytes that aren't safe;");
        Client client = Client.adm();
        client.crash();
        client.crash();
        Due.is("nothing but the root", client.node(0, 2), 0);
        client.logIn(0, "adm");
        client.begin(0, "STOR f", Arrays.copyOf(BYTES, 9));
        client.crash();
        client.crash();
        Due.is("what is left is safe", client.contents(1), first(8));
        client.logIn(0, "adm");
        client.begin(0, "RETR f");
        Due.is("it is sent", client.takeAll(0), first(8));
    }

    private static void bothSessions() {
        Due.sentence("A CRASH: all transfers end (a 13 that waits is kept), then each file loses the bytes that aren't safe;");
        Client client = Client.adm();
        client.logIn(1, "adm");
        client.begin(0, "STOR f", Arrays.copyOf(BYTES, 5));
        client.begin(1, "STOR g", Arrays.copyOf(BYTES, 9));
        client.crash();
        Due.is("session 0", client.running(0), 0);
        Due.is("session 1", client.running(1), 0);
        Due.is("f", client.contents(1), first(4));
        Due.is("g", client.contents(2), first(8));
        client.logIn(1, "adm");
        Due.is("nobody writes them", client.talk(1, "DELE f", "DELE g"), "250;250;");
    }

    private static void newFileOfAnOldNumber() {
        Due.sentence("of a file that was received, or is being received, without a 226 for that,");
        Client client = Client.adm();
        client.begin(0, "STOR f", Arrays.copyOf(BYTES, 5));
        Due.is("lines", client.talk(0, "ABOR", "DELE f", "MKD d"), "426;226;250;257 /d;");
        client.keep(0, "d/e", 1);
        client.crash();
        Due.is("a directory of that number keeps what is in it", client.node(1, 2), 1);
        client.logIn(0, "adm");
        Due.is("lines", client.talk(0, "DELE d/e", "RMD d"), "250;250;");
        client.keep(0, "g", Arrays.copyOf(BYTES, 5));
        client.crash();
        Due.is("a file of that number with a 226", client.contents(1), first(5));
    }

    private static void waitingReturn() {
        Due.sentence("A CRASH: all transfers end (a 13 that waits is kept), then each file loses the bytes that aren't safe;");
        for (int count = 2; count <= 5; count++) {
            Client client = Client.adm();
            client.due(0, "TYPE A", "200;");
            client.begin(0, "STOR f", Arrays.copyOf(BYTES, count));
            client.bringAll(0, 13);
            client.crash();
            Due.is(count + " and a 13", client.contents(1), count == 3 ? "1 2 3 13" : first(count / 4 * 4));
        }
    }

    private static void sessionsAsAtFirst() {
        Due.sentence("sessions are as at first, there are no reply bytes.");
        Client client = Client.adm();
        client.keep(0, "f", 1, 2);
        client.logIn(1, "any");
        client.say(0, "PASV");
        client.say(1, "NOOP");
        client.text(0, "NO");
        client.bytes(1, 255, 253);
        client.crash();
        for (int s = 0; s < 2; s++) {
            Due.is("waiting", client.waiting(s), 0);
            Due.is("current", client.current(s), -1);
            Due.is("the data way", client.close(s), Client.STATE);
            client.due(s, "NOOP", "200;");
            client.due(s, "PWD", "530;");
        }
        client.say(0, "USER adm");
        client.bytes(1, 13);
        client.crash();
        client.due(0, "PASS key", "503;");
        client.bytes(1, 10, 13, 10);
        Due.is("the 13 is gone", client.hear(1), "500;");
        Due.is("lines", client.talk(0, "USER adm", "PASS key", "TYPE A", "PASV", "REST 1"), "331;230;200;227;350;");
        client.crash();
        Due.is("lines", client.talk(0, "USER adm", "PASS key", "PASV", "RETR f"), "331;230;227;150;");
        Due.is("no offset", client.take(0), "1");
    }

    private static void shelvesStay() {
        Due.sentence("THE COPIER has SHELVES 0 .. 2, each with at most 24 bytes (none at first).");
        Client client = new Client();
        client.fill(0, 3, 1, 1);
        client.fill(2, 24, 0, 0);
        client.crash();
        client.cut(1);
        Due.is("shelf 0", client.onShelf(0), "1 2 3");
        Due.is("shelf 1", client.onShelf(1), "");
        Due.is("shelf 2", client.shelf(2, -1), 24);
    }

    private static void cutIsAsAtFirst() {
        Due.sentence("Session s is cut: it is as at first, a transfer ends without an answer, its reply bytes are gone;");
        for (int s = 0; s < 2; s++) {
            Client client = new Client();
            client.logIn(s, "adm");
            client.keep(s, "f", 1, 2);
            client.say(s, "PASV");
            client.text(s, "x".repeat(31));
            Due.is("cut", client.cut(s), true);
            Due.is("waiting", client.waiting(s), 0);
            Due.is("current", client.current(s), -1);
            Due.is("the data way", client.close(s), Client.STATE);
            Due.is("lines", client.talk(s, "NOOP", "PASS key", "PWD", "USER adm"), "200;503;530;331;");
            client.cut(s);
            client.due(s, "PASS key", "503;");
            client.bytes(s, 255);
            client.cut(s);
            client.due(s, "NOOP", "200;");
            client.bytes(s, 255, 251);
            client.cut(s);
            client.due(s, "NOOP", "200;");
            client.bytes(s, 13);
            client.cut(s);
            client.bytes(s, 10, 13, 10);
            Due.is("the 13 is gone", client.hear(s), "500;");
            Due.is("lines", client.talk(s, "USER adm", "PASS key", "PASV", "REST 1"), "331;230;227;350;");
            client.cut(s);
            Due.is("lines", client.talk(s, "USER adm", "PASS key", "PASV", "RETR f"), "331;230;227;150;");
            Due.is("no offset", client.take(s), "1");
        }
    }

    private static void cutLosesNoBytes() {
        Due.sentence("Session s is cut: it is as at first, a transfer ends without an answer, its reply bytes are gone;");
        Client client = Client.adm();
        client.logIn(1, "adm");
        client.begin(0, "STOR f", 1, 2, 3, 4, 5);
        client.say(1, "NOOP");
        Due.is("cut", client.cut(0), true);
        Due.is("running", client.running(0), 0);
        Due.is("no answer", client.waiting(0), 0);
        Due.is("the bytes", client.contents(1), "1 2 3 4 5");
        Due.is("the other session", client.hear(1), "200;");
        Due.is("the other session", client.current(1), 0);
        client.begin(1, "RETR f");
        Due.is("cut", client.cut(0), true);
        Due.is("the other session's transfer", client.take(1), "1");
        Due.is("cut", client.cut(1), true);
        Due.is("it ends", client.take(1), Client.ELEMENT);
        client.logIn(0, "adm");
        client.due(0, "DELE f", "250;");
    }

    private static void cutOfNoSession() {
        Due.sentence("false if there is no such session.");
        Client client = Client.adm();
        client.begin(0, "STOR f", 1);
        int[] none = {-1, 2, 3, Integer.MIN_VALUE, Integer.MAX_VALUE};
        for (int s : none) {
            Due.is("cut(" + s + ")", client.cut(s), false);
        }
        Due.is("running", client.running(0), 2);
        Due.is("current", client.current(0), 0);
        Due.is("a new object", new Client().cut(0), true);
        Due.is("a new object", new Client().cut(1), true);
    }
}
