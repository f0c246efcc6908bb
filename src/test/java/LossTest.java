/** Promises 6 and 7: cut and crash, and what is safe. */
public final class LossTest {
    public static void main(String[] args) {
        cutSession();
        cutEndsATransfer();
        cutDropsWhatWasBegun();
        crashResetsSessions();
        crashKeepsTheStore();
        safeBlocks();
        safeBlocksAfterTheTransfer();
        safeByAnswer();
        waitingReturnAtACrash();
        Due.end();
    }

    private static void cutSession() {
        Client client = Client.adm();
        client.logIn(1, "any");
        client.say(0, "PASV");
        client.say(1, "NOOP");
        Due.is("cut(-1)", client.cut(-1), false);
        Due.is("cut(2)", client.cut(2), false);
        Due.is("waiting", client.waiting(0), 5);
        Due.is("cut(0)", client.cut(0), true);
        Due.is("waiting", client.waiting(0), 0);
        Due.is("current", client.current(0), -1);
        Due.is("the data way", client.close(0), Client.STATE);
        Due.is("the other session", client.hear(1), "200;");
        Due.is("the other session's current", client.current(1), 0);
    }

    private static void cutEndsATransfer() {
        Client client = Client.adm();
        client.logIn(1, "adm");
        client.due(0, "TYPE A", "200;");
        client.begin(0, "STOR f", 1, 2, 3, 4, 5, 13);
        client.cut(0);
        Due.is("running", client.running(0), 0);
        Due.is("no answer", client.waiting(0), 0);
        Due.is("all bytes stay", client.contents(1), "1 2 3 4 5 13");
        client.due(1, "RNFR f", "350;");
        client.due(1, "RNTO g", "250;");
        client.logIn(0, "adm");
        client.begin(0, "RETR g");
        client.cut(0);
        Due.is("take", client.take(0), Client.ELEMENT);
        client.due(1, "DELE g", "250;");
    }

    private static void cutDropsWhatWasBegun() {
        Client client = new Client();
        client.text(0, "FOO");
        client.cut(0);
        client.due(0, "NOOP", "200;");
        client.bytes(0, 255);
        client.cut(0);
        client.due(0, "NOOP", "200;");
        client.bytes(0, 255, 253);
        client.cut(0);
        client.due(0, "NOOP", "200;");
        client.bytes(0, 13);
        client.cut(0);
        client.bytes(0, 10, 13, 10);
        Due.is("13 isn't held through a cut", client.hear(0), "500;");
        client.text(0, "x".repeat(31));
        client.cut(0);
        client.due(0, "NOOP", "200;");
        client.say(0, "USER adm");
        client.cut(0);
        client.due(0, "PASS key", "503;");
        client.logIn(0, "adm");
        client.due(0, "MKD a", "257 /a;");
        client.due(0, "RNFR a", "350;");
        client.cut(0);
        client.due(0, "RNTO b", "530;");
    }

    private static void crashResetsSessions() {
        Client client = Client.adm();
        client.logIn(1, "any");
        client.say(0, "PASV");
        client.say(1, "PASV");
        client.text(0, "FOO");
        client.bytes(1, 255, 251);
        client.crash();
        for (int s = 0; s < 2; s++) {
            Due.is("waiting", client.waiting(s), 0);
            Due.is("current", client.current(s), -1);
            Due.is("the data way", client.close(s), Client.STATE);
            client.due(s, "NOOP", "200;");
        }
    }

    private static void crashKeepsTheStore() {
        Client client = Client.adm();
        client.fill(1, 5, 7, 1);
        client.due(0, "MKD a", "257 /a;");
        client.keep(0, "a/f", 1, 2, 3);
        client.keep(0, "g", 1, 2, 3);
        client.due(0, "DELE g", "250;");
        client.crash();
        Due.is("a", client.node(1, 3), Client.name("a"));
        Due.is("a/f", client.contents(2), "1 2 3");
        Due.is("g", client.node(3, 1), -1);
        Due.is("the shelf", client.onShelf(1), "7 8 9 10 11");
        client.logIn(0, "adm");
        client.begin(0, "RETR a/f");
        client.crash();
        Due.is("a file that was read", client.contents(2), "1 2 3");
        client.logIn(0, "adm");
        client.due(0, "DELE a/f", "250;");
    }

    private static void safeBlocks() {
        int[] bytes = {1, 2, 3, 4, 5, 6, 7, 8, 9};
        for (int n = 0; n <= 9; n++) {
            Client client = Client.adm();
            client.begin(0, "STOR f", java.util.Arrays.copyOf(bytes, n));
            client.crash();
            Due.is("running", client.running(0), 0);
            Due.is("of " + n, client.node(1, 2), n / 4 * 4);
            client.logIn(0, "adm");
            client.due(0, "DELE f", "250;");
        }
        Client client = Client.adm();
        client.keep(0, "f", 1, 2, 3, 4, 5, 6, 7, 8, 9, 10);
        client.crash();
        Due.is("ten safe bytes", client.node(1, 2), 10);
        client.logIn(0, "adm");
        client.begin(0, "APPE f", 11);
        client.crash();
        Due.is("ten safe bytes to which one came", client.contents(1), "1 2 3 4 5 6 7 8");
    }

    private static void safeBlocksAfterTheTransfer() {
        Client client = Client.adm();
        client.begin(0, "STOR a", 1, 2, 3, 4, 5);
        client.due(0, "ABOR", "426;226;");
        client.begin(0, "STOR b", 1, 2, 3, 4, 5);
        client.due(0, "QUIT", "221;");
        client.logIn(0, "adm");
        client.begin(0, "STOR c", 1, 2, 3, 4, 5);
        client.cut(0);
        client.logIn(0, "adm");
        client.due(0, "RNFR c", "350;");
        client.due(0, "RNTO d", "250;");
        client.keep(0, "e", 1, 2, 3, 4, 5);
        client.begin(0, "APPE e");
        client.due(0, "ABOR", "426;226;");
        client.due(0, "SIZE a", "213 5;");
        for (int n = 1; n <= 4; n++) {
            Due.is("before the crash", client.node(n, 2), 5);
        }
        client.crash();
        for (int n = 1; n <= 4; n++) {
            Due.is("behind the crash", client.contents(n), "1 2 3 4");
        }
    }

    private static void safeByAnswer() {
        Client client = Client.adm();
        client.begin(0, "STOR f", 1, 2, 3, 4, 5);
        client.due(0, "ABOR", "426;226;");
        client.begin(0, "APPE f", 6);
        Due.is("close", client.close(0), Client.FINE);
        client.crash();
        Due.is("a 226 makes all of it safe", client.node(1, 2), 6);
        client.logIn(0, "adm");
        client.begin(0, "STOR f", 1, 2, 3);
        client.due(0, "ABOR", "426;226;");
        client.due(0, "DELE f", "250;");
        client.keep(0, "g", 1, 2, 3);
        client.crash();
        Due.is("a new file of an old number", client.node(1, 2), 3);
    }

    private static void waitingReturnAtACrash() {
        Client client = Client.adm();
        client.due(0, "TYPE A", "200;");
        client.begin(0, "STOR f", 1, 2, 3, 13);
        Due.is("13 waits", client.node(1, 2), 3);
        client.crash();
        Due.is("13 is kept before the loss", client.contents(1), "1 2 3 13");
    }
}
