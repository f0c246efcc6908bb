/** Promise 2: PASV, REST, RETR, STOR, APPE, NLST, ABOR, SIZE and TYPE A. */
public final class TransfersTest {
    public static void main(String[] args) {
        storeAndRetrieve();
        storeRefused();
        storeOfABusyFile();
        retrieveRefused();
        offsets();
        offsetIsForOneLine();
        append();
        emptyTransfers();
        names();
        namesAreThoseOfTheAnswer();
        namesOfAllNodes();
        namesLeaveFilesAlone();
        abort();
        asciiSent();
        asciiReceived();
        fullFile();
        dataWayStaysThroughUser();
        twoReaders();
        Due.end();
    }

    private static void storeAndRetrieve() {
        Client client = Client.adm();
        client.keep(0, "f", 1, 255, 0, 13, 10);
        Due.is("the bytes", client.contents(1), "1 255 0 13 10");
        client.due(0, "SIZE f", "213 5;");
        client.due(0, "RETR f", "425;");
        client.begin(0, "RETR f");
        Due.is("taken", client.takeAll(0), "1 255 0 13 10");
        Due.is("the answer to the last byte", client.hear(0), "226;");
        Due.is("the data way", client.close(0), Client.STATE);
        client.keep(0, "f", 9);
        Due.is("STOR begins anew", client.contents(1), "9");
        client.keep(0, "g", 1, 2, 3, 4, 5, 6, 7, 8, 9, 10);
        client.due(0, "SIZE g", "213 10;");
        client.due(0, "SIZE q", "550;");
        client.due(0, "SIZE /", "550;");
    }

    private static void storeRefused() {
        Client client = Client.adm();
        client.due(0, "MKD a", "257 /a;");
        client.keep(0, "f", 1, 2);
        String[] wrong = {"a", "/", "..", "a/..", "q/r", "f/g", "q/.."};
        for (String path : wrong) {
            client.due(0, "STOR " + path, "550;");
            client.due(0, "APPE " + path, "550;");
        }
        client.due(0, "STOR f", "425;");
        client.due(0, "APPE q", "425;");
        Due.is("q", client.node(3, 1), -1);
    }

    private static void storeOfABusyFile() {
        Client client = Client.adm();
        client.logIn(1, "adm");
        client.keep(0, "f", 1, 2);
        client.begin(1, "RETR f");
        client.due(0, "STOR f", "450;");
        client.due(0, "APPE f", "450;");
        client.due(1, "ABOR", "426;226;");
        client.begin(1, "STOR f", 3);
        client.due(0, "STOR f", "450;");
        client.due(0, "APPE f", "450;");
        client.due(0, "RETR f", "450;");
        client.due(0, "SIZE f", "213 1;");
    }

    private static void retrieveRefused() {
        Client client = Client.adm();
        client.due(0, "MKD a", "257 /a;");
        client.due(0, "PASV", "227;");
        client.due(0, "RETR a", "550;");
        client.due(0, "RETR q", "550;");
        client.due(0, "RETR /", "550;");
        Due.is("the data way stays open", client.close(0), Client.FINE);
        Due.is("nothing is answered", client.hear(0), "");
    }

    private static void offsets() {
        Client client = Client.adm();
        client.keep(0, "f", 1, 2, 3);
        String[] wrong = {"25", "000", "x", "-1", "1x", " 1", "1 ", "99", "/", ":"};
        for (String number : wrong) {
            client.due(0, "REST " + number, "501;");
        }
        client.due(0, "PASV", "227;");
        client.due(0, "REST 4", "350;");
        client.due(0, "RETR f", "554;");
        client.due(0, "REST 02", "350;");
        client.due(0, "RETR f", "150;");
        Due.is("from the offset on", client.takeAll(0), "3");
        client.due(0, "PASV", "226;227;");
        client.due(0, "REST 24", "350;");
        client.due(0, "STOR f", "554;");
        client.due(0, "REST 1", "350;");
        client.due(0, "STOR g", "554;");
        Due.is("nothing was made", client.node(2, 1), -1);
        client.due(0, "REST 3", "350;");
        client.due(0, "RETR f", "150;226;");
        client.due(0, "PASV", "227;");
        client.due(0, "REST 1", "350;");
        client.due(0, "stor f", "150;");
        Due.is("the first bytes stay", client.contents(1), "1");
        client.bringAll(0, 8, 9);
        Due.is("more behind them", client.contents(1), "1 8 9");
    }

    private static void offsetIsForOneLine() {
        String[] between = {"NOOP", "", "TYPE I", "RETR q", "REST 25", "SIZE f"};
        for (String line : between) {
            Client client = Client.adm();
            client.keep(0, "f", 1, 2, 3);
            client.due(0, "PASV", "227;");
            client.due(0, "REST 2", "350;");
            client.ask(0, line);
            client.due(0, "RETR f", "150;");
            Due.is("first byte behind " + line, client.take(0), "1");
        }
        Client client = Client.adm();
        client.keep(0, "f", 1, 2, 3);
        client.due(0, "PASV", "227;");
        client.due(0, "REST 9", "350;");
        client.due(0, "REST 1", "350;");
        client.due(0, "RETR f", "150;");
        Due.is("the later REST counts", client.takeAll(0), "2 3");
    }

    private static void append() {
        Client client = Client.adm();
        client.begin(0, "APPE f", 1, 2);
        Due.is("close", client.close(0), Client.FINE);
        client.due(0, "PASV", "226;227;");
        client.due(0, "REST 1", "350;");
        client.due(0, "APPE f", "150;");
        client.bringAll(0, 3);
        Due.is("behind all there is", client.contents(1), "1 2 3");
    }

    private static void emptyTransfers() {
        Client client = Client.adm();
        client.keep(0, "f");
        client.due(0, "PASV", "227;");
        client.due(0, "RETR f", "150;226;");
        Due.is("running", client.running(0), 0);
        Due.is("the data way", client.close(0), Client.STATE);
        client.due(0, "MKD a", "257 /a;");
        client.due(0, "CWD a", "250;");
        client.due(0, "NLST", "425;");
        client.due(0, "PASV", "227;");
        client.due(0, "NLST", "150;226;");
        Due.is("the data way", client.close(0), Client.STATE);
        client.due(0, "DELE /f", "250;");
    }

    private static void names() {
        Client client = Client.adm();
        client.due(0, "MKD ab", "257 /ab;");
        client.keep(0, "ab/f");
        client.keep(0, "xyz", 1);
        client.due(0, "MKD 0", "257 /0;");
        client.due(0, "RMD 0", "250;");
        client.due(0, "TYPE A", "200;");
        client.due(0, "MKD c", "257 /c;");
        client.begin(0, "NLST");
        Due.is("running", client.running(0), 1);
        Due.is("the names", client.takeAll(0), "97 98 13 10 120 121 122 13 10 99 13 10");
        client.due(0, "DELE xyz", "226;250;");
        client.due(0, "CWD ab", "250;");
        client.begin(0, "NLST");
        Due.is("the names in ab", client.takeAll(0), "102 13 10");
    }

    private static void namesAreThoseOfTheAnswer() {
        Client client = Client.adm();
        client.logIn(1, "adm");
        for (int i = 0; i < 3; i++) {
            client.due(0, "MKD a" + i + "b", "257 /a" + i + "b;");
        }
        client.begin(1, "NLST");
        client.due(0, "RMD a1b", "250;");
        client.due(0, "RNFR a2b", "350;");
        client.due(0, "RNTO q", "250;");
        Due.is("the names", client.takeAll(1), "97 48 98 13 10 97 49 98 13 10 97 50 98 13 10");
    }

    private static void namesOfAllNodes() {
        Client client = Client.adm();
        StringBuilder want = new StringBuilder();
        for (int i = 0; i < 15; i++) {
            client.say(0, "MKD xy" + (char) ('a' + i));
            want.append("120 121 ").append(97 + i).append(" 13 10 ");
        }
        client.say(0, "PASV");
        client.say(0, "NLST");
        Due.is("the names", client.takeAll(0), want.toString().trim());
    }

    private static void namesLeaveFilesAlone() {
        Client client = Client.adm();
        client.logIn(1, "any");
        client.keep(0, "f", 1, 2);
        client.begin(0, "RETR f");
        client.due(0, "ABOR", "426;226;");
        client.begin(0, "NLST");
        client.due(0, "ABOR", "426;226;");
        client.begin(1, "RETR f");
        client.due(0, "DELE f", "450;");
        client.due(1, "ABOR", "426;226;");
        client.begin(1, "NLST");
        client.due(0, "DELE f", "250;");
    }

    private static void abort() {
        Client client = Client.adm();
        client.due(0, "ABOR", "226;");
        client.due(0, "PASV", "227;");
        client.due(0, "ABOR", "226;");
        Due.is("the data way", client.close(0), Client.STATE);
        client.begin(0, "STOR f", 1, 2);
        client.due(0, "ABOR", "426;226;");
        Due.is("running", client.running(0), 0);
        Due.is("the data way", client.close(0), Client.STATE);
        Due.is("what was received", client.contents(1), "1 2");
        client.begin(0, "RETR f");
        client.due(0, "ABOR", "426;226;");
        Due.is("take", client.take(0), Client.ELEMENT);
        client.begin(0, "RETR f");
        Due.is("from the first byte on", client.takeAll(0), "1 2");
        client.due(0, "DELE f", "226;250;");
    }

    private static void asciiSent() {
        Client client = Client.adm();
        client.keep(0, "f", 10, 13, 10, 65, 13);
        client.due(0, "TYPE A", "200;");
        client.begin(0, "RETR f");
        Due.is("13 before each 10", client.takeAll(0), "13 10 13 13 10 65 13");
        client.due(0, "SIZE f", "226;213 5;");
        client.due(0, "PASV", "227;");
        client.due(0, "REST 2", "350;");
        client.due(0, "RETR f", "150;");
        Due.is("the offset counts the bytes kept", client.takeAll(0), "13 10 65 13");
    }

    private static void asciiReceived() {
        Client client = Client.adm();
        client.due(0, "TYPE A", "200;");
        client.begin(0, "STOR f", 13);
        Due.is("13 waits", client.node(1, 2), 0);
        client.bringAll(0, 10);
        Due.is("13 10", client.contents(1), "10");
        client.bringAll(0, 13, 13);
        Due.is("13 13", client.contents(1), "10 13");
        client.bringAll(0, 65, 10);
        Due.is("13 65 10", client.contents(1), "10 13 13 65 10");
        client.bringAll(0, 13);
        Due.is("close", client.close(0), Client.FINE);
        Due.is("13 at the end", client.contents(1), "10 13 13 65 10 13");
        client.due(0, "DELE f", "226;250;");
        client.begin(0, "STOR f", 13);
        client.due(0, "ABOR", "426;226;");
        Due.is("13 at an abort", client.contents(1), "13");
        client.begin(0, "STOR f", 13);
        client.due(0, "QUIT", "221;");
        Due.is("13 at a quit", client.contents(1), "13");
        client.logIn(0, "adm");
        client.begin(0, "STOR f", 10);
        Due.is("no 13 waits in a later transfer", client.contents(1), "10");
    }

    private static void fullFile() {
        Client client = Client.adm();
        int[] bytes = new int[24];
        java.util.Arrays.fill(bytes, 10);
        client.begin(0, "STOR f", bytes);
        client.bringAll(0, 7, 8);
        Due.is("further bytes are dropped", client.node(1, 2), 24);
        Due.is("the last byte", client.content(1, 23), 10);
        Due.is("close", client.close(0), Client.FINE);
        client.due(0, "SIZE f", "226;213 24;");
        client.due(0, "TYPE A", "200;");
        client.begin(0, "RETR f");
        for (int i = 0; i < 48; i++) {
            Due.is("byte " + i, client.take(0), i % 2 == 0 ? "13" : "10");
        }
        Due.is("running", client.running(0), 0);
    }

    private static void dataWayStaysThroughUser() {
        Client client = Client.adm();
        client.keep(0, "f", 1);
        client.due(0, "PASV", "227;");
        client.due(0, "PASV", "227;");
        client.logIn(0, "any");
        client.due(0, "RETR f", "150;");
        Due.is("take", client.takeAll(0), "1");
        client.due(0, "PASV", "226;227;");
        client.due(0, "USER any", "331;");
        Due.is("close without a user", client.close(0), Client.FINE);
    }

    private static void twoReaders() {
        Client client = Client.adm();
        client.logIn(1, "any");
        client.keep(0, "f", 1, 2);
        client.begin(0, "RETR f");
        client.begin(1, "RETR f");
        Due.is("session 0", client.take(0), "1");
        Due.is("session 1", client.takeAll(1), "1 2");
        Due.is("the answer to session 1", client.hear(1), "226;");
        Due.is("session 0", client.takeAll(0), "2");
        client.due(0, "DELE f", "226;250;");
        client.keep(0, "g", 1, 2);
        client.begin(0, "RETR g");
        client.begin(1, "RETR g");
        client.due(0, "ABOR", "426;226;");
        client.due(0, "DELE g", "450;");
    }
}
