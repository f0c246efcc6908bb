/** The edges of transfers: offsets, the order in which they are refused, how they end, and TYPE A. */
public final class TransferEdgesTest {
    public static void main(String[] args) {
        offsetOfTheNextLine();
        offsetOfOtherLines();
        offsetOfOtherSessions();
        retrieveInOrder();
        retrieveWrittenOrRead();
        retrieveAtItsEnd();
        storeInOrder();
        storeOfWrittenOrRead();
        storeAtTheOffset();
        storeOfANewFile();
        appendInOrder();
        appendAtTheEnd();
        namesInOrder();
        namesOfCurrent();
        whatIsSent();
        whatNamesAreSent();
        lastByteTaken();
        nothingToSend();
        clientCloses();
        dataWayBehindEachEnd();
        abortWithAndWithout();
        beingWrittenOrRead();
        typeAOfSent();
        typeAOfReceived();
        typeAReturnAtTheEnd();
        typeACounts();
        Due.end();
    }

    /** File f has the bytes 1, 2 and 3. */
    private static Client withFile() {
        Client client = Client.adm();
        client.keep(0, "f", 1, 2, 3);
        return client;
    }

    private static void offsetOfTheNextLine() {
        Due.sentence("n is the OFFSET for the next line, if that is RETR or STOR (else, and in any other case, it is 0).");
        Client client = withFile();
        Due.is("RETR", client.talk(0, "PASV", "REST 1", "RETR f"), "227;350;150;");
        Due.is("from the second byte on", client.takeAll(0), "2 3");
        Due.is("the next RETR", client.talk(0, "PASV", "RETR f"), "226;227;150;");
        Due.is("from the first byte on", client.takeAll(0), "1 2 3");
        Due.is("STOR", client.talk(0, "PASV", "REST 2", "STOR f"), "226;227;350;150;");
        Due.is("the first two stay", client.contents(1), "1 2");
        Due.is("the next STOR", client.talk(0, "ABOR", "PASV", "STOR f"), "426;226;227;150;");
        Due.is("none stays", client.contents(1), "");
    }

    private static void offsetOfOtherLines() {
        Due.sentence("n is the OFFSET for the next line, if that is RETR or STOR (else, and in any other case, it is 0).");
        String[] between = {"", "FOO", "NOOP", "PASV", "TYPE I", "SIZE f", "RETR q", "RETR Q", "RETR", "STOR", "STOR /",
            "REST 25", "REST", "REST 0", "x".repeat(31)};
        for (String line : between) {
            Client client = withFile();
            Due.is("lines", client.talk(0, "PASV", "REST 2"), "227;350;");
            client.ask(0, line);
            client.due(0, "RETR f", "150;");
            Due.is("the first byte behind " + line, client.take(0), "1");
        }
        Client client = withFile();
        Due.is("a later REST", client.talk(0, "PASV", "REST 4", "REST 2", "RETR f"), "227;350;350;150;");
        Due.is("counts", client.take(0), "3");
        client = withFile();
        Due.is("of a RETR that is refused", client.talk(0, "PASV", "REST 4", "RETR f", "RETR f"), "227;350;554;150;");
        Due.is("nothing is left", client.take(0), "1");
        client = withFile();
        Due.is("an order is no line", client.talk(0, "PASV", "REST 2"), "227;350;");
        client.bytes(0, 255, 252, 1, 13);
        client.due(0, "RETR f", "150;");
        Due.is("the offset holds", client.take(0), "3");
    }

    private static void offsetOfOtherSessions() {
        Due.sentence("n is the OFFSET for the next line, if that is RETR or STOR (else, and in any other case, it is 0).");
        Client client = withFile();
        client.logIn(1, "any");
        Due.is("session 1", client.talk(1, "PASV", "REST 2"), "227;350;");
        Due.is("session 0", client.talk(0, "PASV", "RETR f"), "227;150;");
        Due.is("from the first byte on", client.takeAll(0), "1 2 3");
        Due.is("session 1", client.ask(1, "RETR f"), "150;");
        Due.is("from the third byte on", client.takeAll(1), "3");
    }

    private static void retrieveInOrder() {
        Due.sentence("RETR path: 550 it leads to no file; 450 it is being written; 425 the data way isn't OPEN;");
        Client client = withFile();
        client.logIn(1, "adm");
        client.due(0, "MKD a", "257 /a;");
        client.begin(1, "APPE f");
        Due.is("550 before 425", client.talk(0, "RETR q", "RETR a", "RETR /"), "550;550;550;");
        Due.is("450 before 425", client.talk(0, "RETR f"), "450;");
        Due.is("450 before 554", client.talk(0, "PASV", "REST 9", "RETR f"), "227;350;450;");
        Due.is("550 before 554", client.talk(0, "REST 9", "RETR q"), "350;550;");
        client.due(1, "ABOR", "426;226;");
        Due.is("close", client.close(0), Client.FINE);
        Due.is("425 before 554", client.talk(0, "REST 9", "RETR f"), "350;425;");
        Due.is("running", client.running(0), 0);
    }

    private static void retrieveWrittenOrRead() {
        Due.sentence("450 it is being written");
        Client client = withFile();
        client.logIn(1, "adm");
        client.begin(1, "RETR f");
        client.begin(0, "RETR f");
        Due.is("two may read", client.takeAll(0) + ", " + client.takeAll(1), "1 2 3, 1 2 3");
        client.hear(0);
        client.hear(1);
        client.begin(1, "STOR f", 7);
        Due.is("of one that is written", client.talk(0, "PASV", "RETR f"), "227;450;");
        Due.is("close", client.close(1), Client.FINE);
        client.due(0, "RETR f", "150;");
        Due.is("when it has been written", client.takeAll(0), "7");
    }

    private static void retrieveAtItsEnd() {
        Due.sentence("554 the offset is above its number of bytes; else 150: a transfer sends its bytes from the offset on.");
        String[] answers = {"150;", "150;", "150;", "150;226;", "554;", "554;"};
        String[] bytes = {"1 2 3", "2 3", "3", "", "", ""};
        for (int offset = 0; offset < 6; offset++) {
            Client client = withFile();
            Due.is("offset " + offset, client.talk(0, "PASV", "REST " + offset, "RETR f"), "227;350;" + answers[offset]);
            Due.is("the bytes from " + offset, client.takeAll(0), bytes[offset]);
        }
        Client client = Client.adm();
        client.keep(0, "f", new int[24]);
        Due.is("24 of 24", client.talk(0, "PASV", "REST 24", "RETR f"), "227;350;150;226;");
        Due.is("23 of 24", client.talk(0, "PASV", "REST 23", "RETR f"), "227;350;150;");
        Due.is("one byte", client.takeAll(0), "0");
        client.hear(0);
        client.keep(0, "g");
        Due.is("0 and 1 of none", client.talk(0, "PASV", "REST 1", "RETR g", "RETR g"), "227;350;554;150;226;");
    }

    private static void storeInOrder() {
        Due.sentence("STOR path: 550 it leads to a directory, or to nothing and nothing new can be made there;");
        Client client = withFile();
        client.logIn(1, "adm");
        client.due(0, "MKD a", "257 /a;");
        client.begin(1, "RETR f");
        Due.is("550 before 425", client.talk(0, "STOR a", "STOR q/r", "STOR /", "STOR f/x"), "550;".repeat(4));
        Due.is("450 before 425", client.ask(0, "STOR f"), "450;");
        Due.is("450 before 554", client.talk(0, "PASV", "REST 9", "STOR f"), "227;350;450;");
        Due.is("550 before 554", client.talk(0, "REST 9", "STOR a"), "350;550;");
        client.due(1, "ABOR", "426;226;");
        Due.is("close", client.close(0), Client.FINE);
        Due.is("425 before 554", client.talk(0, "REST 9", "STOR f", "REST 9", "STOR g"), "350;425;350;425;");
        Due.is("the bytes stay", client.contents(1), "1 2 3");
        Due.is("nothing was made", client.node(0, 2), 2);
    }

    private static void storeOfWrittenOrRead() {
        Due.sentence("450 it is being written or read; 425; 554 the offset is above the number of bytes (0 for a new one);");
        Client client = withFile();
        client.logIn(1, "adm");
        client.due(0, "PASV", "227;");
        client.begin(1, "RETR f");
        client.due(0, "STOR f", "450;");
        Due.is("it is read till the last byte", client.take(1) + client.take(1), "12");
        client.due(0, "STOR f", "450;");
        client.take(1);
        Due.is("the last byte was taken", client.hear(1), "226;");
        client.due(0, "STOR f", "150;");
        Due.is("lines", client.talk(1, "PASV", "STOR f", "APPE f"), "227;450;450;");
        Due.is("the file itself", client.node(1, 2), 0);
        client.due(1, "STOR g", "150;");
        Due.is("both receive", client.running(0) + client.running(1), 4);
    }

    private static void storeAtTheOffset() {
        Due.sentence("the file is there, with as many of its first bytes as the offset says, and a transfer");
        String[] kept = {"", "1", "1 2", "1 2 3", "1 2 3"};
        for (int offset = 0; offset <= 4; offset++) {
            Client client = withFile();
            Due.is("offset " + offset, client.talk(0, "PASV", "REST " + offset, "STOR f"),
                "227;350;" + (offset <= 3 ? "150;" : "554;"));
            Due.is("kept of " + offset, client.contents(1), kept[offset]);
            Due.is("running", client.running(0), offset <= 3 ? 2 : 0);
        }
        Client client = withFile();
        Due.is("lines", client.talk(0, "PASV", "REST 1", "STOR f"), "227;350;150;");
        client.bringAll(0, 9);
        Due.is("more behind the offset", client.contents(1), "1 9");
    }

    private static void storeOfANewFile() {
        Due.sentence("(0 for a new one); 552 it is new and no node is free; else 150:");
        Client client = Client.adm();
        Due.is("lines", client.talk(0, "PASV", "REST 1", "STOR f"), "227;350;554;");
        Due.is("nothing was made", client.node(1, 1), -1);
        Due.is("lines", client.talk(0, "REST 0", "STOR f"), "350;150;");
        Due.is("the file is there", client.node(1, 1), 1);
        Due.is("with no bytes", client.node(1, 2), 0);
        client.due(0, "ABOR", "426;226;");
        for (char letter = 'a'; letter < 'o'; letter++) {
            client.say(0, "MKD " + letter + "x");
        }
        client.hear(0);
        Due.is("425 before 552", client.ask(0, "STOR z"), "425;");
        Due.is("554 before 552", client.talk(0, "PASV", "REST 1", "STOR z"), "227;350;554;");
        Due.is("550 before 552", client.talk(0, "STOR ax", "STOR q/z"), "550;550;");
        Due.is("552", client.talk(0, "STOR z", "STOR ax/z"), "552;552;");
        Due.is("nothing runs", client.running(0), 0);
        client.due(0, "STOR f", "150;");
    }

    private static void appendInOrder() {
        Due.sentence("APPE path: as STOR, with its number of bytes for the offset.");
        Client client = withFile();
        client.logIn(1, "adm");
        client.due(0, "MKD a", "257 /a;");
        client.begin(1, "RETR f");
        Due.is("550", client.talk(0, "APPE a", "APPE q/r", "APPE /", "APPE f/x"), "550;".repeat(4));
        Due.is("450 before 425", client.ask(0, "APPE f"), "450;");
        client.due(1, "ABOR", "426;226;");
        Due.is("425", client.talk(0, "APPE f", "APPE g"), "425;425;");
        Due.is("nothing was made", client.node(0, 2), 2);
        client.begin(1, "STOR f");
        Due.is("450", client.talk(0, "PASV", "APPE f"), "227;450;");
    }

    private static void appendAtTheEnd() {
        Due.sentence("APPE path: as STOR, with its number of bytes for the offset.");
        Client client = withFile();
        client.begin(0, "APPE f");
        Due.is("all stay", client.contents(1), "1 2 3");
        client.bringAll(0, 4);
        Due.is("more behind them", client.contents(1), "1 2 3 4");
        client.due(0, "ABOR", "426;226;");
        Due.is("REST doesn't count", client.talk(0, "PASV", "REST 1", "APPE f"), "227;350;150;");
        Due.is("all stay", client.contents(1), "1 2 3 4");
        client.due(0, "ABOR", "426;226;");
        Due.is("nor one that is too large", client.talk(0, "PASV", "REST 24", "APPE f"), "227;350;150;");
        client.due(0, "ABOR", "426;226;");
        Due.is("a new one", client.talk(0, "PASV", "REST 24", "APPE g"), "227;350;150;");
        client.bringAll(0, 5);
        Due.is("has what came", client.contents(2), "5");
    }

    private static void namesInOrder() {
        Due.sentence("NLST (none): 425; else 150:");
        Client client = withFile();
        client.due(0, "NLST", "425;");
        client.due(0, "NLST /", "501;");
        client.begin(0, "NLST");
        client.due(0, "NLST", "503;");
        Due.is("close", client.close(0), Client.FINE);
        client.due(0, "NLST", "426;425;");
    }

    private static void namesOfCurrent() {
        Due.sentence("a transfer sends the names in CURRENT, by node number, with 13 10 behind each (in either TYPE).");
        Client client = Client.adm();
        Due.is("lines", client.talk(0, "MKD zz", "MKD b", "MKD b/c", "MKD a12", "TYPE A", "RMD b/c", "MKD x"),
            "257 /zz;257 /b;257 /b/c;257 /a12;200;250;257 /x;");
        client.begin(0, "NLST");
        Due.is("by node number in TYPE A", client.takeAll(0), "122 122 13 10 98 13 10 120 13 10 97 49 50 13 10");
        Due.is("lines", client.talk(0, "TYPE I", "PASV", "NLST"), "226;200;227;150;");
        Due.is("in TYPE I", client.takeAll(0), "122 122 13 10 98 13 10 120 13 10 97 49 50 13 10");
        Due.is("nothing in b any more", client.talk(0, "CWD b", "PASV", "NLST"), "226;250;227;150;226;");
        client.due(0, "TYPE A", "200;");
        client.keep(0, "f", 13, 10);
        client.begin(0, "NLST");
        Due.is("behind a file in TYPE A", client.takeAll(0), "102 13 10");
    }

    private static void whatIsSent() {
        Due.sentence("What a transfer sends is what there was when it was answered 150.");
        Client client = withFile();
        client.logIn(1, "adm");
        client.begin(1, "RETR f");
        Due.is("what would change it", client.talk(0, "PASV", "STOR f", "APPE f", "DELE f", "RNFR f", "RNTO g"),
            "227;450;450;450;350;450;");
        Due.is("the bytes", client.takeAll(1), "1 2 3");
    }

    private static void whatNamesAreSent() {
        Due.sentence("What a transfer sends is what there was when it was answered 150.");
        Client client = withFile();
        client.logIn(1, "adm");
        client.due(0, "MKD g", "257 /g;");
        client.begin(1, "NLST");
        Due.is("changes", client.talk(0, "RNFR f", "RNTO h", "RMD g", "MKD i", "MKD j"), "350;250;250;257 /i;257 /j;");
        Due.is("the names", client.takeAll(1), "102 13 10 103 13 10");
    }

    private static void lastByteTaken() {
        Due.sentence("It ends with 226 when its last byte was taken (at once, after the 150, if there is none);");
        Client client = withFile();
        client.begin(0, "RETR f");
        for (int i = 1; i <= 3; i++) {
            Due.is("running before byte " + i, client.running(0), 1);
            Due.is("no answer before byte " + i, client.waiting(0), 0);
            Due.is("take", client.take(0), Integer.toString(i));
        }
        Due.is("running", client.running(0), 0);
        Due.is("the answer", client.hear(0), "226;");
        Due.is("take", client.take(0), Client.ELEMENT);
        Due.is("the data way", client.close(0), Client.STATE);
    }

    private static void nothingToSend() {
        Due.sentence("It ends with 226 when its last byte was taken (at once, after the 150, if there is none);");
        Client client = Client.adm();
        client.due(0, "PASV", "227;");
        client.due(0, "NLST", "150;226;");
        Due.is("running", client.running(0), 0);
        Due.is("the data way", client.close(0), Client.STATE);
        client.keep(0, "f");
        client.due(0, "PASV", "227;");
        client.due(0, "RETR f", "150;226;");
        Due.is("take", client.take(0), Client.ELEMENT);
        Due.is("nobody reads it", client.ask(0, "DELE f"), "250;");
    }

    private static void clientCloses() {
        Due.sentence("one that receives ends with 226 when the client closes the data way.");
        Client client = Client.adm();
        client.begin(0, "STOR f");
        Due.is("close without a byte", client.close(0), Client.FINE);
        Due.is("the answer", client.hear(0), "226;");
        Due.is("the file is there", client.node(1, 2), 0);
        client.begin(0, "STOR f", 1);
        Due.is("no answer to a byte", client.waiting(0), 0);
        Due.is("close", client.close(0), Client.FINE);
        Due.is("the answer", client.hear(0), "226;");
        Due.is("bring behind it", client.bring(0, 2), Client.STATE);
        Due.is("the bytes", client.contents(1), "1");
    }

    private static void dataWayBehindEachEnd() {
        Due.sentence("In any case the data way isn't OPEN then.");
        String[] ends = {"take", "close", "ABOR", "QUIT", "cut", "crash"};
        for (String end : ends) {
            for (String command : new String[] {"RETR f", "APPE f"}) {
                Client client = Client.adm();
                client.keep(0, "f", 9);
                client.begin(0, command);
                switch (end) {
                    case "take" -> client.take(0);
                    case "close" -> client.close(0);
                    case "cut" -> client.cut(0);
                    case "crash" -> client.crash();
                    default -> client.say(0, end);
                }
                boolean runsOn = end.equals("take") && command.equals("APPE f");
                Due.is(command + " and " + end, client.close(0), runsOn ? Client.FINE : Client.STATE);
                Due.is("running", client.running(0), 0);
            }
        }
    }

    private static void abortWithAndWithout() {
        Due.sentence("ABOR (none): 226, and 426 before it if a transfer was running, which ends; the data way isn't OPEN then.");
        Client client = withFile();
        client.due(0, "ABOR", "226;");
        Due.is("lines", client.talk(0, "PASV", "ABOR"), "227;226;");
        Due.is("the data way", client.close(0), Client.STATE);
        client.begin(0, "RETR f");
        Due.is("take", client.take(0), "1");
        client.due(0, "ABOR", "426;226;");
        client.due(0, "ABOR", "226;");
        client.begin(0, "APPE f", 4, 5);
        client.due(0, "ABOR", "426;226;");
        Due.is("what came stays", client.contents(1), "1 2 3 4 5");
        client.logIn(1, "any");
        client.begin(1, "RETR f");
        client.due(0, "ABOR", "226;");
        Due.is("the other session's runs on", client.take(1), "1");
    }

    private static void beingWrittenOrRead() {
        Due.sentence("(Being written or read: by a transfer of any session that receives it, or sends its bytes.)");
        String[] commands = {"RETR f", "STOR f", "APPE f", "NLST", "STOR g", "PWD"};
        String[] writes = {"450;", "450;", "450;", "250;", "250;", "250;"};
        for (int i = 0; i < commands.length; i++) {
            Client client = withFile();
            client.logIn(1, "adm");
            client.say(1, "PASV");
            client.say(1, commands[i]);
            Due.is("DELE in " + commands[i], client.ask(0, "DELE f"), writes[i]);
        }
        Client client = withFile();
        client.logIn(1, "adm");
        client.begin(0, "RETR f");
        client.begin(1, "RETR f");
        client.due(1, "ABOR", "426;226;");
        client.due(1, "DELE f", "450;");
        client.cut(0);
        client.due(1, "DELE f", "250;");
    }

    private static void typeAOfSent() {
        Due.sentence("TYPE A: bytes of a file are sent with 13 before each 10;");
        Client client = Client.adm();
        client.keep(0, "f", 10, 10, 13, 10, 13, 65);
        client.due(0, "TYPE A", "200;");
        client.begin(0, "RETR f");
        Due.is("sent", client.takeAll(0), "13 10 13 10 13 13 10 13 65");
        Due.is("lines", client.talk(0, "PASV", "REST 1", "RETR f"), "226;227;350;150;");
        Due.is("sent from the second byte on", client.takeAll(0), "13 10 13 13 10 13 65");
        Due.is("lines", client.talk(0, "TYPE I", "PASV", "RETR f"), "226;200;227;150;");
        Due.is("sent in TYPE I", client.takeAll(0), "10 10 13 10 13 65");
        client.hear(0);
        client.keep(0, "g", 10);
        Due.is("lines", client.talk(0, "TYPE A", "PASV", "RETR g"), "200;227;150;");
        Due.is("the 13", client.take(0), "13");
        Due.is("the 10 is still to come", client.running(0), 1);
        Due.is("the 10", client.take(0), "10");
        Due.is("the end", client.hear(0), "226;");
    }

    /** What a file keeps of some bytes that come in TYPE A, with the data way still open. */
    private static String keptInTypeA(int... bytes) {
        Client client = Client.adm();
        client.due(0, "TYPE A", "200;");
        client.begin(0, "STOR f", bytes);
        return client.contents(1);
    }

    private static void typeAOfReceived() {
        Due.sentence("of those received 13 10 is kept as 10, and 13 before anything else, or at the end of the transfer, as 13");
        Due.is("13", keptInTypeA(13), "");
        Due.is("10", keptInTypeA(10), "10");
        Due.is("13 10", keptInTypeA(13, 10), "10");
        Due.is("13 13", keptInTypeA(13, 13), "13");
        Due.is("13 13 10", keptInTypeA(13, 13, 10), "13 10");
        Due.is("13 10 10", keptInTypeA(13, 10, 10), "10 10");
        Due.is("13 10 13 10", keptInTypeA(13, 10, 13, 10), "10 10");
        Due.is("13 0", keptInTypeA(13, 0), "13 0");
        Due.is("13 65 10", keptInTypeA(13, 65, 10), "13 65 10");
        Due.is("13 255 13", keptInTypeA(13, 255, 13), "13 255");
        Due.is("13 + 256, 10 - 256", keptInTypeA(13 + 256, 10 - 256), "10");
    }

    private static void typeAReturnAtTheEnd() {
        Due.sentence("or at the end of the transfer, as 13 (it isn't counted while it waits).");
        String[] ends = {"close", "ABOR", "QUIT", "cut", "crash", "job"};
        for (String end : ends) {
            Client client = new Client();
            client.logIn(1, "adm");
            client.due(1, "TYPE A", "200;");
            client.begin(1, "STOR f", 1, 2, 3, 13);
            Due.is("it waits", client.node(1, 2), 3);
            switch (end) {
                case "close" -> client.close(1);
                case "cut" -> client.cut(1);
                case "crash" -> client.crash();
                case "job" -> client.job(true, 0, Client.name("f"), 0);
                default -> client.say(1, end);
            }
            Due.is("behind " + end, client.contents(1), "1 2 3 13");
        }
    }

    private static void typeACounts() {
        Due.sentence("All numbers of bytes are those of the bytes kept.");
        Client client = Client.adm();
        client.due(0, "TYPE A", "200;");
        client.keep(0, "f", 13, 10, 13, 10, 5);
        client.due(0, "SIZE f", "213 3;");
        Due.is("node", client.node(1, 2), 3);
        Due.is("lines", client.talk(0, "PASV", "REST 3", "RETR f"), "227;350;150;226;");
        Due.is("lines", client.talk(0, "PASV", "REST 4", "RETR f"), "227;350;554;");
        Due.is("lines", client.talk(0, "REST 2", "RETR f"), "350;150;");
        Due.is("the third", client.takeAll(0), "5");
        Due.is("lines", client.talk(0, "PASV", "REST 1", "STOR f"), "226;227;350;150;");
        Due.is("the first", client.contents(1), "10");
    }
}
