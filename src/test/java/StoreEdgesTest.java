/** The edges of the store: its nodes, names and bytes. */
public final class StoreEdgesTest {
    public static void main(String[] args) {
        fifteenNodesBesideTheRoot();
        lowestFreeNumber();
        numberStays();
        nameLengths();
        firstCharacter();
        furtherCharacters();
        noTwoOfOneName();
        sameNameElsewhere();
        twentyFourBytes();
        fullFile();
        fullFileInTypeA();
        nothingButTheRoot();
        Due.end();
    }

    private static void fifteenNodesBesideTheRoot() {
        Due.sentence("nodes 0 .. 15.");
        Client client = Client.adm();
        for (char letter = 'a'; letter < 'o'; letter++) {
            client.say(0, "MKD " + letter);
        }
        client.hear(0);
        Due.is("node 14", client.node(14, 3), Client.name("n"));
        Due.is("node 15 is free", client.node(15, 1), -1);
        client.keep(0, "z", 7);
        Due.is("node 15", client.contents(15), "7");
        Due.is("there is no node 16", client.node(16, 1), -1);
        Due.is("the root has", client.node(0, 2), 15);
        client.due(0, "MKD y", "552;");
        client.due(0, "PASV", "227;");
        client.due(0, "STOR y", "552;");
        client.due(0, "APPE y", "552;");
        Due.is("the root has still", client.node(0, 2), 15);
        client.due(0, "STOR z", "150;");
        Due.is("a file that is there needs no free node", client.contents(15), "");
    }

    private static void lowestFreeNumber() {
        Due.sentence("a new one gets the lowest number that is free");
        Client client = Client.adm();
        Due.is("lines", client.talk(0, "MKD a", "MKD b", "MKD c", "MKD d"), "257 /a;257 /b;257 /c;257 /d;");
        Due.is("lines", client.talk(0, "RMD c", "RMD a"), "250;250;");
        client.keep(0, "e", 1);
        Due.is("the lower of two", client.node(1, 3), Client.name("e"));
        client.due(0, "MKD f", "257 /f;");
        Due.is("the other", client.node(3, 3), Client.name("f"));
        client.due(0, "MKD g", "257 /g;");
        Due.is("behind all", client.node(5, 3), Client.name("g"));
        client.due(0, "DELE e", "250;");
        client.due(0, "MKD h", "257 /h;");
        Due.is("a file's number", client.node(1, 3), Client.name("h"));
        Due.is("is a directory's now", client.node(1, 1), 0);
    }

    private static void numberStays() {
        Due.sentence("250: it has the new name and place.");
        Client client = Client.adm();
        Due.is("lines", client.talk(0, "MKD a", "MKD b", "MKD c", "RMD a"), "257 /a;257 /b;257 /c;250;");
        Due.is("lines", client.talk(0, "RNFR c", "RNTO b/d"), "350;250;");
        Due.is("its number stays, though a lower one is free", client.node(3, 3), Client.name("d"));
        Due.is("its place", client.node(3, 0), 2);
        Due.is("node 1", client.node(1, 1), -1);
        Due.is("the root has", client.node(0, 2), 1);
        Due.is("b has", client.node(2, 2), 1);
    }

    private static void nameLengths() {
        Due.sentence("with a NAME of 1 to 3 characters a .. z, 0 .. 9");
        Client client = Client.adm();
        client.due(0, "MKD ", "501;");
        client.due(0, "MKD a", "257 /a;");
        client.due(0, "MKD ab", "257 /ab;");
        client.due(0, "MKD abc", "257 /abc;");
        client.due(0, "MKD abcd", "501;");
        client.due(0, "MKD a/abcd", "501;");
        client.due(0, "MKD abcd/a", "501;");
        client.due(0, "MKD /abcd", "501;");
        Due.is("the root has", client.node(0, 2), 3);
    }

    private static boolean isNameByte(int b) {
        return b >= 'a' && b <= 'z' || b >= '0' && b <= '9';
    }

    /** Feeds a byte of a line as itself, also those that mean something in a session. */
    private static void feedPlain(Client client, int b) {
        if (b == 255) {
            client.bytes(0, 255, 255);
        } else if (b == 13) {
            client.bytes(0, 13, 0);
        } else {
            client.bytes(0, b);
        }
    }

    private static void dueOfByte(Client client, String before, int b, String want) {
        client.text(0, "CWD " + before);
        feedPlain(client, b);
        client.bytes(0, 13, 10);
        Due.is("CWD " + before + " and byte " + b, client.hear(0), want);
    }

    private static void firstCharacter() {
        Due.sentence("with a NAME of 1 to 3 characters a .. z, 0 .. 9");
        Client client = Client.adm();
        for (int b = 0; b < 256; b++) {
            if (b % 25 == 0) {
                client = Client.adm();
            }
            dueOfByte(client, "", b, b == '/' ? "250;" : isNameByte(b) ? "550;" : "501;");
        }
    }

    private static void furtherCharacters() {
        Due.sentence("with a NAME of 1 to 3 characters a .. z, 0 .. 9");
        Client client = Client.adm();
        for (int b = 0; b < 256; b++) {
            if (b % 12 == 0) {
                client = Client.adm();
            }
            dueOfByte(client, "x", b, isNameByte(b) ? "550;" : "501;");
            dueOfByte(client, "xy", b, isNameByte(b) ? "550;" : "501;");
        }
    }

    private static void noTwoOfOneName() {
        Due.sentence("in a directory, in which no two have the same name.");
        Client client = Client.adm();
        client.due(0, "MKD a", "257 /a;");
        client.keep(0, "f", 1, 2);
        Due.is("lines", client.talk(0, "MKD a", "MKD f", "PASV", "STOR a", "APPE a"), "550;550;227;550;550;");
        Due.is("lines", client.talk(0, "RNFR f", "RNTO a", "RNFR a", "RNTO f"), "350;550;350;550;");
        Due.is("its own name", client.talk(0, "RNFR f", "RNTO f", "RNFR a", "RNTO a"), "350;550;350;550;");
        Due.is("the root has", client.node(0, 2), 2);
        client.due(0, "STOR f", "150;");
        Due.is("STOR of a file that is there makes none", client.node(0, 2), 2);
    }

    private static void sameNameElsewhere() {
        Due.sentence("in a directory, in which no two have the same name.");
        Client client = Client.adm();
        client.keep(0, "f", 1);
        Due.is("lines", client.talk(0, "MKD a", "MKD a/a", "MKD a/f", "RNFR f", "RNTO a/f"),
            "257 /a;257 /a/a;257 /a/f;350;550;");
        Due.is("lines", client.talk(0, "RNFR f", "RNTO a/a/f"), "350;250;");
        Due.is("f is in", client.node(1, 0), 3);
        Due.is("f of the root is free again", client.ask(0, "MKD f"), "257 /f;");
        Due.is("only the first letters", client.talk(0, "MKD a1", "MKD 1a", "MKD a1a"), "257 /a1;257 /1a;257 /a1a;");
    }

    private static int[] row(int count, int b) {
        int[] bytes = new int[count];
        java.util.Arrays.fill(bytes, b);
        return bytes;
    }

    private static void twentyFourBytes() {
        Due.sentence("A file has at most 24 BYTES (0 .. 255); further ones are dropped.");
        Client client = Client.adm();
        client.begin(0, "STOR f", row(23, 0));
        client.bringAll(0, 255);
        Due.is("24", client.node(1, 2), 24);
        Due.is("the first byte", client.content(1, 0), 0);
        Due.is("the byte 24", client.content(1, 23), 255);
        client.bringAll(0, 1);
        Due.is("25", client.node(1, 2), 24);
        Due.is("the byte 24 stays", client.content(1, 23), 255);
        Due.is("the byte 25", client.content(1, 24), -1);
        Due.is("the transfer runs on", client.running(0), 2);
        Due.is("close", client.close(0), Client.FINE);
        client.due(0, "SIZE f", "226;213 24;");
    }

    private static void fullFile() {
        Due.sentence("A file has at most 24 BYTES (0 .. 255); further ones are dropped.");
        Client client = Client.adm();
        client.keep(0, "f", row(24, 5));
        client.begin(0, "APPE f", 6);
        Due.is("nothing comes to a full file", client.node(1, 2), 24);
        Due.is("close", client.close(0), Client.FINE);
        client.due(0, "PASV", "226;227;");
        Due.is("lines", client.talk(0, "REST 23", "STOR f"), "350;150;");
        client.bringAll(0, 6, 7);
        Due.is("one byte comes to 23", client.node(1, 2), 24);
        Due.is("it", client.content(1, 23), 6);
    }

    private static void fullFileInTypeA() {
        Due.sentence("A file has at most 24 BYTES (0 .. 255); further ones are dropped.");
        Client client = Client.adm();
        client.due(0, "TYPE A", "200;");
        client.begin(0, "STOR f", row(23, 5));
        client.bringAll(0, 13);
        Due.is("a 13 that waits", client.node(1, 2), 23);
        client.bringAll(0, 65);
        Due.is("13 is the byte 24", client.content(1, 23), 13);
        Due.is("65 is dropped", client.node(1, 2), 24);
        client.bringAll(0, 13);
        Due.is("close", client.close(0), Client.FINE);
        Due.is("a 13 at the end is dropped", client.node(1, 2), 24);
        client.due(0, "PASV", "226;227;");
        Due.is("lines", client.talk(0, "REST 23", "STOR f"), "350;150;");
        client.bringAll(0, 13, 10);
        Due.is("13 10 is one byte", client.content(1, 23), 10);
        client.due(0, "ABOR", "426;226;");
        Due.is("lines", client.talk(0, "PASV", "REST 23", "STOR f"), "227;350;150;");
        client.bringAll(0, 13);
        client.due(0, "ABOR", "426;226;");
        Due.is("a 13 at the end has room", client.content(1, 23), 13);
    }

    private static void nothingButTheRoot() {
        Due.sentence("At first there is nothing but the root.");
        Client client = new Client();
        StringBuilder want = new StringBuilder("0 directory -1 0: 0\n");
        want.append("shelf \n".repeat(3)).append("session -1 0 0\n".repeat(2));
        Due.is("a new object", client.look(), want.toString());
    }
}
