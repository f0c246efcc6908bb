/** The edges of the commands that make, remove and rename: DELE, MKD, RMD, RNFR and RNTO. */
public final class NodeCommandEdgesTest {
    public static void main(String[] args) {
        deleteNoFile();
        deleteBusyFile();
        deleteIsGone();
        makeInOrder();
        makeTellsThePath();
        removeNoDirectory();
        removeNotEmpty();
        removeCurrent();
        removeFormerCurrent();
        renameNothing();
        renameOnlyBehindRename();
        renameOfOtherSessions();
        renameInOrder();
        renameOfAGoneNode();
        renameIntoItself();
        renameNextToItself();
        renameOfBusyFiles();
        renameNeedsNoNode();
        renameMovesAll();
        Due.end();
    }

    /** Directory a (node 1) with b in it (2), and file f (3). */
    private static Client tree() {
        Client client = Client.adm();
        Due.is("lines", client.talk(0, "MKD a", "MKD a/b"), "257 /a;257 /a/b;");
        client.keep(0, "f", 1);
        return client;
    }

    private static void deleteNoFile() {
        Due.sentence("DELE path: 550 it leads to no file; 450 it is being written or read; 250: it is gone.");
        Client client = tree();
        Due.is("lines", client.talk(0, "DELE a", "DELE a/b", "DELE /", "DELE ..", "DELE q", "DELE f/f", "DELE a/f"),
            "550;".repeat(7));
        Due.is("the root has", client.node(0, 2), 2);
    }

    private static void deleteBusyFile() {
        Due.sentence("DELE path: 550 it leads to no file; 450 it is being written or read; 250: it is gone.");
        Client client = tree();
        client.logIn(1, "adm");
        client.begin(1, "RETR f");
        client.due(0, "DELE f", "450;");
        Due.is("the last byte", client.take(1), "1");
        Due.is("its end", client.hear(1), "226;");
        client.begin(1, "APPE f");
        client.due(0, "DELE f", "450;");
        Due.is("it is there", client.node(3, 2), 1);
        Due.is("close", client.close(1), Client.FINE);
        client.due(0, "DELE f", "250;");
    }

    private static void deleteIsGone() {
        Due.sentence("DELE path: 550 it leads to no file; 450 it is being written or read; 250: it is gone.");
        Client client = tree();
        client.due(0, "DELE f", "250;");
        for (int what = 0; what < 4; what++) {
            Due.is("node(3, " + what + ")", client.node(3, what), -1);
        }
        Due.is("content", client.content(3, 0), -1);
        Due.is("lines", client.talk(0, "DELE f", "SIZE f", "RNFR f"), "550;550;550;");
        client.crash();
        Due.is("behind a crash", client.node(3, 1), -1);
        client.logIn(0, "adm");
        client.begin(0, "APPE f");
        Due.is("a new one has nothing of it", client.node(3, 2), 0);
    }

    private static void makeInOrder() {
        Due.sentence("MKD path: 550 nothing new can be made there; 552 no node is free; 257 and the new directory's path.");
        Client client = Client.adm();
        for (char letter = 'a'; letter <= 'n'; letter++) {
            client.say(0, "MKD " + letter);
        }
        client.hear(0);
        client.due(0, "MKD o", "257 /o;");
        Due.is("552", client.talk(0, "MKD p", "MKD a/p", "MKD /o/p"), "552;552;552;");
        Due.is("550 before 552", client.talk(0, "MKD a", "MKD q/r", "MKD ..", "MKD /"), "550;".repeat(4));
        Due.is("lines", client.talk(0, "RMD h", "MKD o/p", "MKD q"), "250;257 /o/p;552;");
        Due.is("node 8 is in", client.node(8, 0), 15);
    }

    private static void makeTellsThePath() {
        Due.sentence("257 and the new directory's path.");
        Client client = tree();
        Due.is("lines", client.talk(0, "CWD a", "MKD c", "MKD ../d", "MKD b/e", "MKD /f1", "MKD b/../../a/g"),
            "250;257 /a/c;257 /d;257 /a/b/e;257 /f1;257 /a/g;");
        Due.is("CURRENT stays", client.current(0), 1);
        Due.is("a new one is empty", client.node(4, 2), 0);
        Due.is("and a directory", client.node(4, 1), 0);
    }

    private static void removeNoDirectory() {
        Due.sentence("RMD path: 550 it leads to no directory, to the root,");
        Client client = tree();
        Due.is("lines", client.talk(0, "RMD f", "RMD q", "RMD a/q", "RMD /", "RMD ..", "RMD a/.."), "550;".repeat(6));
        client = Client.adm();
        Due.is("the root with nothing in it", client.talk(0, "RMD /", "RMD .."), "550;550;");
    }

    private static void removeNotEmpty() {
        Due.sentence("to one that has something in it or that is CURRENT of a session in which somebody is logged in;");
        Client client = tree();
        client.keep(0, "a/b/g");
        Due.is("with a directory in it", client.ask(0, "RMD a"), "550;");
        Due.is("with a file in it", client.ask(0, "RMD a/b"), "550;");
        Due.is("lines", client.talk(0, "DELE a/b/g", "RMD a/b", "RMD a"), "250;250;250;");
        Due.is("the root has", client.node(0, 2), 1);
        Due.is("lines", client.talk(0, "RMD a", "CWD a"), "550;550;");
    }

    private static void removeCurrent() {
        Due.sentence("to one that has something in it or that is CURRENT of a session in which somebody is logged in;");
        Client client = tree();
        Due.is("its own", client.talk(0, "CWD a/b", "RMD /a/b", "RMD ../b"), "250;550;550;");
        client.due(0, "CWD /", "250;");
        client.logIn(1, "any");
        client.due(1, "CWD a/b", "250;");
        client.due(0, "RMD a/b", "550;");
        client.due(1, "CDUP", "250;");
        client.due(0, "RMD a/b", "250;");
        Due.is("the one above it", client.ask(0, "RMD a"), "550;");
        client.due(1, "CDUP", "250;");
        client.due(0, "RMD a", "250;");
    }

    private static void removeFormerCurrent() {
        Due.sentence("to one that has something in it or that is CURRENT of a session in which somebody is logged in;");
        String[] ends = {"USER any", "QUIT", "cut", "PASS"};
        for (String end : ends) {
            Client client = tree();
            client.logIn(1, "any");
            client.due(1, "CWD a/b", "250;");
            client.due(0, "RMD a/b", "550;");
            if (end.equals("cut")) {
                client.cut(1);
            } else if (end.equals("PASS")) {
                client.talk(1, "USER any", "PASS x");
            } else {
                client.say(1, end);
            }
            Due.is("behind " + end, client.ask(0, "RMD a/b"), "250;");
        }
    }

    private static void renameNothing() {
        Due.sentence("RNFR path: 550 it leads to nothing or to the root; 350.");
        Client client = tree();
        Due.is("lines", client.talk(0, "RNFR q", "RNFR a/q", "RNFR f/..", "RNFR /", "RNFR ..", "RNFR a/.."), "550;".repeat(6));
        Due.is("a refused one is none", client.talk(0, "RNFR q", "RNTO z"), "550;503;");
        Due.is("lines", client.talk(0, "RNFR a", "RNFR a/b", "RNFR f"), "350;350;350;");
        Due.is("the last one counts", client.ask(0, "RNTO z"), "250;");
        Due.is("its name", client.node(3, 3), Client.name("z"));
    }

    private static void renameOnlyBehindRename() {
        Due.sentence("RNTO path: 503 if the line before wasn't an RNFR that was answered 350;");
        String[] between = {"", "FOO", "NOOP", "REST 1", "RNFR q", "RNFR", "RNTO", "RNTO A", "PWD", "x".repeat(31), "ABOR"};
        for (String line : between) {
            Client client = tree();
            client.due(0, "RNFR f", "350;");
            client.ask(0, line);
            client.due(0, "RNTO z", "503;");
            Due.is("its name", client.node(3, 3), Client.name("f"));
        }
        Client client = tree();
        client.due(0, "RNTO z", "503;");
        client.due(0, "RNFR f", "350;");
        client.bytes(0, 255, 254, 1, 13);
        Due.is("an order is no line", client.ask(0, "RNTO z"), "250;");
        Due.is("one RNTO for one RNFR", client.ask(0, "RNTO y"), "503;");
        Due.is("also for a refused one", client.talk(0, "RNFR z", "RNTO a", "RNTO y"), "350;550;503;");
        Due.is("another user", client.talk(0, "RNFR z", "USER adm", "PASS key", "RNTO y"), "350;331;230;503;");
    }

    private static void renameOfOtherSessions() {
        Due.sentence("RNTO path: 503 if the line before wasn't an RNFR that was answered 350;");
        Client client = tree();
        client.logIn(1, "adm");
        client.due(0, "RNFR f", "350;");
        client.due(1, "RNTO z", "503;");
        client.due(1, "RNFR a", "350;");
        client.due(0, "RNTO y", "250;");
        client.due(1, "RNTO z", "250;");
        Due.is("node 3", client.node(3, 3), Client.name("y"));
        Due.is("node 1", client.node(1, 3), Client.name("z"));
    }

    private static void renameInOrder() {
        Due.sentence("or nothing new can be made there, or it would be in itself; 450 it is being written or read;");
        Client client = tree();
        client.logIn(1, "adm");
        client.begin(1, "RETR f");
        Due.is("503 before 550", client.ask(0, "RNTO q/r"), "503;");
        Due.is("503 before 450", client.ask(0, "RNTO z"), "503;");
        Due.is("550 before 450", client.talk(0, "RNFR f", "RNTO a", "RNFR f", "RNTO q/r", "RNFR f", "RNTO f"),
            "350;550;350;550;350;550;");
        Due.is("450", client.talk(0, "RNFR f", "RNTO z"), "350;450;");
        Due.is("its name", client.node(3, 3), Client.name("f"));
    }

    private static void renameOfAGoneNode() {
        Due.sentence("550 no node of that number is there any more,");
        Client client = tree();
        client.logIn(1, "adm");
        client.due(0, "RNFR f", "350;");
        client.due(1, "DELE f", "250;");
        client.due(0, "RNTO z", "550;");
        client.due(0, "RNFR a/b", "350;");
        client.due(1, "RMD a/b", "250;");
        client.due(0, "RNTO z", "550;");
        client.due(0, "RNFR a", "350;");
        Due.is("another node of that number", client.talk(1, "RMD a", "MKD c"), "250;257 /c;");
        client.due(0, "RNTO z", "250;");
        Due.is("it is there", client.node(1, 3), Client.name("z"));
        client.due(0, "RNFR z", "350;");
        Due.is("another name", client.talk(1, "RNFR z", "RNTO y"), "350;250;");
        client.due(0, "RNTO x", "250;");
        Due.is("it is that node", client.node(1, 3), Client.name("x"));
    }

    private static void renameIntoItself() {
        Due.sentence("or it would be in itself;");
        Client client = tree();
        client.due(0, "MKD a/b/c", "257 /a/b/c;");
        String[] inside = {"a/x", "a/b/x", "a/b/c/x", "a/b/c/../x", "../a/x"};
        for (String path : inside) {
            client.due(0, "RNFR a", "350;");
            client.due(0, "RNTO " + path, "550;");
        }
        Due.is("its name", client.node(1, 3), Client.name("a"));
        Due.is("its place", client.node(1, 0), 0);
        Due.is("one further down", client.talk(0, "RNFR a/b", "RNTO a/b/c/x", "RNFR a/b", "RNTO a/b/x"),
            "350;550;350;550;");
        Due.is("by CURRENT", client.talk(0, "CWD a/b", "RNFR ..", "RNTO x", "RNFR /a/b", "RNTO x"), "250;350;550;350;550;");
    }

    private static void renameNextToItself() {
        Due.sentence("250: it has the new name and place.");
        Client client = tree();
        Due.is("in the same directory", client.talk(0, "RNFR a", "RNTO aa"), "350;250;");
        Due.is("upwards", client.talk(0, "RNFR aa/b", "RNTO b"), "350;250;");
        Due.is("b is in", client.node(2, 0), 0);
        Due.is("into the one that it was in", client.talk(0, "RNFR aa", "RNTO b/a"), "350;250;");
        Due.is("a is in", client.node(1, 0), 2);
        Due.is("a file into a directory", client.talk(0, "RNFR f", "RNTO b/a/g"), "350;250;");
        Due.is("f is in", client.node(3, 0), 1);
        Due.is("the old paths", client.talk(0, "CWD aa", "SIZE f", "CWD a"), "550;550;550;");
        client.due(0, "SIZE b/a/g", "213 1;");
    }

    private static void renameOfBusyFiles() {
        Due.sentence("450 it is being written or read; 250: it has the new name and place.");
        Client client = tree();
        client.logIn(1, "adm");
        client.begin(1, "APPE f", 2);
        Due.is("written", client.talk(0, "RNFR f", "RNTO z"), "350;450;");
        client.cut(1);
        client.due(0, "RNFR f", "350;");
        client.logIn(1, "adm");
        client.begin(1, "RETR f");
        Due.is("read, since the RNFR", client.ask(0, "RNTO z"), "450;");
        Due.is("the directory of such a file", client.talk(0, "RNFR a", "RNTO c"), "350;250;");
        client.due(0, "RNFR f", "350;");
        Due.is("close", client.close(1), Client.FINE);
        Due.is("free since the RNFR", client.ask(0, "RNTO z"), "250;");
    }

    private static void renameNeedsNoNode() {
        Due.sentence("250: it has the new name and place.");
        Client client = Client.adm();
        for (char letter = 'a'; letter <= 'o'; letter++) {
            client.say(0, "MKD " + letter);
        }
        client.hear(0);
        Due.is("no node is free", client.talk(0, "MKD z", "RNFR o", "RNTO a/z"), "552;350;250;");
        Due.is("node 15 is in", client.node(15, 0), 1);
    }

    private static void renameMovesAll() {
        Due.sentence("250: it has the new name and place.");
        Client client = tree();
        client.logIn(1, "any");
        client.due(1, "CWD a/b", "250;");
        Due.is("lines", client.talk(0, "MKD c", "RNFR a", "RNTO c/d", "SIZE a/b"), "257 /c;350;250;550;");
        client.due(1, "PWD", "257 /c/d/b;");
        Due.is("CURRENT", client.current(1), 2);
        client.crash();
        Due.is("behind a crash", client.node(1, 0), 4);
        Due.is("its name", client.node(1, 3), Client.name("d"));
    }
}
