/** Promise 2: paths, PWD, CWD, CDUP, MKD, RMD, DELE, RNFR and RNTO. */
public final class DirectoriesTest {
    public static void main(String[] args) {
        pathsThatAreNone();
        pathsThatLead();
        makeDirectories();
        noNodeIsFree();
        longPath();
        removeDirectories();
        removeFiles();
        rename();
        renameRefused();
        renameOnlyBehindRnfr();
        renameByNumber();
        busyFiles();
        Due.end();
    }

    private static void pathsThatAreNone() {
        Client client = Client.adm();
        String[] none = {"//", "a/", "/a/", "a//b", "abcd", "a/abcd", "A", "a.b", ".", "...", "a/.", "a b", "a-", "..x", "`", "{", ":"};
        for (String path : none) {
            client.due(0, "CWD " + path, "501;");
        }
        client.due(0, "MKD a/", "501;");
        client.due(0, "SIZE //a", "501;");
        client.due(0, "CWD /" + "/..".repeat(2), "501;");
    }

    private static void pathsThatLead() {
        Client client = Client.adm();
        client.due(0, "MKD a", "257 /a;");
        client.due(0, "MKD a/z09", "257 /a/z09;");
        client.keep(0, "a/f", 7);
        client.due(0, "CWD a/z09", "250;");
        Due.is("current", client.current(0), 2);
        client.due(0, "PWD", "257 /a/z09;");
        client.due(0, "CWD z09", "550;");
        client.due(0, "CWD ../f", "550;");
        client.due(0, "CWD ../f/..", "550;");
        client.due(0, "SIZE ../f/..", "550;");
        client.due(0, "SIZE ../f", "213 1;");
        client.due(0, "SIZE /a/f", "213 1;");
        client.due(0, "SIZE /f", "550;");
        client.due(0, "SIZE ..", "550;");
        client.due(0, "CWD q/..", "550;");
        client.due(0, "CWD ..", "250;");
        Due.is("current", client.current(0), 1);
        client.due(0, "CWD z09/../../../../a/z09", "250;");
        Due.is("current", client.current(0), 2);
        client.due(0, "CWD /..", "250;");
        client.due(0, "PWD", "257 /;");
        client.due(0, "CWD /a", "250;");
        client.due(0, "CDUP", "250;");
        Due.is("current", client.current(0), 0);
        client.due(0, "CDUP", "250;");
        Due.is("the root stays", client.current(0), 0);
        client.due(0, "CWD /a", "250;");
        client.due(0, "CWD /", "250;");
        Due.is("current", client.current(0), 0);
    }

    private static void makeDirectories() {
        Client client = Client.adm();
        client.due(0, "MKD a", "257 /a;");
        client.due(0, "MKD a", "550;");
        client.due(0, "MKD /", "550;");
        client.due(0, "MKD ..", "550;");
        client.due(0, "MKD a/..", "550;");
        client.due(0, "MKD q/r", "550;");
        client.keep(0, "f");
        client.due(0, "MKD f", "550;");
        client.due(0, "MKD f/g", "550;");
        client.due(0, "CWD a", "250;");
        client.due(0, "MKD a", "257 /a/a;");
        client.due(0, "MKD ../b/../c", "550;");
        client.due(0, "MKD ../../b", "257 /b;");
        Due.is("b is in", client.node(4, 0), 0);
        client.due(0, "DELE /f", "250;");
        client.due(0, "MKD /c", "257 /c;");
        Due.is("the lowest free number", client.node(2, 3), Client.name("c"));
        Due.is("it is no file any more", client.node(2, 1), 0);
        Due.is("node 5", client.node(5, 3), -1);
    }

    private static void noNodeIsFree() {
        Client client = Client.adm();
        for (int i = 0; i < 15; i++) {
            char letter = (char) ('a' + i);
            client.due(0, "MKD " + letter, "257 /" + letter + ";");
        }
        client.due(0, "MKD z", "552;");
        client.due(0, "MKD a", "550;");
        client.due(0, "STOR z", "425;");
        client.due(0, "PASV", "227;");
        client.due(0, "REST 1", "350;");
        client.due(0, "STOR z", "554;");
        client.due(0, "STOR z", "552;");
        client.due(0, "APPE z", "552;");
        Due.is("running", client.running(0), 0);
        client.due(0, "RMD g", "250;");
        client.due(0, "STOR z", "150;");
        Due.is("the lowest free number", client.node(7, 3), Client.name("z"));
        Due.is("the data way is open", client.close(0), Client.FINE);
    }

    /** The longest path there can be: fifteen names of three characters. */
    private static void longPath() {
        Client client = new Client();
        client.say(0, "USER adm");
        client.say(0, "PASS key");
        for (int i = 0; i < 15; i++) {
            client.say(0, "MKD abc");
            client.say(0, "CWD abc");
        }
        Due.is("current", client.current(0), 15);
        client.cut(0);
        client.say(0, "USER any");
        client.say(0, "PASS x");
        client.say(0, "CWD " + "abc/".repeat(5) + "abc");
        client.say(0, "CWD " + "abc/".repeat(5) + "abc");
        client.say(0, "CWD abc/abc/abc");
        client.say(0, "PWD");
        Due.is("the path", client.hear(0), "331;230;250;250;250;257 " + "/abc".repeat(15) + ";");
    }

    private static void removeDirectories() {
        Client client = Client.adm();
        client.due(0, "MKD a", "257 /a;");
        client.due(0, "MKD a/b", "257 /a/b;");
        client.keep(0, "f");
        client.due(0, "RMD /", "550;");
        client.due(0, "RMD ..", "550;");
        client.due(0, "RMD q", "550;");
        client.due(0, "RMD f", "550;");
        client.due(0, "RMD a", "550;");
        client.due(0, "CWD a/b", "250;");
        client.due(0, "RMD /a/b", "550;");
        client.logIn(1, "adm");
        client.due(1, "RMD a/b", "550;");
        client.due(0, "USER any", "331;");
        client.due(1, "RMD a/b", "250;");
        client.due(1, "RMD a", "250;");
        Due.is("node 1", client.node(1, 0), -1);
        Due.is("the root has", client.node(0, 2), 1);
    }

    private static void removeFiles() {
        Client client = Client.adm();
        client.due(0, "MKD a", "257 /a;");
        client.keep(0, "a/f", 1);
        client.due(0, "DELE a", "550;");
        client.due(0, "DELE f", "550;");
        client.due(0, "DELE /", "550;");
        client.due(0, "DELE a/f", "250;");
        Due.is("node 2", client.node(2, 1), -1);
        Due.is("a has", client.node(1, 2), 0);
        client.due(0, "DELE a/f", "550;");
        client.keep(0, "g", 5, 6);
        Due.is("nothing is left of the old file", client.contents(2), "5 6");
    }

    private static void rename() {
        Client client = Client.adm();
        client.due(0, "MKD a", "257 /a;");
        client.due(0, "MKD a/b", "257 /a/b;");
        client.keep(0, "f", 1, 2);
        client.due(0, "RNFR f", "350;");
        client.due(0, "RNTO a/b/g", "250;");
        Due.is("its place", client.node(3, 0), 2);
        Due.is("its name", client.node(3, 3), Client.name("g"));
        client.due(0, "SIZE a/b/g", "213 2;");
        client.due(0, "SIZE f", "550;");
        client.due(0, "CWD a/b", "250;");
        client.due(0, "RNFR /a", "350;");
        client.due(0, "RNTO /c", "250;");
        client.due(0, "PWD", "257 /c/b;");
        client.due(0, "RNFR /c/b", "350;");
        client.due(0, "RNTO ../../b", "250;");
        client.due(0, "PWD", "257 /b;");
    }

    private static void renameRefused() {
        Client client = Client.adm();
        client.due(0, "MKD a", "257 /a;");
        client.due(0, "MKD a/b", "257 /a/b;");
        client.due(0, "MKD a/b/c", "257 /a/b/c;");
        client.due(0, "RNFR q", "550;");
        client.due(0, "RNTO r", "503;");
        client.due(0, "RNFR /", "550;");
        client.due(0, "RNFR a/..", "550;");
        client.due(0, "RNTO r", "503;");
        String[] wrong = {"a/d", "a/b/c/d", "a/b", "a", "q/r", "/", "..", "a/.."};
        for (String path : wrong) {
            client.due(0, "RNFR a", "350;");
            client.due(0, "RNTO " + path, "550;");
        }
        client.due(0, "RNTO z", "503;");
        Due.is("its name", client.node(1, 3), Client.name("a"));
    }

    private static void renameOnlyBehindRnfr() {
        Client client = Client.adm();
        client.due(0, "MKD a", "257 /a;");
        client.due(0, "RNTO z", "503;");
        String[] between = {"NOOP", "", "REST 1", "RNTO", "PWD", "RNFR q"};
        for (String line : between) {
            client.due(0, "RNFR a", "350;");
            client.ask(0, line);
            client.due(0, "RNTO z", "503;");
        }
        Due.is("its name", client.node(1, 3), Client.name("a"));
    }

    private static void renameByNumber() {
        Client client = Client.adm();
        client.logIn(1, "adm");
        client.keep(0, "f", 1);
        client.due(0, "RNFR f", "350;");
        client.due(1, "DELE f", "250;");
        client.due(0, "RNTO g", "550;");
        client.keep(0, "f", 1);
        client.due(0, "RNFR f", "350;");
        client.due(1, "DELE f", "250;");
        client.due(1, "MKD d", "257 /d;");
        client.due(0, "RNTO g", "250;");
        Due.is("the node of that number", client.node(1, 3), Client.name("g"));
        Due.is("is a file", client.node(1, 1), 0);
        client.due(1, "RNFR g", "350;");
        client.due(0, "RNTO h", "503;");
        client.due(1, "RNTO h", "250;");
    }

    private static void busyFiles() {
        Client client = Client.adm();
        client.logIn(1, "adm");
        client.keep(0, "f", 1, 2);
        client.begin(1, "RETR f");
        client.due(0, "DELE f", "450;");
        client.due(0, "RNFR f", "350;");
        client.due(0, "RNTO g", "450;");
        client.due(0, "RNFR f", "350;");
        client.due(0, "RNTO f", "550;");
        Due.is("take", client.takeAll(1), "1 2");
        client.hear(1);
        client.begin(1, "APPE f");
        client.due(0, "DELE f", "450;");
        client.due(0, "RNFR f", "350;");
        client.due(0, "RNTO g", "450;");
        client.due(1, "ABOR", "426;226;");
        client.due(0, "RNFR f", "350;");
        client.due(0, "RNTO g", "250;");
        client.due(0, "DELE g", "250;");
    }
}
