/** The edges of a path: what is one, where it leads, and what can be made at it. */
public final class PathEdgesTest {
    private static final String[] PATH_COMMANDS = {"CWD", "SIZE", "RETR", "STOR", "APPE", "DELE", "MKD", "RMD", "RNFR",
        "RNTO"};

    public static void main(String[] args) {
        rootAlone();
        noPathForAnyCommand();
        stepsAndSlashes();
        upStaysAtTheRoot();
        dotsThatAreNoStep();
        fromRootOrCurrent();
        eachStepIsThere();
        eachButTheLastIsADirectory();
        newAtPath();
        nothingNewAtPath();
        newForStoreAndRename();
        longestPath();
        deepestPath();
        Due.end();
    }

    /** Directory a (node 1) with b in it (2), and file f (3). */
    private static Client tree() {
        Client client = Client.adm();
        Due.is("lines", client.talk(0, "MKD a", "MKD a/b"), "257 /a;257 /a/b;");
        client.keep(0, "f", 1);
        return client;
    }

    private static void rootAlone() {
        Due.sentence("A PATH: / alone;");
        Client client = tree();
        Due.is("lines", client.talk(0, "CWD a/b", "CWD /", "PWD"), "250;250;257 /;");
        Due.is("lines", client.talk(0, "CWD //", "CWD ///"), "501;501;");
        Due.is("current", client.current(0), 0);
        Due.is("it is a directory, and there", client.talk(0, "SIZE /", "RETR /", "STOR /", "APPE /", "DELE /", "MKD /"),
            "550;".repeat(6));
        Due.is("it is the root", client.talk(0, "RMD /", "RNFR /"), "550;550;");
        Due.is("it is there", client.talk(0, "RNFR f", "RNTO /"), "350;550;");
    }

    private static void noPathForAnyCommand() {
        Due.sentence("or one that isn't as said.");
        for (String command : PATH_COMMANDS) {
            Client client = Client.adm();
            Due.is(command, client.talk(0, command, command + " ", command + " a/", command + " A"), "501;".repeat(4));
        }
    }

    private static void stepsAndSlashes() {
        Due.sentence("or one or more STEPS with / between them, perhaps / before the first.");
        Client client = tree();
        Due.is("paths", client.talk(0, "CWD a", "CWD /a", "CWD /a/b", "CWD ../b"), "250;".repeat(4));
        Due.is("current", client.current(0), 2);
        String[] none = {"", "a/", "/a/", "//a", "a//b", "/a//b", "a/b/", "/", " a", "a ", "a b"};
        for (String path : none) {
            client.due(0, "CWD " + path, path.equals("/") ? "250;" : "501;");
        }
    }

    private static void upStaysAtTheRoot() {
        Due.sentence("A step is a name or .. (up; the root stays).");
        Client client = tree();
        String[] toRoot = {"..", "../..", "/..", "/../..", "a/..", "a/../..", "a/b/../..", "../a/.."};
        for (String path : toRoot) {
            client.due(0, "CWD " + path, "250;");
            Due.is("current behind " + path, client.current(0), 0);
        }
        Due.is("lines", client.talk(0, "CWD ../../a", "CWD b", "CWD .."), "250;250;250;");
        Due.is("one step up", client.current(0), 1);
        Due.is("lines", client.talk(0, "CDUP", "CDUP", "PWD"), "250;250;257 /;");
    }

    private static void dotsThatAreNoStep() {
        Due.sentence("A step is a name or .. (up; the root stays).");
        Client client = tree();
        String[] none = {".", "...", "a..", "..a", ".a", "a.", "./a", "a/.", "/.", "/...", ".../a", "../", "/../"};
        for (String path : none) {
            client.due(0, "CWD " + path, "501;");
        }
    }

    private static void fromRootOrCurrent() {
        Due.sentence("It is followed from the root if it begins with / , else from the session's CURRENT directory.");
        Client client = tree();
        client.logIn(1, "any");
        Due.is("lines", client.talk(0, "CWD a", "CWD a"), "250;550;");
        Due.is("lines", client.talk(0, "CWD b", "SIZE f", "SIZE /f", "CWD b", "CWD /a/b"), "250;550;213 1;550;250;");
        Due.is("the other session's is the root", client.talk(1, "SIZE f", "CWD b", "CWD a"), "213 1;550;250;");
        Due.is("session 0", client.current(0), 2);
        Due.is("session 1", client.current(1), 1);
    }

    private static void eachStepIsThere() {
        Due.sentence("A path LEADS to a node if each step is there, and each but the last leads to a directory.");
        Client client = tree();
        String[] none = {"q", "a/q", "a/b/q", "q/..", "a/q/..", "q/../a", "/q/../a", "b", "a/a"};
        for (String path : none) {
            client.due(0, "CWD " + path, "550;");
        }
        Due.is("current", client.current(0), 0);
    }

    private static void eachButTheLastIsADirectory() {
        Due.sentence("A path LEADS to a node if each step is there, and each but the last leads to a directory.");
        Client client = tree();
        client.due(0, "SIZE f", "213 1;");
        client.due(0, "SIZE a/../f", "213 1;");
        client.due(0, "SIZE f/../f", "550;");
        client.due(0, "CWD f/..", "550;");
        client.due(0, "CWD f/../a", "550;");
        client.due(0, "SIZE f/f", "550;");
        client.due(0, "CWD f", "550;");
        client.due(0, "RNFR f/..", "550;");
        client.due(0, "RNFR f", "350;");
    }

    private static void newAtPath() {
        Due.sentence("Something NEW can be made at a path if all steps but the last lead to a directory,");
        Client client = tree();
        Due.is("lines", client.talk(0, "MKD c", "MKD /d", "MKD a/c", "MKD ../e", "MKD a/../g", "MKD a/b/.././h"),
            "257 /c;257 /d;257 /a/c;257 /e;257 /g;501;");
        Due.is("lines", client.talk(0, "CWD a/b", "MKD c", "MKD ../x", "MKD ../../y", "MKD ../../../../z"),
            "250;257 /a/b/c;257 /a/x;257 /y;257 /z;");
    }

    private static void nothingNewAtPath() {
        Due.sentence("and the last is a name that isn't there.");
        Client client = tree();
        String[] none = {"a", "a/b", "f", "/f", "..", "a/..", "q/..", "/..", "q/c", "f/c", "f/../c", "a/q/c", "/q/c"};
        for (String path : none) {
            client.due(0, "MKD " + path, "550;");
        }
        Due.is("the root has", client.node(0, 2), 2);
        Due.is("node 4", client.node(4, 1), -1);
    }

    private static void newForStoreAndRename() {
        Due.sentence("and the last is a name that isn't there.");
        Client client = tree();
        client.due(0, "PASV", "227;");
        String[] none = {"..", "a/..", "q/c", "f/c", "a/b"};
        for (String path : none) {
            client.due(0, "STOR " + path, "550;");
            client.due(0, "RNFR f", "350;");
            client.due(0, "RNTO " + path, "550;");
        }
        client.due(0, "RNFR f", "350;");
        client.due(0, "RNTO a/../a/b/../g", "250;");
        Due.is("f is in", client.node(3, 0), 1);
        client.due(0, "STOR a/b/g", "150;");
        Due.is("the new file is in", client.node(4, 0), 2);
    }

    private static void longestPath() {
        Due.sentence("A line has at most 30 bytes; further ones are dropped,");
        Client client = tree();
        String longest = "/..".repeat(8) + "/a";
        client.due(0, "CWD " + longest, "250;");
        Due.is("26 bytes", client.current(0), 1);
        client.due(0, "CWD " + longest + "/", "500;");
        client.due(0, "CWD " + longest + "b", "500;");
        client.due(0, "CWD " + "../".repeat(8) + "f", "550;");
        client.due(0, "SIZE " + "../".repeat(8) + "f", "213 1;");
        client.due(0, "CWD " + "/..".repeat(8) + "/", "501;");
    }

    /** Thirteen steps are the most that a line has room for. */
    private static void deepestPath() {
        Due.sentence("A path LEADS to a node if each step is there, and each but the last leads to a directory.");
        Client client = new Client();
        client.say(0, "USER adm");
        client.say(0, "PASS key");
        StringBuilder path = new StringBuilder();
        for (int depth = 1; depth <= 13; depth++) {
            path.append("/a");
            client.say(0, "MKD " + path);
            Due.is("depth " + depth, client.node(depth, 0), depth - 1);
        }
        client.say(0, "CWD " + path);
        Due.is("current", client.current(0), 13);
    }
}
