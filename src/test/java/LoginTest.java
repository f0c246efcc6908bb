/** Promise 2: USER, PASS, QUIT, NOOP, TYPE, and the order in which a command is refused. */
public final class LoginTest {
    public static void main(String[] args) {
        users();
        passOnlyBehindUser();
        passOnlyOnce();
        nobodyLoggedIn();
        refusalsInOrder();
        userLogsOut();
        quit();
        typeLetters();
        Due.end();
    }

    private static void users() {
        Client client = new Client();
        String[][] wrong = {{"adm", "KEY"}, {"adm", ""}, {"adm", "key "}, {"ADM", "key"}, {"bob", "key"},
            {"", "key"}, {"any ", "x"}, {"admx", "key"}, {"adm", "ke"}};
        for (String[] pair : wrong) {
            client.due(0, "USER " + pair[0], "331;");
            client.due(0, "PASS " + pair[1], "530;");
            Due.is("current", client.current(0), -1);
        }
        Client other = new Client();
        other.due(0, "USER adm", "331;");
        other.due(0, "PASS key", "230;");
        Due.is("current of adm", other.current(0), 0);
        other.due(0, "MKD a", "257 /a;");
        other.due(1, "USER any", "331;");
        other.due(1, "PASS ", "230;");
        Due.is("current of any", other.current(1), 0);
        other.due(1, "MKD b", "550;");
    }

    private static void passOnlyBehindUser() {
        Client client = new Client();
        String[] between = {"", "FOO", "NOOP", "NOOP x", "PASS", "USER", "QUIT", "x".repeat(40), "PWD"};
        for (String line : between) {
            client.say(0, "USER adm");
            client.say(0, line);
            client.hear(0);
            client.due(0, "PASS key", "503;");
        }
    }

    private static void passOnlyOnce() {
        Client client = new Client();
        client.due(0, "USER adm", "331;");
        client.due(0, "PASS wrong", "530;");
        client.due(0, "PASS key", "503;");
        client.logIn(0, "adm");
        client.due(0, "PASS key", "503;");
        client.due(1, "PASS key", "503;");
        client.due(0, "USER bob", "331;");
        client.due(0, "USER adm", "331;");
        client.due(1, "NOOP", "200;");
        client.due(0, "PASS key", "230;");
    }

    private static void nobodyLoggedIn() {
        Client client = new Client();
        String[] lines = {"TYPE A", "PWD", "CWD /", "CDUP", "SIZE a", "PASV", "REST 1", "RETR a", "STOR a", "APPE a",
            "NLST", "ABOR", "DELE a", "MKD a", "RMD a", "RNFR a", "RNTO a"};
        for (String line : lines) {
            client.due(0, line, "530;");
        }
        client.due(0, "NOOP", "200;");
        client.due(0, "QUIT", "221;");
        Due.is("nothing was made", client.node(0, 2), 0);
    }

    private static void refusalsInOrder() {
        Client client = new Client();
        client.due(0, "MKD A", "501;");
        client.logIn(0, "adm");
        client.keep(0, "f", 1, 2, 3);
        client.logIn(0, "any");
        client.due(0, "RNTO q", "550;");
        client.due(0, "STOR f", "550;");
        client.due(0, "RETR q", "550;");
        client.due(0, "RETR f", "425;");
        client.due(0, "PASV", "227;");
        client.due(0, "RETR f", "150;");
        client.due(0, "MKD A", "501;");
        String[] busy = {"USER adm", "PASS key", "TYPE A", "PWD", "CWD /", "CDUP", "SIZE f", "PASV", "REST 1", "RETR f",
            "STOR f", "APPE f", "NLST", "DELE f", "MKD a", "RMD a", "RNFR f", "RNTO a"};
        for (String line : busy) {
            client.due(0, line, "503;");
        }
        client.due(0, "NOOP", "200;");
        Due.is("it runs on", client.running(0), 1);
        Due.is("current", client.current(0), 0);
    }

    private static void userLogsOut() {
        Client client = Client.adm();
        client.due(0, "PASV", "227;");
        client.due(0, "TYPE A", "200;");
        client.due(0, "MKD a", "257 /a;");
        client.due(0, "CWD a", "250;");
        client.due(0, "USER adm", "331;");
        Due.is("current behind USER", client.current(0), -1);
        client.due(0, "PWD", "530;");
        client.logIn(0, "adm");
        Due.is("current behind PASS", client.current(0), 0);
        client.due(0, "STOR b", "150;");
        client.bringAll(0, 13, 10);
        Due.is("the TYPE is I again", client.node(2, 2), 2);
    }

    private static void quit() {
        Client client = Client.adm();
        client.begin(0, "STOR f", 1, 2, 3, 4, 5);
        client.say(0, "NOOP");
        client.say(0, "QUIT");
        Due.is("the replies stay", client.hear(0), "200;221;");
        Due.is("running", client.running(0), 0);
        Due.is("current", client.current(0), -1);
        Due.is("close", client.close(0), Client.STATE);
        Due.is("the bytes stay", client.node(1, 2), 5);
        client.logIn(1, "adm");
        client.due(1, "DELE f", "250;");
        client.due(0, "USER adm", "331;");
        client.due(0, "QUIT", "221;");
        client.due(0, "PASS key", "503;");
        client.logIn(0, "adm");
        client.due(0, "PASV", "227;");
        client.due(0, "QUIT", "221;");
        Due.is("the data way behind QUIT", client.close(0), Client.STATE);
    }

    private static void typeLetters() {
        Client client = Client.adm();
        client.due(0, "TYPE A", "200;");
        client.due(0, "TYPE I", "200;");
        String[] wrong = {"a", "i", "AI", "B", " A", "A "};
        for (String letter : wrong) {
            client.due(0, "TYPE " + letter, "501;");
        }
        client.due(0, "type A", "200;");
        client.begin(0, "STOR f", 13, 10);
        Due.is("TYPE A", client.contents(1), "10");
    }
}
