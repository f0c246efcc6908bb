/** The edges of the commands: the order in which they are refused, logging in, and those without a transfer. */
public final class CommandEdgesTest {
    private static final String[] BARE = {"QUIT", "NOOP", "PWD", "CDUP", "PASV", "NLST", "ABOR"};
    private static final String[] ADM_ALONE = {"STOR", "APPE", "DELE", "MKD", "RMD", "RNFR", "RNTO"};
    private static final String[] NEED_USER = {"TYPE A", "PWD", "CWD /", "CDUP", "SIZE f", "PASV", "REST 1", "RETR f",
        "STOR f", "APPE f", "NLST", "ABOR", "DELE f", "MKD a", "RMD a", "RNFR f", "RNTO a"};
    private static final String[] NEED_QUIET = {"USER adm", "PASS key", "TYPE A", "PWD", "CWD /", "CDUP", "SIZE f", "PASV",
        "REST 1", "RETR f", "STOR f", "APPE f", "NLST", "DELE f", "MKD a", "RMD a", "RNFR f", "RNTO a"};

    public static void main(String[] args) {
        tooLongFirst();
        noCommandThatIsNamed();
        argumentThatMustNotBe();
        argumentBeforeUser();
        argumentBeforeTransfer();
        argumentBeforeAdm();
        nobodyLoggedIn();
        userBeforeAdm();
        transferRunning();
        transferBeforeAdm();
        admAlone();
        admBeforeTheRest();
        userWithAnyArgument();
        userKeepsTheDataWay();
        passBehindUser();
        passBehindOtherLines();
        passOfOtherSessions();
        whoIsLoggedIn();
        logInBeginsAnew();
        quitIsAsAtFirst();
        quitEndsTransfers();
        typeCapitals();
        typeOfTheNextTransfer();
        changeDirectory();
        sizeOfFiles();
        passiveOpens();
        restNumbers();
        restDigits();
        Due.end();
    }

    /** Session 0 is any and receives nothing; file f has three bytes, which it sends. */
    private static Client sending() {
        Client client = Client.adm();
        client.keep(0, "f", 1, 2, 3);
        client.logIn(0, "any");
        client.begin(0, "RETR f");
        return client;
    }

    private static void tooLongFirst() {
        Due.sentence("500 the line is TOO LONG, or no command that is named here.");
        String rest = "x".repeat(30);
        Client client = new Client();
        Due.is("before 501 and 530", client.talk(0, "NOOP " + rest, "TYPE " + rest, "PWD " + rest, "MKD " + rest),
            "500;".repeat(4));
        Due.is("of a good argument", client.talk(0, "USER " + rest, "CWD /" + "../".repeat(9) + ".."), "500;500;");
        Due.is("30 bytes", client.ask(0, "CWD /" + "../".repeat(8) + "x"), "530;");
        client = sending();
        Due.is("before 503 and 550", client.talk(0, "USER " + rest, "MKD " + "../".repeat(9)), "500;500;");
        Due.is("it runs on", client.running(0), 1);
    }

    private static void noCommandThatIsNamed() {
        Due.sentence("500 the line is TOO LONG, or no command that is named here.");
        Client client = Client.adm();
        String[] none = {"", " ", "LIST", "STAT", "HELP", "PORT", "XPWD", "US", "USERS", "MK", "MKDIR", "R", "DEL", "CD a",
            "NOOPx", "1", "/", "STO R"};
        for (String line : none) {
            client.due(0, line, "500;");
        }
        client = sending();
        Due.is("before 503", client.talk(0, "FOO", "", "FOO x"), "500;500;500;");
    }

    private static void argumentThatMustNotBe() {
        Due.sentence("501 it has an argument and must have none, or none and must have one,");
        for (String command : BARE) {
            Client client = Client.adm();
            Due.is(command, client.talk(0, command + " ", command + " x", command + " /"), "501;501;501;");
            Due.is("somebody is logged in", client.current(0), 0);
        }
        String[] others = {"USER", "PASS", "TYPE", "CWD", "SIZE", "REST", "RETR", "STOR", "APPE", "DELE", "MKD", "RMD", "RNFR",
            "RNTO"};
        for (String command : others) {
            Due.is(command, Client.adm().ask(0, command), "501;");
        }
    }

    private static void argumentBeforeUser() {
        Due.sentence("530 nobody is logged in (not for USER, PASS, QUIT, NOOP).");
        Client client = new Client();
        Due.is("501 is before it", client.talk(0, "TYPE", "TYPE a", "PWD x", "CWD A", "REST 25", "NLST x", "MKD"),
            "501;".repeat(7));
        Due.is("also of those", client.talk(0, "USER", "PASS", "QUIT x", "NOOP x"), "501;".repeat(4));
    }

    private static void argumentBeforeTransfer() {
        Due.sentence("503 a TRANSFER is running in the session (not for QUIT, NOOP, ABOR).");
        Client client = sending();
        Due.is("501 is before it", client.talk(0, "TYPE a", "PWD x", "CWD A", "REST 25", "USER", "QUIT x", "ABOR x"),
            "501;".repeat(7));
        Due.is("it runs on", client.running(0), 1);
    }

    private static void argumentBeforeAdm() {
        Due.sentence("550 it is one of STOR APPE DELE MKD RMD RNFR RNTO, and the user isn't adm.");
        Client client = new Client();
        client.logIn(0, "any");
        for (String command : ADM_ALONE) {
            Due.is(command, client.talk(0, command, command + " A"), "501;501;");
        }
    }

    private static void nobodyLoggedIn() {
        Due.sentence("530 nobody is logged in (not for USER, PASS, QUIT, NOOP).");
        Client client = new Client();
        for (String line : NEED_USER) {
            client.due(0, line, "530;");
        }
        Due.is("those four", client.talk(0, "NOOP", "PASS key", "QUIT", "USER adm"), "200;503;221;331;");
        client.due(0, "PWD", "530;");
        Due.is("behind a wrong key", client.talk(0, "USER adm", "PASS no", "PWD", "ABOR"), "331;530;530;530;");
        client.logIn(1, "adm");
        client.due(0, "PWD", "530;");
        client.due(1, "PWD", "257 /;");
    }

    private static void userBeforeAdm() {
        Due.sentence("530 nobody is logged in (not for USER, PASS, QUIT, NOOP).");
        Client client = new Client();
        client.logIn(0, "any");
        client.due(0, "MKD a", "550;");
        client.due(0, "USER any", "331;");
        for (String command : ADM_ALONE) {
            client.due(0, command + " a", "530;");
        }
    }

    private static void transferRunning() {
        Due.sentence("503 a TRANSFER is running in the session (not for QUIT, NOOP, ABOR).");
        String[] commands = {"RETR f", "STOR g", "NLST"};
        for (String command : commands) {
            Client client = Client.adm();
            client.keep(0, "f", 1, 2, 3);
            client.begin(0, command);
            int mode = client.running(0);
            for (String line : NEED_QUIET) {
                client.due(0, line, "503;");
            }
            client.due(0, "NOOP", "200;");
            Due.is("it runs on", client.running(0), mode);
            client.due(0, "ABOR", "426;226;");
        }
        Client client = sending();
        client.logIn(1, "any");
        client.due(1, "PWD", "257 /;");
        client.due(0, "QUIT", "221;");
    }

    private static void transferBeforeAdm() {
        Due.sentence("503 a TRANSFER is running in the session (not for QUIT, NOOP, ABOR).");
        Client client = sending();
        for (String command : ADM_ALONE) {
            client.due(0, command + " a", "503;");
        }
    }

    private static void admAlone() {
        Due.sentence("550 it is one of STOR APPE DELE MKD RMD RNFR RNTO, and the user isn't adm.");
        Client client = Client.adm();
        client.keep(0, "f", 1);
        client.due(0, "MKD a", "257 /a;");
        client.logIn(0, "any");
        Due.is("those", client.talk(0, "PASV", "STOR f", "APPE f", "STOR g", "DELE f", "MKD b", "RMD a", "RNFR f"),
            "227;" + "550;".repeat(7));
        Due.is("others", client.talk(0, "TYPE I", "PWD", "CWD a", "CDUP", "SIZE f", "REST 0", "RETR f", "ABOR"),
            "200;257 /;250;250;213 1;350;150;426;226;");
        Due.is("nothing has changed", client.node(0, 2), 2);
        client.begin(0, "NLST");
    }

    private static void admBeforeTheRest() {
        Due.sentence("550 it is one of STOR APPE DELE MKD RMD RNFR RNTO, and the user isn't adm.");
        Client client = new Client();
        client.logIn(0, "any");
        Due.is("before 425", client.talk(0, "STOR f", "APPE f"), "550;550;");
        Due.is("before 503 of RNTO", client.ask(0, "RNTO f"), "550;");
    }

    private static void userWithAnyArgument() {
        Due.sentence("USER u (any argument): 331; nobody is logged in any more");
        Client client = Client.adm();
        String[] users = {"", " ", "adm", "ADM", "any", "any any", "/", "u".repeat(25)};
        for (String user : users) {
            client.due(0, "USER " + user, "331;");
            Due.is("current", client.current(0), -1);
        }
        client.logIn(0, "adm");
        client.logIn(1, "adm");
        client.due(0, "USER q", "331;");
        Due.is("the other session", client.current(1), 0);
        client.due(1, "USER", "501;");
        Due.is("a USER that is refused", client.current(1), 0);
    }

    private static void userKeepsTheDataWay() {
        Due.sentence("(the data way stays as it is, also through PASS)");
        Client client = Client.adm();
        client.keep(0, "f", 4);
        Due.is("lines", client.talk(0, "PASV", "USER adm", "PASS no", "USER any", "PASS no", "RETR f"),
            "227;331;530;331;230;150;");
        Due.is("take", client.take(0), "4");
        Due.is("lines", client.talk(0, "USER any", "PASS x", "RETR f"), "226;331;230;425;");
        Due.is("lines", client.talk(0, "PASV", "USER q"), "227;331;");
        Due.is("nobody closes it", client.close(0), Client.FINE);
        Due.is("again", client.close(0), Client.STATE);
    }

    private static void passBehindUser() {
        Due.sentence("503 if the line before (any line is one, also an empty one or one answered 500) wasn't a USER that was");
        Client client = new Client();
        client.due(0, "PASS key", "503;");
        client.due(0, "USER adm", "331;");
        client.bytes(0, 255, 253, 1, 255, 0, 13);
        Due.is("an order is no line", client.talk(0, "PASS key"), "<255><252><1>230;");
        client.due(0, "PASS key", "503;");
        Due.is("a PASS that is refused changes nothing", client.current(0), 0);
        Due.is("the last USER counts", client.talk(0, "USER any", "USER adm", "PASS x"), "331;331;530;");
        Due.is("the last USER counts", client.talk(0, "USER adm", "USER any", "PASS x"), "331;331;230;");
        client.due(0, "MKD a", "550;");
        Due.is("one PASS for one USER", client.talk(0, "USER adm", "PASS x", "PASS key"), "331;530;503;");
    }

    private static void passBehindOtherLines() {
        Due.sentence("503 if the line before (any line is one, also an empty one or one answered 500) wasn't a USER that was");
        String[] between = {"", " ", "FOO", "NOOP", "NOOP x", "USER", "PASS", "QUIT", "PWD", "MKD a", "x".repeat(31),
            "USER " + "u".repeat(26)};
        for (String line : between) {
            Client client = new Client();
            client.due(0, "USER any", "331;");
            client.ask(0, line);
            client.due(0, "PASS key", "503;");
            Due.is("nobody", client.current(0), -1);
        }
    }

    private static void passOfOtherSessions() {
        Due.sentence("503 if the line before (any line is one, also an empty one or one answered 500) wasn't a USER that was");
        Client client = new Client();
        client.due(0, "USER adm", "331;");
        client.due(1, "PASS key", "503;");
        client.due(1, "USER any", "331;");
        client.due(1, "", "500;");
        client.due(0, "PASS key", "230;");
        Due.is("session 0", client.current(0), 0);
        Due.is("session 1", client.current(1), -1);
    }

    private static void whoIsLoggedIn() {
        Due.sentence("230 if u was adm and w is key, or u was any: that one is logged in,");
        String[][] wrong = {{"adm", ""}, {"adm", "ke"}, {"adm", "keyx"}, {"adm", "Key"}, {"adm", " key"}, {"adm", "key "},
            {"Adm", "key"}, {"ad", "key"}, {"admx", "key"}, {"", "key"}, {"ANY", "x"}, {"an", "x"}, {"anyx", "x"}};
        for (String[] pair : wrong) {
            Client client = new Client();
            Due.is(pair[0] + " " + pair[1], client.talk(0, "USER " + pair[0], "PASS " + pair[1]), "331;530;");
            Due.is("nobody", client.current(0), -1);
        }
        String[] words = {"", "key", "KEY", " ", "w".repeat(25)};
        for (String word : words) {
            Client client = new Client();
            Due.is("any " + word, client.talk(0, "USER any", "PASS " + word, "MKD a"), "331;230;550;");
        }
        Due.is("adm", new Client().talk(0, "USER adm", "PASS key", "MKD a"), "331;230;257 /a;");
    }

    private static void logInBeginsAnew() {
        Due.sentence("CURRENT is the root, the TYPE is I; else 530.");
        Client client = Client.adm();
        Due.is("lines", client.talk(0, "MKD a", "CWD a", "TYPE A", "PASV", "USER adm", "PASS key", "PWD", "STOR f"),
            "257 /a;250;200;227;331;230;257 /;150;");
        client.bringAll(0, 13, 10);
        Due.is("the TYPE is I", client.contents(2), "13 10");
        Due.is("close", client.close(0), Client.FINE);
        Due.is("TYPE A holds through RETR", client.talk(0, "TYPE A", "PASV", "RETR f"), "226;200;227;150;");
        Due.is("taken", client.takeAll(0), "13 13 10");
    }

    private static void quitIsAsAtFirst() {
        Due.sentence("the session is as at first, but for its reply bytes; a transfer ends.");
        Client client = Client.adm();
        client.logIn(1, "any");
        client.keep(0, "f", 1);
        client.say(0, "PASV");
        client.say(0, "QUIT");
        Due.is("its reply bytes stay", client.hear(0), "227;221;");
        Due.is("nobody is logged in", client.current(0), -1);
        Due.is("the data way", client.close(0), Client.STATE);
        Due.is("lines", client.talk(0, "PWD", "PASS key", "QUIT", "NOOP"), "530;503;221;200;");
        Due.is("lines", client.talk(0, "USER adm", "PASS key", "RNFR f", "QUIT"), "331;230;350;221;");
        Due.is("lines", client.talk(0, "USER adm", "PASS key", "RNTO g"), "331;230;503;");
        Due.is("lines", client.talk(0, "PASV", "REST 1", "QUIT", "USER adm", "PASS key", "PASV", "RETR f"),
            "227;350;221;331;230;227;150;");
        Due.is("no offset", client.take(0), "1");
        Due.is("the other session", client.current(1), 0);
    }

    private static void quitEndsTransfers() {
        Due.sentence("the session is as at first, but for its reply bytes; a transfer ends.");
        Client client = Client.adm();
        client.begin(0, "STOR f", 1, 2, 3, 4, 5);
        client.due(0, "QUIT", "221;");
        Due.is("running", client.running(0), 0);
        Due.is("bring", client.bring(0, 1), Client.STATE);
        Due.is("the file", client.contents(1), "1 2 3 4 5");
        client.logIn(0, "adm");
        client.begin(0, "RETR f");
        client.due(0, "QUIT", "221;");
        Due.is("take", client.take(0), Client.ELEMENT);
        client.logIn(0, "adm");
        client.due(0, "RNFR f", "350;");
        client.due(0, "RNTO g", "250;");
        client.crash();
        Due.is("without a 226", client.contents(1), "1 2 3 4");
    }

    private static void typeCapitals() {
        Due.sentence("TYPE A or TYPE I (the argument is that capital): 200.");
        Client client = Client.adm();
        Due.is("capitals", client.talk(0, "TYPE A", "TYPE I"), "200;200;");
        String[] wrong = {"a", "i", "B", "H", "J", "@", "AI", "AA", " A", "A ", "", "I\u0000", "E"};
        for (String letter : wrong) {
            client.due(0, "TYPE " + letter, "501;");
        }
    }

    private static void typeOfTheNextTransfer() {
        Due.sentence("TYPE A or TYPE I (the argument is that capital): 200.");
        Client client = Client.adm();
        Due.is("refused letters", client.talk(0, "TYPE A", "TYPE i", "TYPE x"), "200;501;501;");
        client.begin(0, "STOR f", 13, 10);
        Due.is("change nothing", client.contents(1), "10");
        client.due(0, "TYPE I", "503;");
        client.bringAll(0, 13, 10);
        Due.is("nor in a transfer", client.contents(1), "10 10");
        client.due(0, "ABOR", "426;226;");
        client.due(0, "TYPE I", "200;");
        client.begin(0, "APPE f", 13, 10);
        Due.is("TYPE I", client.contents(1), "10 10 13 10");
    }

    private static void changeDirectory() {
        Due.sentence("CWD path: 250, or 550 if it leads to no directory. CDUP (none): CURRENT goes up: 250.");
        Client client = Client.adm();
        client.keep(0, "f", 1);
        Due.is("lines", client.talk(0, "MKD a", "MKD a/b", "CWD a/b"), "257 /a;257 /a/b;250;");
        Due.is("refused", client.talk(0, "CWD q", "CWD /f", "CWD ../b/q", "CWD b"), "550;550;550;550;");
        Due.is("it stays", client.current(0), 3);
        int[] up = {2, 0, 0};
        for (int n : up) {
            client.due(0, "CDUP", "250;");
            Due.is("current", client.current(0), n);
        }
        Due.is("where it is", client.talk(0, "CWD a", "CWD ../a", "PWD"), "250;250;257 /a;");
    }

    private static void sizeOfFiles() {
        Due.sentence("SIZE path: 213 and how many bytes, or 550 if it leads to no file.");
        Client client = Client.adm();
        client.logIn(1, "any");
        client.due(0, "TYPE A", "200;");
        client.begin(0, "STOR f");
        client.due(1, "SIZE f", "213 0;");
        client.bringAll(0, 1, 13);
        client.due(1, "SIZE f", "213 1;");
        client.bringAll(0, 10);
        client.due(1, "SIZE f", "213 2;");
        Due.is("no file", client.talk(1, "SIZE /", "SIZE ..", "SIZE q", "SIZE f/f"), "550;".repeat(4));
        Due.is("close", client.close(0), Client.FINE);
        client.due(1, "TYPE A", "200;");
        client.due(1, "SIZE f", "213 2;");
    }

    private static void passiveOpens() {
        Due.sentence("PASV (none): 227; the session's data way is OPEN, with nothing in it.");
        Client client = Client.adm();
        client.keep(0, "f", 1, 2);
        Due.is("closed", client.close(0), Client.STATE);
        client.due(0, "PASV", "227;");
        client.due(0, "PASV", "227;");
        Due.is("nothing runs", client.running(0), 0);
        Due.is("nothing is in it", client.take(0), Client.ELEMENT);
        Due.is("it is open once", client.close(0), Client.FINE);
        Due.is("not twice", client.close(0), Client.STATE);
        client.begin(0, "RETR f");
        client.due(0, "ABOR", "426;226;");
        client.begin(0, "NLST");
        Due.is("nothing is left in it", client.takeAll(0), "102 13 10");
        Due.is("the other session's", client.close(1), Client.STATE);
    }

    private static void restNumbers() {
        Due.sentence("REST n (0 .. 24, one or two digits): 350;");
        Client client = Client.adm();
        for (int n = 0; n < 100; n++) {
            if (n % 20 == 0) {
                client = Client.adm();
            }
            client.due(0, "REST " + n / 10 + n % 10, n <= 24 ? "350;" : "501;");
        }
        client = Client.adm();
        for (int n = 0; n < 10; n++) {
            client.due(0, "REST " + n, "350;");
        }
    }

    private static void restDigits() {
        Due.sentence("REST n (0 .. 24, one or two digits): 350;");
        String[] wrong = {"", "000", "001", "024", "100", "240", "-1", "+1", " 1", "1 ", "1/", "1:", "/", ":", "a", "1a", "x1",
            "0x", "1.", "1 2"};
        Client client = Client.adm();
        for (String number : wrong) {
            client.due(0, "REST " + number, "501;");
        }
        client.keep(0, "f", 1, 2, 3);
        Due.is("08 is eight", client.talk(0, "PASV", "REST 08", "RETR f"), "227;350;554;");
        Due.is("02 is two", client.talk(0, "REST 02", "RETR f"), "350;150;");
        Due.is("from there on", client.take(0), "3");
    }
}
