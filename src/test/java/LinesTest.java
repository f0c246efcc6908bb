/** Promise 2: feed; how bytes become orders and lines. */
public final class LinesTest {
    public static void main(String[] args) {
        sessions();
        lowestEightBits();
        orders();
        ordersInsideALine();
        ends();
        longLines();
        commandsAndArguments();
        argumentsThatMustNotBe();
        argumentsThatMustBe();
        unknownCommands();
        smallLetters();
        argumentEndsWithItsLine();
        Due.end();
    }

    private static void sessions() {
        Client client = new Client();
        Due.is("feed(0, 65)", client.feed(0, 65), true);
        Due.is("feed(1, 65)", client.feed(1, 65), true);
        Due.is("feed(-1, 65)", client.feed(-1, 65), false);
        Due.is("feed(2, 65)", client.feed(2, 65), false);
        client.say(0, "");
        Due.is("session 0", client.hear(0), "500;");
        Due.is("session 1", client.hear(1), "");
    }

    private static void lowestEightBits() {
        Client client = new Client();
        client.bytes(0, 'N' + 256, 'O' - 256, 'O' + 512, 'P', 13 + 1024, 10 - 768);
        Due.is("NOOP in large numbers", client.hear(0), "200;");
    }

    private static void orders() {
        Client client = new Client();
        client.bytes(0, 255, 253, 7);
        Due.is("255 253 7", client.hear(0), "<255><252><7>");
        client.bytes(0, 255, 251, 200);
        Due.is("255 251 200", client.hear(0), "<255><254><200>");
        client.bytes(0, 255, 252, 1, 255, 254, 1, 255, 250, 255, 0, 255, 13, 255, 10);
        Due.is("orders without an answer", client.hear(0), "");
        client.bytes(0, 255, 253, 255, 255, 251, 13);
        Due.is("any byte ends an order", client.hear(0), "<255><252><255><255><254><13>");
        client.due(0, "NOOP", "200;");
        client.bytes(1, 255, 251);
        Due.is("an order that isn't whole", client.hear(1), "");
    }

    private static void ordersInsideALine() {
        Client client = new Client();
        client.text(0, "NO");
        client.bytes(0, 255, 241, 255, 252, 79);
        client.text(0, "OP");
        client.bytes(0, 13, 255, 254, 0, 255, 249, 10);
        Due.is("orders in a line and in its end", client.hear(0), "200;");
        client.text(0, "NOOP");
        client.bytes(0, 255, 255, 13, 10);
        Due.is("255 255 is a byte of the line", client.hear(0), "500;");
        client.text(0, "USER ");
        client.bytes(0, 255, 255, 13, 10);
        Due.is("255 255 in an argument", client.hear(0), "331;");
        client.text(0, "NOOP");
        client.bytes(0, 13, 255, 255, 10, 13, 10);
        Due.is("255 255 behind a 13", client.hear(0), "500;");
    }

    private static void ends() {
        Client client = new Client();
        client.text(0, "NOOP");
        client.bytes(0, 13, 13, 13, 10);
        Due.is("13 before 13 is dropped", client.hear(0), "200;");
        client.text(0, "NO");
        client.bytes(0, 13);
        client.text(0, "OP");
        client.bytes(0, 13, 10);
        Due.is("13 before a letter is dropped", client.hear(0), "200;");
        client.text(0, "NOOP");
        client.bytes(0, 10);
        Due.is("10 alone ends nothing", client.hear(0), "");
        client.bytes(0, 13, 10);
        Due.is("10 alone is a byte of the line", client.hear(0), "500;");
        client.text(0, "NOOP");
        client.bytes(0, 13, 0, 10, 13, 10);
        Due.is("13 0 is a byte 13, which ends nothing", client.hear(0), "500;");
        client.text(0, "NOOP");
        client.bytes(0, 0, 13, 10);
        Due.is("0 is a byte of the line", client.hear(0), "500;");
        client.logIn(0, "any");
        client.text(0, "TYPE I");
        client.bytes(0, 13, 0, 13, 10);
        Due.is("TYPE I and a byte 13", client.hear(0), "501;");
    }

    private static void longLines() {
        Client client = new Client();
        client.due(0, "USER " + "u".repeat(25), "331;");
        client.due(0, "USER " + "u".repeat(26), "500;");
        client.due(0, "NOOP", "200;");
        client.text(0, "USER " + "u".repeat(24));
        client.bytes(0, 13, 0, 13, 10);
        Due.is("13 0 counts as one byte", client.hear(0), "331;");
        client.text(0, "USER " + "u".repeat(25));
        client.bytes(0, 13, 0, 13, 10);
        Due.is("13 0 as the byte 31", client.hear(0), "500;");
        client.due(0, "QUIT" + "x".repeat(60), "500;");
        client.due(0, "Q" + " ".repeat(29), "500;");
    }

    private static void commandsAndArguments() {
        Client client = new Client();
        client.due(0, "nOoP", "200;");
        client.due(0, "noop", "200;");
        client.due(0, "NOOP ", "501;");
        client.due(0, "NOOP x", "501;");
        client.due(0, "USER", "501;");
        client.due(0, "USER ", "331;");
        client.due(0, "PASS", "501;");
        client.due(0, "user a b  c", "331;");
        client.due(0, "PASS ", "530;");
    }

    private static void argumentsThatMustNotBe() {
        Client client = new Client();
        client.logIn(0, "any");
        String[] bare = {"QUIT", "PWD", "CDUP", "PASV", "NLST", "ABOR"};
        for (String command : bare) {
            client.due(0, command + " ", "501;");
        }
    }

    private static void argumentsThatMustBe() {
        Client client = new Client();
        client.logIn(0, "any");
        String[] others = {"TYPE", "REST", "CWD", "SIZE", "RETR", "STOR", "APPE", "DELE", "MKD", "RMD", "RNFR", "RNTO"};
        for (String command : others) {
            client.due(0, command, "501;");
            client.due(0, command + " ", "501;");
        }
    }

    private static void smallLetters() {
        Client client = new Client();
        String[] commands = {"type A", "pwd", "cwd a", "cdup", "size a", "pasv", "rest 0", "retr a", "stor a", "appe a",
            "nlst", "abor", "dele a", "mkd a", "rmd a", "rnfr a", "rnto a"};
        for (String line : commands) {
            client.due(0, line, "530;");
        }
        client.due(0, "user any", "331;");
        client.due(0, "pass key", "230;");
        client.due(0, "quit", "221;");
    }

    /** What a longer line before has left behind the end of this one is no part of it. */
    private static void argumentEndsWithItsLine() {
        Client client = Client.adm();
        client.due(0, "CWD /", "250;");
        client.due(0, "CWD ", "501;");
        client.due(0, "CWD /..", "250;");
        client.due(0, "CWD /", "250;");
        client.due(0, "REST 24", "350;");
        client.due(0, "REST 2", "350;");
        client.due(0, "REST ", "501;");
        client.due(0, "TYPE A", "200;");
        client.due(0, "TYPE ", "501;");
    }

    private static void unknownCommands() {
        Client client = new Client();
        String[] unknown = {"", " ", " NOOP", "NO", "NOOPS", "LIST", "HELP x", "NOO`", "n{op", "MKDX a", "NO OP"};
        for (String line : unknown) {
            client.due(0, line, "500;");
        }
    }
}
