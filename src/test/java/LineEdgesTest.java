/** The edges of what a session takes: orders, lines, commands and arguments. */
public final class LineEdgesTest {
    public static void main(String[] args) {
        twiceTwoFiftyFive();
        secondByteOfAnOrder();
        thirdByteOfAnOrder();
        ordersBeforeLines();
        ordersTakeNoRoomInALine();
        byteBehindReturn();
        returnsInARow();
        returnAcrossOtherBytes();
        thirtyBytes();
        whatCountsInALine();
        tooLongLineDoesNothing();
        tooLongLineEnds();
        firstSpace();
        capitalsAndSmallLetters();
        noOtherByteIsALetter();
        emptyArgument();
        argumentToTheEnd();
        answeredWhenItEnds();
        sessionsApart();
        lowestBits();
        Due.end();
    }

    private static void twiceTwoFiftyFive() {
        Due.sentence("255 255 stands for one byte 255;");
        Client client = new Client();
        client.text(0, "USER " + "u".repeat(24));
        client.bytes(0, 255, 255, 13, 10);
        Due.is("as the byte 30", client.hear(0), "331;");
        client.text(0, "USER " + "u".repeat(25));
        client.bytes(0, 255, 255, 13, 10);
        Due.is("as the byte 31", client.hear(0), "500;");
        client.text(0, "USER any");
        client.bytes(0, 255, 255, 13, 10);
        Due.is("it is a byte", client.talk(0, "PASS x"), "331;530;");
        client.text(0, "USER any");
        client.bytes(0, 255, 255, 255, 255, 253, 13, 10);
        Due.is("255 255 255 255 253 is two bytes 255 and a 253", client.talk(0, "PASS x"), "331;530;");
        client.text(0, "NOOP");
        client.bytes(0, 255, 255, 255, 253, 7, 13, 10);
        Due.is("255 255 255 253 7 is a byte and an order", client.hear(0), "<255><252><7>500;");
    }

    private static void secondByteOfAnOrder() {
        Due.sentence("255, one of 251 .. 254, and any byte are dropped,");
        Client client = new Client();
        for (int b = 0; b < 255; b++) {
            if (b % 25 == 0) {
                client = new Client();
            }
            client.text(0, "NO");
            client.bytes(0, 255, b);
            if (b >= 251) {
                client.bytes(0, 'z');
            }
            client.text(0, "OP");
            client.bytes(0, 13, 10);
            String answer = b == 253 ? "<255><252>z" : b == 251 ? "<255><254>z" : "";
            Due.is("NO 255 " + b + " OP", client.hear(0), answer + "200;");
        }
    }

    private static String shown(int b) {
        return b < 32 || b > 126 ? "<" + b + ">" : "" + (char) b;
    }

    private static void thirdByteOfAnOrder() {
        Due.sentence("if the second one was 253 the reply bytes get 255 252 and that byte, if it was 251 they get 255 254");
        Client client = new Client();
        for (int b = 0; b < 256; b++) {
            if (b % 16 == 0) {
                client = new Client();
            }
            client.bytes(1, 255, 253, b, 255, 252, b, 255, 251, b, 255, 254, b);
            Due.is("orders of byte " + b, client.hear(1), "<255><252>" + shown(b) + "<255><254>" + shown(b));
        }
        client.due(1, "NOOP", "200;");
    }

    private static void ordersBeforeLines() {
        Due.sentence("Of what is left, 13 10 ends a LINE,");
        Client client = new Client();
        client.text(0, "NOOP");
        client.bytes(0, 13, 255, 253, 10, 10);
        Due.is("an order between 13 and 10", client.hear(0), "<255><252><10>200;");
        client.text(0, "NOOP");
        client.bytes(0, 13, 255, 13, 10);
        Due.is("255 13 between 13 and 10", client.hear(0), "200;");
        client.text(0, "NOOP");
        client.bytes(0, 255, 13, 10);
        Due.is("255 13 ends nothing", client.hear(0), "");
        client.bytes(0, 13, 10);
        Due.is("10 was a byte of the line", client.hear(0), "500;");
        client.text(0, "NOOP");
        client.bytes(0, 13, 255, 10, 0, 13, 10);
        Due.is("an order between 13 and 0", client.hear(0), "500;");
        client.text(0, "NOOP");
        client.bytes(0, 13, 255, 251, 13, 13, 10);
        Due.is("an order of a 13", client.hear(0), "<255><254><13>200;");
    }

    private static void ordersTakeNoRoomInALine() {
        Due.sentence("255 and any other byte are dropped.");
        Client client = new Client();
        client.text(0, "USER " + "u".repeat(25));
        client.bytes(0, 255, 0, 255, 250, 255, 254, 'u', 13, 10);
        Due.is("orders behind the byte 30", client.hear(0), "331;");
        client.bytes(0, 255, 254);
        client.due(0, "xNOOP", "200;");
        client.bytes(0, 255);
        client.due(0, "xNOOP", "200;");
        client.bytes(0, 255);
        client.due(0, "NOOP", "500;");
    }

    private static String dueBehindReturn(int b) {
        switch (b) {
            case 10:
                return "200;500;";
            case 13:
            case 255:
                return "200;";
            case 32:
                return "501;";
            default:
                return "500;";
        }
    }

    private static void byteBehindReturn() {
        Due.sentence("and 13 before any other byte is dropped (that byte counts by itself).");
        Client client = new Client();
        for (int b = 0; b < 256; b++) {
            if (b % 25 == 0) {
                client = new Client();
            }
            client.text(0, "NOOP");
            client.bytes(0, 13, b);
            if (b == 255) {
                client.bytes(0, 7);
            }
            client.bytes(0, 13, 10);
            Due.is("NOOP 13 " + b + " 13 10", client.hear(0), dueBehindReturn(b));
        }
        client.text(0, "NO");
        client.bytes(0, 13, 'O', 13, 'P', 13, 10);
        Due.is("the byte behind it counts", client.hear(0), "200;");
        client.bytes(0, 13, 'N', 'O', 'O', 'P', 13, 10);
        Due.is("at the beginning of a line", client.hear(0), "200;");
    }

    private static void returnsInARow() {
        Due.sentence("13 0 stands for a byte 13 of the line,");
        Client client = new Client();
        client.text(0, "NOOP");
        client.bytes(0, 13, 13, 10);
        Due.is("13 13 10", client.hear(0), "200;");
        client.text(0, "USER any");
        client.bytes(0, 13, 13, 0, 13, 10);
        Due.is("13 13 0 is one byte 13", client.talk(0, "PASS x"), "331;530;");
        client.text(0, "NOOP");
        client.bytes(0, 13, 0, 10);
        Due.is("13 0 10 ends nothing", client.waiting(0), 0);
        client.bytes(0, 13, 10);
        Due.is("the line ends", client.hear(0), "500;");
        client.text(0, "USER ");
        client.bytes(0, 13, 0, 13, 10);
        Due.is("13 0 13 10", client.hear(0), "331;");
        client.text(0, "USER " + "u".repeat(24));
        client.bytes(0, 13, 0, 13, 10);
        Due.is("13 0 as the byte 30", client.hear(0), "331;");
        client.text(0, "USER " + "u".repeat(25));
        client.bytes(0, 13, 0, 13, 10);
        Due.is("13 0 as the byte 31", client.hear(0), "500;");
        client.text(0, "TYPE I");
        client.bytes(0, 13, 0, 13, 10);
        Due.is("the byte 13 is a byte of the argument", client.hear(0), "501;");
    }

    private static void returnAcrossOtherBytes() {
        Due.sentence("13 10 ends a LINE");
        Client client = new Client();
        client.text(0, "NOOP");
        client.bytes(0, 10, 13, 10);
        Due.is("10 alone is a byte of the line", client.hear(0), "500;");
        client.text(0, "USER any");
        client.bytes(0, 0, 13, 10);
        Due.is("0 alone is a byte of the line", client.talk(0, "PASS x"), "331;530;");
        client.bytes(0, 13);
        client.due(1, "NOOP", "200;");
        client.bytes(0, 10);
        Due.is("13 waits for 10 while the other session has lines", client.hear(0), "500;");
        client.bytes(0, 13, 10, 13, 10, 10, 13, 10);
        Due.is("three ends", client.hear(0), "500;500;500;");
    }

    private static void thirtyBytes() {
        Due.sentence("A line has at most 30 bytes; further ones are dropped,");
        Client client = new Client();
        client.due(0, "USER " + "u".repeat(24), "331;");
        client.due(0, "USER " + "u".repeat(25), "331;");
        client.due(0, "USER " + "u".repeat(26), "500;");
        client.due(0, "USER " + "u".repeat(27), "500;");
        client.due(0, "x".repeat(30), "500;");
        client.due(0, "USER any" + " ".repeat(22), "331;");
        client.due(0, "PASS x", "530;");
        client.due(0, "USER any" + " ".repeat(23), "500;");
        client.due(0, "PASS x", "503;");
    }

    private static void whatCountsInALine() {
        Due.sentence("A line has at most 30 bytes; further ones are dropped,");
        Client client = new Client();
        client.text(0, "USER " + "u".repeat(25));
        client.bytes(0, 13, 13, 13, 10);
        Due.is("a 13 that is dropped doesn't count", client.hear(0), "331;");
        client.text(0, "USER " + "u".repeat(25));
        client.bytes(0, 10, 13, 10);
        Due.is("10 as the byte 31", client.hear(0), "500;");
        client.text(0, "USER " + "u".repeat(25));
        client.bytes(0, 0, 13, 10);
        Due.is("0 as the byte 31", client.hear(0), "500;");
        client.text(0, "USER " + "u".repeat(25));
        client.bytes(0, 13, 'u', 13, 10);
        Due.is("the byte behind a 13 as the byte 31", client.hear(0), "500;");
    }

    private static void tooLongLineDoesNothing() {
        Due.sentence("500 the line is TOO LONG, or no command that is named here.");
        Client client = Client.adm();
        client.due(0, "MKD a", "257 /a;");
        client.due(0, "CWD a", "250;");
        client.due(0, "USER " + "u".repeat(26), "500;");
        Due.is("somebody is still logged in", client.current(0), 1);
        client.due(0, "CWD " + "/..".repeat(8) + "/.." + "/", "500;");
        Due.is("current", client.current(0), 1);
        client.due(0, "MKD " + "../".repeat(8) + "b" + "cd", "500;");
        Due.is("nothing was made", client.node(2, 1), -1);
        client.due(0, "MKD " + "../".repeat(8) + "bc", "257 /bc;");
    }

    private static void tooLongLineEnds() {
        Due.sentence("A line has at most 30 bytes; further ones are dropped,");
        Client client = new Client();
        client.due(0, "u".repeat(300), "500;");
        client.due(0, "NOOP", "200;");
        client.text(1, "NOOP" + "u".repeat(27));
        client.due(0, "NOOP", "200;");
        client.bytes(1, 13, 10);
        Due.is("the other session", client.hear(1), "500;");
        client.due(1, "NOOP", "200;");
    }

    private static void firstSpace() {
        Due.sentence("What is before the first space (32) of a line, or all of it, is the COMMAND");
        Client client = new Client();
        client.due(0, "NOOP", "200;");
        client.due(0, " NOOP", "500;");
        client.due(0, "NO OP", "500;");
        client.due(0, " ", "500;");
        client.due(0, "", "500;");
        client.due(0, "NOOPNOOP", "500;");
        client.due(0, "NOO", "500;");
        client.due(0, "USERany", "500;");
        int[] noSpaces = {9, 31, 33, 160, 0, 32 + 64};
        for (int b : noSpaces) {
            client.text(0, "USER");
            client.bytes(0, b);
            client.due(0, "any", "500;");
        }
    }

    private static void capitalsAndSmallLetters() {
        Due.sentence("(a small letter is as good as its capital)");
        String[] commands = {"USER", "PASS", "QUIT", "NOOP", "TYPE", "PWD", "CWD", "CDUP", "SIZE", "PASV", "REST", "RETR",
            "STOR", "APPE", "NLST", "ABOR", "DELE", "MKD", "RMD", "RNFR", "RNTO"};
        for (String command : commands) {
            Client client = new Client();
            String small = command.toLowerCase();
            String mixed = small.substring(0, 1) + command.substring(1, 2) + small.substring(2);
            boolean isBare = "QUIT NOOP PWD CDUP PASV NLST ABOR".contains(command);
            String wrong = isBare ? " x" : "";
            Due.is(command, client.talk(0, command + wrong, small + wrong, mixed + wrong), "501;501;501;");
            Due.is(command, client.talk(0, command + "x" + wrong, small + "x" + wrong), "500;500;");
            Due.is(command, client.talk(0, command.substring(1), command.substring(0, command.length() - 1)), "500;500;");
        }
    }

    private static void noOtherByteIsALetter() {
        Due.sentence("(a small letter is as good as its capital)");
        Client client = new Client();
        for (int b = 0; b < 256; b++) {
            if (b % 35 == 0) {
                client = new Client();
            }
            client.text(0, "N");
            client.bytes(0, b);
            client.text(0, "OP");
            client.bytes(0, 13, 10);
            Due.is("N " + b + " OP", client.hear(0), b == 'O' || b == 'o' ? "200;" : "500;");
        }
    }

    private static void emptyArgument() {
        Due.sentence("with a space all behind it, perhaps nothing, is the ARGUMENT.");
        Client client = Client.adm();
        client.due(0, "NOOP", "200;");
        client.due(0, "NOOP ", "501;");
        client.due(0, "USER", "501;");
        client.due(0, "PWD", "257 /;");
        client.due(0, "PWD ", "501;");
        client.due(0, "USER ", "331;");
        client.due(0, "PASS", "501;");
        client.due(0, "USER any", "331;");
        client.due(0, "PASS ", "230;");
    }

    private static void argumentToTheEnd() {
        Due.sentence("with a space all behind it, perhaps nothing, is the ARGUMENT.");
        Client client = new Client();
        String[] others = {" any", "any ", "a ny", "any x"};
        for (String user : others) {
            client.due(0, "USER " + user, "331;");
            client.due(0, "PASS key", "530;");
        }
        client.due(0, "USER adm", "331;");
        client.due(0, "PASS  key", "530;");
        client.due(0, "USER adm", "331;");
        client.due(0, "PASS key", "230;");
    }

    private static void answeredWhenItEnds() {
        Due.sentence("Each line is answered when it ends, by a REPLY:");
        Client client = new Client();
        client.text(0, "NOOP");
        client.bytes(0, 13);
        Due.is("before its end", client.waiting(0), 0);
        client.bytes(0, 10);
        Due.is("at its end", client.waiting(0), 5);
        client.text(0, "USER adm");
        Due.is("before the next end", client.hear(0), "200;");
        client.bytes(0, 13, 10);
        Due.is("at the next end", client.hear(0), "331;");
    }

    private static void sessionsApart() {
        Due.sentence("SESSIONS 0 and 1 take BYTES.");
        Client client = new Client();
        String noop = "NOOP\r\n";
        for (int i = 0; i < noop.length(); i++) {
            client.feed(0, noop.charAt(i));
            client.feed(1, noop.charAt(i));
        }
        Due.is("session 0", client.hear(0), "200;");
        Due.is("session 1", client.hear(1), "200;");
        client.bytes(0, 255);
        client.bytes(1, 253, 7);
        Due.is("an order of one session only", client.waiting(1), 0);
        client.bytes(0, 253, 7);
        Due.is("session 0", client.hear(0), "<255><252><7>");
        client.bytes(1, 13, 10);
        Due.is("session 1", client.hear(1), "500;");
    }

    private static void lowestBits() {
        Due.sentence("Session s takes a byte (of b the lowest 8 bits); false if there is no such session.");
        Client client = new Client();
        int[] plus = {256, -256, 65536, Integer.MIN_VALUE, -1 - 255};
        for (int more : plus) {
            String noop = "NOOP\r\n";
            for (int i = 0; i < noop.length(); i++) {
                Due.is("feed", client.feed(0, noop.charAt(i) + more), true);
            }
            Due.is("NOOP with " + more + " more", client.hear(0), "200;");
        }
        client.bytes(0, -1, -3, -1);
        Due.is("255 253 255", client.hear(0), "<255><252><255>");
        client.bytes(0, Integer.MAX_VALUE, 253, Integer.MAX_VALUE - 1);
        Due.is("255 253 254", client.hear(0), "<255><252><254>");
        int[] none = {-1, 2, 3, 256, Integer.MIN_VALUE, Integer.MAX_VALUE};
        for (int s : none) {
            Due.is("feed(" + s + ", 13)", client.feed(s, 13), false);
        }
        client.due(0, "NOOP", "200;");
        client.due(1, "NOOP", "200;");
    }
}
