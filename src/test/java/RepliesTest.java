/** Promises 8 and 9: waiting and reply, and the room for 200 reply bytes. */
public final class RepliesTest {
    public static void main(String[] args) {
        noSuchSession();
        byteByByte();
        roomForReplies();
        roomForOrders();
        roomForTwo();
        whatIsDoneIsDone();
        roomIsUsedAgain();
        Due.end();
    }

    private static void noSuchSession() {
        Client client = new Client();
        int[] none = {-1, 2, Integer.MIN_VALUE, Integer.MAX_VALUE};
        for (int s : none) {
            Due.is("waiting", client.waiting(s), -1);
            Due.is("reply", client.reply(s), -1);
        }
    }

    private static void byteByByte() {
        Client client = new Client();
        Due.is("reply", client.reply(0), -1);
        client.say(1, "NOOP");
        Due.is("the other session", client.waiting(0), 0);
        int[] want = {'2', '0', '0', 13, 10};
        for (int i = 0; i < want.length; i++) {
            Due.is("waiting", client.waiting(1), 5 - i);
            Due.is("reply", client.reply(1), want[i]);
        }
        Due.is("waiting", client.waiting(1), 0);
        Due.is("reply", client.reply(1), -1);
    }

    /** Fills session 0 with so many replies of five bytes. */
    private static void fillReplies(Client client, int count) {
        for (int i = 0; i < count; i++) {
            client.say(0, "");
        }
    }

    private static void roomForReplies() {
        Client client = new Client();
        fillReplies(client, 40);
        Due.is("waiting", client.waiting(0), 200);
        client.say(0, "NOOP");
        Due.is("no room", client.waiting(0), 200);
        for (int i = 0; i < 4; i++) {
            client.reply(0);
        }
        client.say(0, "NOOP");
        Due.is("room for four", client.waiting(0), 196);
        client.reply(0);
        client.say(0, "NOOP");
        Due.is("room for five", client.waiting(0), 200);
        for (int i = 0; i < 195; i++) {
            client.reply(0);
        }
        Due.is("the last reply", client.hear(0), "200;");
    }

    private static void roomForOrders() {
        Client client = new Client();
        fillReplies(client, 39);
        client.bytes(0, 255, 253, 1);
        Due.is("waiting", client.waiting(0), 198);
        client.bytes(0, 255, 251, 1);
        Due.is("no room for three", client.waiting(0), 198);
        client.reply(0);
        client.bytes(0, 255, 251, 1);
        Due.is("room for three", client.waiting(0), 200);
    }

    private static void roomForTwo() {
        Client client = Client.adm();
        client.due(0, "PASV", "227;");
        fillReplies(client, 39);
        client.say(0, "NLST");
        Due.is("room for 150, not for 226", client.waiting(0), 200);
        Due.is("running", client.running(0), 0);
        for (int i = 0; i < 195; i++) {
            client.reply(0);
        }
        Due.is("the last reply", client.hear(0), "150;");
    }

    private static void whatIsDoneIsDone() {
        Client client = Client.adm();
        fillReplies(client, 38);
        client.say(0, "MKD abc");
        Due.is("room for 257 /abc in 10", client.waiting(0), 200);
        client.reply(0);
        client.say(0, "MKD a");
        Due.is("waiting", client.waiting(0), 199);
        Due.is("a was made", client.node(2, 3), Client.name("a"));
        client.say(0, "PASV");
        client.say(0, "STOR f");
        Due.is("running", client.running(0), 2);
        client.bringAll(0, 1);
        Due.is("close", client.close(0), Client.FINE);
        Due.is("waiting", client.waiting(0), 199);
        client.crash();
        Due.is("the file is safe", client.node(3, 2), 1);
    }

    private static void roomIsUsedAgain() {
        Client client = new Client();
        for (int i = 0; i < 30; i++) {
            client.due(0, "NOOP", "200;");
        }
        fillReplies(client, 40);
        Due.is("waiting", client.waiting(0), 200);
        client.cut(0);
        client.due(0, "NOOP", "200;");
    }
}
