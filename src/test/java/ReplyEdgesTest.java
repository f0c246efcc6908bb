/** The edges of replies: their form, and the room for 200 bytes. */
public final class ReplyEdgesTest {
    public static void main(String[] args) {
        sizes();
        paths();
        longestPath();
        noTextBehindOthers();
        exactlyTwoHundred();
        oneTooMany();
        shorterOnesStillFit();
        ordersAtTheEdge();
        longReplyAtTheEdge();
        twoRepliesAtTheEdge();
        abortAtTheEdge();
        answersToTheDataWay();
        whatIsDoneIsDone();
        roomOfEachSession();
        wrapAround();
        firstByteFirst();
        Due.end();
    }

    private static void sizes() {
        Due.sentence("a space and a text behind 213 (the number) and 257 (the path) alone, and 13 10;");
        int[] counts = {0, 1, 9, 10, 11, 19, 20, 24};
        for (int count : counts) {
            Client client = Client.adm();
            client.keep(0, "f", new int[count]);
            client.due(0, "SIZE f", "213 " + count + ";");
        }
    }

    private static void paths() {
        Due.sentence("257 and the path of CURRENT (/ , or / and a name for each step).");
        Client client = Client.adm();
        client.due(0, "PWD", "257 /;");
        Due.is("lines", client.talk(0, "MKD a", "CWD a", "PWD", "MKD 0z", "CWD 0z", "PWD", "MKD abc", "CWD abc", "PWD"),
            "257 /a;250;257 /a;257 /a/0z;250;257 /a/0z;257 /a/0z/abc;250;257 /a/0z/abc;");
        client.due(0, "CWD /", "250;");
        client.due(0, "PWD", "257 /;");
    }

    /** Fifteen names of three characters: no other reply is as long. */
    private static void longestPath() {
        Due.sentence("257 and the path of CURRENT (/ , or / and a name for each step).");
        Client client = new Client();
        client.say(0, "USER adm");
        client.say(0, "PASS key");
        for (int i = 0; i < 14; i++) {
            client.say(0, "MKD xyz");
            client.say(0, "CWD xyz");
        }
        while (client.waiting(0) > 140) {
            client.reply(0);
        }
        client.say(0, "MKD xyz");
        Due.is("66 bytes have no room in 60", client.waiting(0), 140);
        drop(client, 0, 6);
        client.say(0, "CWD xyz");
        Due.is("CURRENT", client.current(0), 15);
        drop(client, 0, 5);
        client.say(0, "PWD");
        Due.is("66 bytes in 66", client.waiting(0), 200);
    }

    private static void noTextBehindOthers() {
        Due.sentence("a space and a text behind 213 (the number) and 257 (the path) alone, and 13 10;");
        Client client = Client.adm();
        client.keep(0, "f", 1);
        String[] lines = {"NOOP", "TYPE I", "CWD /", "PASV", "REST 0", "RETR f", "ABOR", "FOO", "CWD q", "USER any", "PASS x",
            "QUIT", "PWD"};
        for (String line : lines) {
            client.say(0, line);
            Due.is(line, client.waiting(0), line.equals("ABOR") ? 10 : 5);
            client.hear(0);
        }
    }

    /** So many replies of five bytes. */
    private static void fill(Client client, int s, int count) {
        for (int i = 0; i < count; i++) {
            client.say(s, "");
        }
    }

    private static void drop(Client client, int s, int count) {
        for (int i = 0; i < count; i++) {
            client.reply(s);
        }
    }

    private static void exactlyTwoHundred() {
        Due.sentence("There is room for 200 reply bytes in a session:");
        Client client = new Client();
        fill(client, 0, 39);
        Due.is("195", client.waiting(0), 195);
        client.say(0, "NOOP");
        Due.is("200", client.waiting(0), 200);
        drop(client, 0, 195);
        Due.is("the last reply is whole", client.hear(0), "200;");
    }

    private static void oneTooMany() {
        Due.sentence("a reply (or the three bytes for an order) for which there isn't room is left out.");
        String[] ends = {"500;", "00;", "0;", ";", "<10>", "200;"};
        for (int room = 0; room <= 5; room++) {
            Client client = new Client();
            fill(client, 0, 40);
            drop(client, 0, room);
            client.say(0, "NOOP");
            Due.is("room for " + room, client.waiting(0), room < 5 ? 200 - room : 200);
            drop(client, 0, 195);
            Due.is("what is last with room for " + room, client.hear(0), ends[room]);
        }
    }

    private static void shorterOnesStillFit() {
        Due.sentence("a reply (or the three bytes for an order) for which there isn't room is left out.");
        Client client = Client.adm();
        fill(client, 0, 39);
        client.say(0, "PWD");
        Due.is("257 / has no room in five", client.waiting(0), 195);
        client.say(0, "SIZE q");
        Due.is("a shorter one has", client.waiting(0), 200);
        drop(client, 0, 195);
        Due.is("the shorter one", client.hear(0), "550;");
    }

    private static void ordersAtTheEdge() {
        Due.sentence("a reply (or the three bytes for an order) for which there isn't room is left out.");
        for (int room = 0; room <= 4; room++) {
            Client client = new Client();
            fill(client, 0, 40);
            drop(client, 0, room);
            client.say(0, "NOOP");
            Due.is("no room for a reply in " + room, client.waiting(0), 200 - room);
            client.bytes(0, 255, room % 2 == 0 ? 253 : 251, 9);
            Due.is("an order in " + room, client.waiting(0), room < 3 ? 200 - room : 203 - room);
            client.bytes(0, 255, 252, 9, 255, 254, 9);
            Due.is("orders without an answer", client.waiting(0), room < 3 ? 200 - room : 203 - room);
        }
    }

    private static void longReplyAtTheEdge() {
        Due.sentence("a reply (or the three bytes for an order) for which there isn't room is left out.");
        for (int room = 9; room <= 10; room++) {
            Client client = Client.adm();
            fill(client, 0, 40);
            drop(client, 0, room);
            client.say(0, "MKD abc");
            Due.is("257 /abc in " + room, client.waiting(0), room == 10 ? 200 : 191);
            Due.is("it was made", client.node(1, 3), Client.name("abc"));
        }
        for (int room = 7; room <= 8; room++) {
            Client client = Client.adm();
            client.keep(0, "f", new int[10]);
            fill(client, 0, 40);
            drop(client, 0, room);
            client.say(0, "SIZE f");
            Due.is("213 10 in " + room, client.waiting(0), room == 8 ? 200 : 193);
        }
    }

    private static void twoRepliesAtTheEdge() {
        Due.sentence("or by two (there is room for each by itself; what is done is done).");
        int[] rooms = {4, 5, 9, 10};
        int[] waits = {196, 200, 196, 200};
        String[] ends = {"", "150;", "150;", "150;226;"};
        for (int i = 0; i < rooms.length; i++) {
            Client client = Client.adm();
            client.due(0, "PASV", "227;");
            fill(client, 0, 40);
            drop(client, 0, rooms[i]);
            client.say(0, "NLST");
            Due.is("waiting with room for " + rooms[i], client.waiting(0), waits[i]);
            Due.is("the transfer has ended", client.running(0), 0);
            Due.is("the data way", client.close(0), Client.STATE);
            drop(client, 0, 200 - rooms[i]);
            Due.is("the replies with room for " + rooms[i], client.hear(0), ends[i]);
        }
    }

    private static void abortAtTheEdge() {
        Due.sentence("or by two (there is room for each by itself; what is done is done).");
        int[] rooms = {4, 5, 9, 10};
        String[] ends = {"", "426;", "426;", "426;226;"};
        for (int i = 0; i < rooms.length; i++) {
            Client client = Client.adm();
            client.begin(0, "STOR f", 1);
            fill(client, 0, 40);
            drop(client, 0, rooms[i]);
            client.say(0, "ABOR");
            Due.is("the transfer has ended", client.running(0), 0);
            drop(client, 0, 200 - rooms[i]);
            Due.is("the replies with room for " + rooms[i], client.hear(0), ends[i]);
        }
    }

    private static void answersToTheDataWay() {
        Due.sentence("a reply (or the three bytes for an order) for which there isn't room is left out.");
        for (int room = 4; room <= 5; room++) {
            Client client = Client.adm();
            client.keep(0, "f", 1);
            client.begin(0, "RETR f");
            fill(client, 0, 40);
            drop(client, 0, room);
            Due.is("take", client.take(0), "1");
            Due.is("226 to the last byte in " + room, client.waiting(0), room == 5 ? 200 : 196);
            Due.is("running", client.running(0), 0);
            client.cut(0);
            client.logIn(0, "adm");
            client.begin(0, "RETR f");
            fill(client, 0, 40);
            drop(client, 0, room);
            Due.is("close", client.close(0), Client.FINE);
            Due.is("426 to a close in " + room, client.waiting(0), room == 5 ? 200 : 196);
        }
    }

    private static void whatIsDoneIsDone() {
        Due.sentence("what is done is done");
        Client client = new Client();
        fill(client, 0, 40);
        client.say(0, "USER adm");
        client.say(0, "PASS key");
        Due.is("logged in", client.current(0), 0);
        client.say(0, "MKD a");
        client.say(0, "CWD a");
        Due.is("current", client.current(0), 1);
        client.say(0, "PASV");
        client.say(0, "STOR f");
        Due.is("running", client.running(0), 2);
        client.bringAll(0, 5, 6, 7, 8, 9);
        Due.is("close", client.close(0), Client.FINE);
        client.say(0, "RNFR f");
        client.say(0, "RNTO g");
        Due.is("renamed", client.node(2, 3), Client.name("g"));
        client.say(0, "PASV");
        client.say(0, "REST 4");
        client.say(0, "RETR g");
        Due.is("sent from the offset on", client.take(0), "9");
        Due.is("all were left out", client.waiting(0), 200);
        client.say(0, "QUIT");
        Due.is("logged out", client.current(0), -1);
        client.crash();
        Due.is("safe", client.contents(2), "5 6 7 8 9");
    }

    private static void roomOfEachSession() {
        Due.sentence("There is room for 200 reply bytes in a session:");
        Client client = new Client();
        fill(client, 0, 41);
        client.due(1, "NOOP", "200;");
        fill(client, 1, 40);
        Due.is("session 0", client.waiting(0), 200);
        Due.is("session 1", client.waiting(1), 200);
        client.say(1, "NOOP");
        Due.is("session 1 is full, too", client.waiting(1), 200);
    }

    /** 203 bytes in all pass the room for 200 at its end in the middle of a reply. */
    private static void wrapAround() {
        Due.sentence("There is room for 200 reply bytes in a session:");
        Client client = new Client();
        client.bytes(0, 255, 253, 1);
        fill(client, 0, 39);
        drop(client, 0, 158);
        Due.is("waiting", client.waiting(0), 40);
        client.talk(1, "NOOP");
        for (int i = 0; i < 8; i++) {
            client.say(0, "NOOP");
        }
        Due.is("the bytes in their order", client.hear(0), "500;".repeat(8) + "200;".repeat(8));
        Due.is("none is left", client.reply(0), -1);
    }

    private static void firstByteFirst() {
        Due.sentence("Takes the first reply byte of session s; NONE if there is none.");
        Client client = new Client();
        Due.is("reply", client.reply(0), -1);
        client.bytes(0, 255, 251, 0);
        client.say(0, "NOOP");
        int[] want = {255, 254, 0, '2', '0', '0', 13, 10, -1, -1};
        for (int i = 0; i < want.length; i++) {
            Due.is("waiting before byte " + i, client.waiting(0), Math.max(0, 8 - i));
            Due.is("byte " + i, client.reply(0), want[i]);
        }
        client.say(0, "NOOP");
        Due.is("waiting behind an empty one", client.waiting(0), 5);
    }
}
