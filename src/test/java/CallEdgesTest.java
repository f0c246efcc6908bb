/** The edges of the calls' arguments, and of what they answer. */
public final class CallEdgesTest {
    private static final int[] NO_SESSIONS = {-1, 2, 3, 255, 256, -256, Integer.MIN_VALUE, Integer.MAX_VALUE};
    private static final int F = Client.name("f");

    public static void main(String[] args) {
        newObject();
        sessions();
        closeOfAnOpenWay();
        bringWhereOneReceives();
        bringLowestBits();
        takeWhereOneSends();
        takeAllBytes();
        nodeNumbers();
        nodeWhat();
        nodeNames();
        contentPlaces();
        waitings();
        currents();
        runnings();
        fillCounts();
        fillWrapsAround();
        fillRefused();
        fillWithAJobOn();
        shelfPlaces();
        jobShelves();
        jobNames();
        jobTries();
        jobArgumentsBeforeState();
        jobCutsSessionOne();
        stepAnswers();
        stepWithoutJob();
        stepClearsReplies();
        Due.end();
    }

    private static void newObject() {
        Due.sentence("An empty store, nobody logged in, empty shelves, no job.");
        Client client = new Client();
        for (int n = 0; n < 16; n++) {
            Due.is("node " + n, client.node(n, 2), n == 0 ? 0 : -1);
        }
        for (int s = 0; s < 2; s++) {
            Due.is("nobody", client.current(s), -1);
            Due.is("no reply bytes", client.waiting(s), 0);
            Due.is("no data way", client.close(s), Client.STATE);
            Due.is("no USER before", client.ask(s, "PASS key"), "503;");
        }
        for (int k = 0; k < 3; k++) {
            Due.is("shelf " + k, client.shelf(k, -1), 0);
        }
        Due.is("no job", client.step(), Client.STATE);
        Due.is("NONE", ParcelLine.NONE, -1);
        client.logIn(0, "adm");
        client.due(0, "MKD a", "257 /a;");
        Due.is("another object", new Client().node(1, 1), -1);
    }

    private static void sessions() {
        Due.sentence("IllegalArgumentException: there is no such session.");
        Client client = Client.adm();
        client.begin(0, "STOR f", 1);
        for (int s : NO_SESSIONS) {
            Due.is("feed", client.feed(s, 13), false);
            Due.is("close", client.close(s), Client.ARGUMENT);
            Due.is("bring", client.bring(s, 2), Client.ARGUMENT);
            Due.is("take", client.take(s), Client.ARGUMENT);
            Due.is("cut", client.cut(s), false);
            Due.is("waiting", client.waiting(s), -1);
            Due.is("reply", client.reply(s), -1);
            Due.is("current", client.current(s), -1);
            Due.is("running", client.running(s), -1);
        }
        Due.is("it receives on", client.running(0), 2);
        Due.is("the file", client.contents(1), "1");
    }

    private static void closeOfAnOpenWay() {
        Due.sentence("IllegalStateException: it isn't OPEN. (A transfer that sends ends with 426 then;");
        Client client = Client.adm();
        client.keep(0, "f", 1, 2);
        Due.is("not open", client.close(0), Client.STATE);
        Due.is("nothing is answered", client.waiting(0), 0);
        client.due(0, "PASV", "227;");
        Due.is("open", client.close(0), Client.FINE);
        Due.is("without a transfer nothing is answered", client.waiting(0), 0);
        Due.is("closed", client.close(0), Client.STATE);
        client.begin(0, "RETR f");
        Due.is("close", client.close(0), Client.FINE);
        Due.is("one that sends", client.hear(0), "426;");
        client.begin(0, "NLST");
        Due.is("close", client.close(0), Client.FINE);
        Due.is("one that sends names", client.hear(0), "426;");
        client.begin(0, "APPE f", 3);
        Due.is("close", client.close(0), Client.FINE);
        Due.is("one that receives", client.hear(0), "226;");
        client.due(0, "RETR f", "425;");
        Due.is("the file", client.contents(1), "1 2 3");
    }

    private static void bringWhereOneReceives() {
        Due.sentence("IllegalStateException: no transfer receives there.");
        Client client = Client.adm();
        client.keep(0, "f", 1, 2);
        Due.is("no data way", client.bring(0, 5), Client.STATE);
        client.due(0, "PASV", "227;");
        Due.is("no transfer", client.bring(0, 5), Client.STATE);
        client.due(0, "RETR f", "150;");
        Due.is("one that sends", client.bring(0, 5), Client.STATE);
        Due.is("it sends on", client.takeAll(0), "1 2");
        client.hear(0);
        client.begin(0, "STOR f");
        Due.is("the other session", client.bring(1, 5), Client.STATE);
        Due.is("one that receives", client.bring(0, 5), Client.FINE);
        Due.is("the file", client.contents(1), "5");
    }

    private static void bringLowestBits() {
        Due.sentence("A byte comes by the data way of session s (of b the lowest 8 bits).");
        Client client = Client.adm();
        client.begin(0, "STOR f", 0, 255, 256, 511, -1, -256, -257, Integer.MAX_VALUE, Integer.MIN_VALUE, 0x12345678);
        Due.is("the bytes", client.contents(1), "0 255 0 255 255 0 255 255 0 120");
    }

    private static void takeWhereOneSends() {
        Due.sentence("NoSuchElementException: no transfer sends there.");
        Client client = Client.adm();
        client.keep(0, "f", 1, 2);
        Due.is("no data way", client.take(0), Client.ELEMENT);
        client.due(0, "PASV", "227;");
        Due.is("no transfer", client.take(0), Client.ELEMENT);
        client.due(0, "APPE f", "150;");
        Due.is("one that receives", client.take(0), Client.ELEMENT);
        Due.is("it receives on", client.bring(0, 3), Client.FINE);
        client.due(0, "ABOR", "426;226;");
        client.begin(0, "RETR f");
        Due.is("the other session", client.take(1), Client.ELEMENT);
        Due.is("one that sends", client.takeAll(0), "1 2 3");
        Due.is("behind its last byte", client.take(0), Client.ELEMENT);
    }

    private static void takeAllBytes() {
        Due.sentence("Takes the next byte (0 .. 255, as all that are answered) from the data way of session s.");
        Client client = Client.adm();
        client.keep(0, "f", 0, 127, 128, 255);
        client.begin(0, "RETR f");
        Due.is("taken", client.takeAll(0), "0 127 128 255");
        Due.is("content", client.contents(1), "0 127 128 255");
    }

    private static void nodeNumbers() {
        Due.sentence("NONE if it isn't there or what isn't 0 .. 3.");
        Client client = Client.adm();
        client.due(0, "MKD a", "257 /a;");
        int[] none = {-1, 2, 15, 16, 17, Integer.MIN_VALUE, Integer.MAX_VALUE};
        for (int n : none) {
            for (int what = -1; what <= 4; what++) {
                Due.is("node(" + n + ", " + what + ")", client.node(n, what), -1);
            }
        }
        Due.is("node(1, 3)", client.node(1, 3), 97);
    }

    private static void nodeWhat() {
        Due.sentence("Of node n: what 0 the directory it is in (NONE for the root), 1 whether it is a file, 1 or 0,");
        Client client = Client.adm();
        client.due(0, "MKD a", "257 /a;");
        client.keep(0, "a/f", 5, 6, 7);
        client.keep(0, "a/g");
        int[][] want = {{-1, 0, 1, 0}, {0, 0, 2, 97}, {1, 1, 3, 102}, {1, 1, 0, 103}};
        for (int n = 0; n < want.length; n++) {
            for (int what = 0; what < 4; what++) {
                Due.is("node(" + n + ", " + what + ")", client.node(n, what), want[n][what]);
            }
            int[] wrong = {-1, 4, 5, Integer.MIN_VALUE, Integer.MAX_VALUE};
            for (int what : wrong) {
                Due.is("node(" + n + ", " + what + ")", client.node(n, what), -1);
            }
        }
        client.due(0, "MKD a/b", "257 /a/b;");
        Due.is("nodes in a directory, not those further down", client.node(0, 2), 1);
        Due.is("in a", client.node(1, 2), 3);
    }

    private static void nodeNames() {
        Due.sentence("3 its name as a number: the first character, and the second one times 128, and the third one times 16384");
        Client client = Client.adm();
        Due.is("lines", client.talk(0, "MKD 0", "MKD z", "MKD 0z", "MKD zzz", "MKD 000", "MKD ab1"),
            "257 /0;257 /z;257 /0z;257 /zzz;257 /000;257 /ab1;");
        int[] want = {0, 48, 122, 48 + 122 * 128, 122 + 122 * 128 + 122 * 16384, 48 + 48 * 128 + 48 * 16384,
            97 + 98 * 128 + 49 * 16384};
        for (int n = 0; n < want.length; n++) {
            Due.is("node(" + n + ", 3)", client.node(n, 3), want[n]);
        }
    }

    private static void contentPlaces() {
        Due.sentence("Byte k (from 0) of a file; NONE if there is none.");
        Client client = Client.adm();
        client.due(0, "MKD a", "257 /a;");
        client.keep(0, "f", 5, 0, 255);
        int[] places = {-1, 0, 1, 2, 3, 23, 24, Integer.MIN_VALUE, Integer.MAX_VALUE};
        int[] want = {-1, 5, 0, 255, -1, -1, -1, -1, -1};
        for (int i = 0; i < places.length; i++) {
            Due.is("byte " + places[i], client.content(2, places[i]), want[i]);
        }
        int[] noFiles = {-1, 0, 1, 3, 15, 16, Integer.MIN_VALUE, Integer.MAX_VALUE};
        for (int n : noFiles) {
            Due.is("content(" + n + ", 0)", client.content(n, 0), -1);
        }
        client.begin(0, "STOR f", 9);
        Due.is("a byte that is gone", client.content(2, 1), -1);
        Due.is("the one that came", client.content(2, 0), 9);
    }

    private static void waitings() {
        Due.sentence("How many reply bytes wait in session s; NONE if there is no such session.");
        Client client = new Client();
        Due.is("none", client.waiting(0), 0);
        client.say(0, "NOOP");
        Due.is("of one reply", client.waiting(0), 5);
        Due.is("of the other session", client.waiting(1), 0);
        client.reply(0);
        Due.is("one was taken", client.waiting(0), 4);
        client.reply(1);
        Due.is("one of the other session", client.waiting(0), 4);
        Due.is("no such session", client.waiting(-1), -1);
        Due.is("no such session", client.waiting(2), -1);
    }

    private static void currents() {
        Due.sentence("The node that is CURRENT for session s; NONE if nobody is logged in there, or there is no such session.");
        Client client = Client.adm();
        Due.is("lines", client.talk(0, "MKD a", "CWD a"), "257 /a;250;");
        Due.is("session 0", client.current(0), 1);
        Due.is("session 1", client.current(1), -1);
        client.due(0, "USER adm", "331;");
        Due.is("behind USER", client.current(0), -1);
        client.due(0, "PASS no", "530;");
        Due.is("behind a wrong PASS", client.current(0), -1);
    }

    private static void runnings() {
        Due.sentence("What runs in session s: 0 nothing, 1 a transfer that sends, 2 one that receives; NONE if there is no such");
        Client client = Client.adm();
        client.keep(0, "f", 1);
        Due.is("nothing", client.running(0), 0);
        client.due(0, "PASV", "227;");
        Due.is("an open way is nothing", client.running(0), 0);
        client.due(0, "NLST", "150;");
        Due.is("names", client.running(0), 1);
        client.due(0, "ABOR", "426;226;");
        client.begin(0, "RETR f");
        Due.is("bytes", client.running(0), 1);
        client.due(0, "ABOR", "426;226;");
        client.begin(0, "APPE f");
        Due.is("one that receives", client.running(0), 2);
        Due.is("the other session", client.running(1), 0);
    }

    private static void fillCounts() {
        Due.sentence("Shelf k gets n bytes: the lowest 8 bits of seed, of seed + step, and so on.");
        Client client = new Client();
        for (int k = 0; k < 3; k++) {
            Due.is("24", client.fill(k, 24, k, 1), true);
            Due.is("the last", client.shelf(k, 23), 23 + k);
            Due.is("1", client.fill(k, 1, 7, 5), true);
            Due.is("the bytes", client.onShelf(k), "7");
        }
        Due.is("0", client.fill(1, 0, 7, 5), true);
        Due.is("no bytes", client.onShelf(1), "");
        Due.is("another shelf", client.onShelf(0), "7");
    }

    private static void fillWrapsAround() {
        Due.sentence("the lowest 8 bits of seed, of seed + step, and so on.");
        Client client = new Client();
        client.fill(0, 4, 254, 1);
        Due.is("past 255", client.onShelf(0), "254 255 0 1");
        client.fill(0, 4, 1, -1);
        Due.is("past 0", client.onShelf(0), "1 0 255 254");
        client.fill(0, 3, 5, 256);
        Due.is("by 256", client.onShelf(0), "5 5 5");
        client.fill(0, 3, -1, 0);
        Due.is("of -1", client.onShelf(0), "255 255 255");
        client.fill(0, 4, Integer.MAX_VALUE, 1);
        Due.is("past the largest number", client.onShelf(0), "255 0 1 2");
        client.fill(0, 3, Integer.MIN_VALUE, -1);
        Due.is("past the smallest number", client.onShelf(0), "0 255 254");
        client.fill(0, 24, 3, Integer.MAX_VALUE);
        Due.is("by the largest number", client.shelf(0, 23), (3 - 23) & 255);
        client.fill(0, 24, 3, Integer.MIN_VALUE + 7);
        Due.is("by a small number", client.shelf(0, 23), (3 + 23 * 7) & 255);
    }

    private static void fillRefused() {
        Due.sentence("False, and nothing happens, if there is no such shelf, n isn't 0 .. 24, or a job is on.");
        Client client = new Client();
        client.fill(0, 2, 5, 1);
        client.fill(2, 1, 9, 1);
        int[][] wrong = {{-1, 1}, {3, 1}, {Integer.MIN_VALUE, 1}, {Integer.MAX_VALUE, 1}, {0, -1}, {0, 25}, {2, 25}, {2, -1},
            {0, Integer.MIN_VALUE}, {0, Integer.MAX_VALUE}, {3, 25}};
        for (int[] row : wrong) {
            Due.is("fill(" + row[0] + ", " + row[1] + ")", client.fill(row[0], row[1], 1, 1), false);
        }
        Due.is("shelf 0", client.onShelf(0), "5 6");
        Due.is("shelf 1", client.onShelf(1), "");
        Due.is("shelf 2", client.onShelf(2), "9");
    }

    private static void fillWithAJobOn() {
        Due.sentence("False, and nothing happens, if there is no such shelf, n isn't 0 .. 24, or a job is on.");
        Client client = new Client();
        client.fill(0, 1, 5, 1);
        client.job(true, 0, F, 0);
        String[] answers = {"1", "2", "2", "3"};
        for (String answer : answers) {
            Due.is("of the job", client.fill(0, 2, 1, 1), false);
            Due.is("of another shelf", client.fill(1, 2, 1, 1), false);
            Due.is("step", client.step(), answer);
        }
        Due.is("before the last step", client.fill(0, 2, 1, 1), false);
        Due.is("the shelf", client.onShelf(0), "5");
        Due.is("step", client.step(), "4");
        Due.is("behind a job that is done", client.fill(0, 2, 1, 1), true);
        client.job(false, 0, Client.name("q"), 0);
        Due.is("steps", client.steps(2), "1 5");
        Due.is("behind one that failed", client.fill(0, 2, 3, 1), true);
        Due.is("the shelf", client.onShelf(0), "3 4");
    }

    private static void shelfPlaces() {
        Due.sentence("Byte i of shelf k; with i -1 how many it has; NONE if there is none.");
        Client client = new Client();
        client.fill(1, 24, 0, 255);
        client.fill(2, 2, 200, 100);
        int[] places = {-1, 0, 1, 22, 23, 24, 25, -2, Integer.MIN_VALUE, Integer.MAX_VALUE};
        int[] wantFull = {24, 0, 255, 234, 233, -1, -1, -1, -1, -1};
        int[] wantTwo = {2, 200, 44, -1, -1, -1, -1, -1, -1, -1};
        int[] wantNone = {0, -1, -1, -1, -1, -1, -1, -1, -1, -1};
        for (int i = 0; i < places.length; i++) {
            Due.is("shelf(1, " + places[i] + ")", client.shelf(1, places[i]), wantFull[i]);
            Due.is("shelf(2, " + places[i] + ")", client.shelf(2, places[i]), wantTwo[i]);
            Due.is("shelf(0, " + places[i] + ")", client.shelf(0, places[i]), wantNone[i]);
            Due.is("shelf(-1, " + places[i] + ")", client.shelf(-1, places[i]), -1);
            Due.is("shelf(3, " + places[i] + ")", client.shelf(3, places[i]), -1);
            Due.is("the largest shelf", client.shelf(Integer.MAX_VALUE, places[i]), -1);
            Due.is("the smallest shelf", client.shelf(Integer.MIN_VALUE, places[i]), -1);
        }
    }

    private static String job(int k, int name, int tries) {
        Client client = new Client();
        String answer = client.job(tries % 2 == 0, k, name, tries);
        Due.is("a job is on behind " + answer, client.step(), answer.equals(Client.FINE) ? "1" : Client.STATE);
        return answer;
    }

    private static void jobShelves() {
        Due.sentence("IllegalArgumentException: there is no such shelf, that is no name, or tmp, or tries isn't 0 .. 9.");
        for (int k = 0; k < 3; k++) {
            Due.is("shelf " + k, job(k, F, 0), Client.FINE);
        }
        int[] none = {-1, 3, 4, Integer.MIN_VALUE, Integer.MAX_VALUE};
        for (int k : none) {
            Due.is("shelf " + k, job(k, F, 0), Client.ARGUMENT);
        }
    }

    private static boolean isNameByte(int b) {
        return b >= 'a' && b <= 'z' || b >= '0' && b <= '9';
    }

    private static void jobNames() {
        Due.sentence("IllegalArgumentException: there is no such shelf, that is no name, or tmp, or tries isn't 0 .. 9.");
        for (int b = 0; b < 128; b++) {
            String want = isNameByte(b) ? Client.FINE : Client.ARGUMENT;
            Due.is("first " + b, job(0, b, 0), want);
            Due.is("second " + b, job(0, 'x' + b * 128, 0), b == 0 ? Client.FINE : want);
            Due.is("third " + b, job(0, 'x' + 'y' * 128 + b * 16384, 0), b == 0 ? Client.FINE : want);
            Due.is("third without a second " + b, job(0, 'x' + b * 16384, 0), b == 0 ? Client.FINE : Client.ARGUMENT);
            Due.is("second without a first " + b, job(0, b * 128, 0), Client.ARGUMENT);
            Due.is("a fourth behind the first " + b, job(0, b + 128 * 16384, 0), Client.ARGUMENT);
        }
        int xyz = Client.name("xyz");
        int[] none = {0, -1, -F, -xyz, xyz + 128 * 16384, xyz | Integer.MIN_VALUE, xyz + 97 * 128 * 16384,
            Integer.MIN_VALUE, Integer.MAX_VALUE, Client.name("tmp")};
        for (int name : none) {
            Due.is("name " + name, job(0, name, 0), Client.ARGUMENT);
        }
        String[] names = {"tm", "mp", "tmq", "tmo", "sm", "ump", "tnp", "t", "pmt", "zzz", "999"};
        for (String name : names) {
            Due.is(name, job(0, Client.name(name), 0), Client.FINE);
        }
    }

    private static void jobTries() {
        Due.sentence("IllegalArgumentException: there is no such shelf, that is no name, or tmp, or tries isn't 0 .. 9.");
        for (int tries = 0; tries <= 9; tries++) {
            Due.is("tries " + tries, job(0, F, tries), Client.FINE);
        }
        int[] none = {-1, 10, 11, Integer.MIN_VALUE, Integer.MAX_VALUE};
        for (int tries : none) {
            Due.is("tries " + tries, job(0, F, tries), Client.ARGUMENT);
        }
    }

    private static void jobArgumentsBeforeState() {
        Due.sentence("IllegalStateException: else, if a job is on.");
        Client client = new Client();
        Due.is("job", client.job(true, 0, F, 0), Client.FINE);
        Due.is("another", client.job(true, 0, F, 0), Client.STATE);
        Due.is("no shelf", client.job(true, 3, F, 0), Client.ARGUMENT);
        Due.is("no name", client.job(true, 0, 0, 0), Client.ARGUMENT);
        Due.is("tmp", client.job(true, 0, Client.name("tmp"), 0), Client.ARGUMENT);
        Due.is("no tries", client.job(true, 0, F, 10), Client.ARGUMENT);
        Due.is("steps", client.steps(4), "1 2 3 4");
        Due.is("done", client.job(true, 0, F, 0), Client.FINE);
    }

    private static void jobCutsSessionOne() {
        Due.sentence("session 1 is cut (that costs no try).");
        Client client = Client.adm();
        client.keep(0, "f", 1);
        client.logIn(1, "any");
        client.begin(1, "RETR f");
        client.say(1, "NOOP");
        client.text(1, "FOO");
        client.say(0, "NOOP");
        Due.is("a refused job", client.job(true, 0, F, -1), Client.ARGUMENT);
        Due.is("cuts nothing", client.running(1), 1);
        Due.is("job", client.job(true, 0, F, 0), Client.FINE);
        Due.is("running", client.running(1), 0);
        Due.is("current", client.current(1), -1);
        Due.is("waiting", client.waiting(1), 0);
        Due.is("session 0", client.hear(0), "200;");
        Due.is("session 0", client.current(0), 0);
        Due.is("nobody reads f", client.ask(0, "DELE f"), "250;");
        Due.is("no try was lost, and FOO is gone", client.step(), "1");
        Due.is("its lines", client.hear(1), "331;230;200;227;");
        Due.is("another job", client.job(true, 0, F, 0), Client.STATE);
        Due.is("cuts nothing", client.current(1), 0);
    }

    private static void stepAnswers() {
        Due.sentence("(with these two no job is on any more; 5 also where no try was left)");
        Client client = new Client();
        client.job(true, 1, F, 0);
        Due.is("4 and no job", client.steps(5), "1 2 3 4 " + Client.STATE);
        client.job(false, 1, Client.name("g"), 0);
        Due.is("5 and no job", client.steps(3), "1 5 " + Client.STATE);
        client.job(false, 1, F, 0);
        client.cut(1);
        Due.is("no try", client.steps(2), "5 " + Client.STATE);
        client.job(false, 1, F, 0);
        Due.is("a job again", client.steps(4), "1 2 4 " + Client.STATE);
    }

    private static void stepWithoutJob() {
        Due.sentence("IllegalStateException: no job is on.");
        Client client = new Client();
        client.say(1, "NOOP");
        Due.is("a new object", client.step(), Client.STATE);
        Due.is("the replies stay", client.hear(1), "200;");
        client.job(false, 0, F, 0);
        Due.is("steps", client.steps(2), "1 5");
        Due.is("behind one that failed", client.step(), Client.STATE);
        Due.is("the replies stay", client.hear(1), "550;");
        client.job(true, 0, F, 0);
        Due.is("behind one that is done", client.steps(5), "1 2 3 4 " + Client.STATE);
        Due.is("the replies stay", client.hear(1), "550;350;250;");
    }

    private static void stepClearsReplies() {
        Due.sentence("The reply bytes of session 1 are gone before it, those that the step makes stay.");
        Client client = new Client();
        client.job(true, 0, F, 0);
        for (int i = 0; i < 40; i++) {
            client.say(1, "");
        }
        client.say(0, "NOOP");
        Due.is("full", client.waiting(1), 200);
        Due.is("step 0", client.step(), "1");
        Due.is("waiting", client.waiting(1), 20);
        Due.is("step 1", client.step(), "2");
        Due.is("waiting", client.waiting(1), 15);
        Due.is("step 2", client.step(), "3");
        Due.is("waiting", client.waiting(1), 5);
        client.say(1, "NOOP");
        Due.is("step 3", client.step(), "4");
        Due.is("waiting", client.hear(1), "550;350;250;");
        Due.is("session 0", client.hear(0), "200;");
    }
}
