/** The edges of the copier: its jobs, steps and tries. */
public final class CopierEdgesTest {
    private static final int F = Client.name("f");

    public static void main(String[] args) {
        linesBehindWhatWasFed();
        linesInATransfer();
        logInLines();
        fetchOfNoFile();
        fetchWithMoreOnTheShelf();
        fetchFromEachPlace();
        fetchRefused();
        fetchTakesAByte();
        fetchOfAnotherTransfer();
        fetchToAFullShelf();
        fetchEnds();
        bringWithoutTmp();
        bringWithTmp();
        bringToEachPlace();
        bringWithBusyTmp();
        bringRefused();
        bringWhenNoneReceives();
        bringAByte();
        bringToAnotherFile();
        bringAFullShelf();
        putInPlace();
        putInPlaceFails();
        putInPlaceInATransfer();
        stepsLeadOn();
        sessionBehindAJob();
        triesFromZeroToNine();
        cutAtEachStep();
        lostWhateverComes();
        whatCostsNoTry();
        tryGoesOn();
        Due.end();
    }

    private static Client withFile() {
        Client client = Client.adm();
        client.keep(0, "f", 1, 2, 3);
        return client;
    }

    private static Client fetching(int tries) {
        Client client = withFile();
        Due.is("job", client.job(false, 0, F, tries), Client.FINE);
        return client;
    }

    private static Client bringing(int count, int tries) {
        Client client = new Client();
        client.fill(0, count, 1, 1);
        Due.is("job", client.job(true, 0, F, tries), Client.FINE);
        return client;
    }

    private static void linesBehindWhatWasFed() {
        Due.sentence("It does all by session 1, by bytes of lines with 13 10, which come behind what was fed there,");
        Client client = fetching(0);
        client.text(1, "x".repeat(25));
        Due.is("step 0", client.step(), "1");
        Due.is("a line of 33 bytes", client.hear(1), "500;503;530;530;");
        client = fetching(0);
        client.text(1, "US");
        client.bytes(1, 255, 252);
        Due.is("step 0", client.step(), "1");
        Due.is("an order takes the U, USSER is none", client.hear(1), "500;503;530;530;");
        client = fetching(0);
        client.bytes(1, 13);
        Due.is("a 13 is dropped", client.steps(2), "1 2");
        client = fetching(0);
        client.bytes(1, 'N', 'O', 'O', 'P', 13, 10);
        Due.is("a whole line", client.steps(2), "1 2");
        client = fetching(0);
        Due.is("step 0", client.step(), "1");
        client.text(1, " ");
        Due.is("a space before SIZE", client.step(), "5");
        Due.is("its answer", client.hear(1), "500;");
        client = fetching(0);
        client.text(0, "x");
        Due.is("session 0 is none of its", client.steps(2), "1 2");
    }

    private static void linesInATransfer() {
        Due.sentence("It does all by session 1, by bytes of lines with 13 10, which come behind what was fed there,");
        Client client = fetching(0);
        client.say(1, "USER any");
        client.say(1, "PASS x");
        client.say(1, "PASV");
        client.say(1, "RETR f");
        Due.is("step 0", client.step(), "1");
        Due.is("a transfer runs", client.hear(1), "503;503;503;503;");
        Due.is("step 1", client.step(), "5");
        Due.is("SIZE has no 213", client.hear(1), "503;");
        Due.is("the transfer runs on", client.running(1), 1);
        client = bringing(2, 0);
        Due.is("step 0", client.step(), "1");
        client.say(1, "STOR g");
        Due.is("step 1", client.step(), "5");
        Due.is("SIZE, REST and STOR", client.hear(1), "503;503;503;");
    }

    private static void logInLines() {
        Due.sentence("0 it sends the lines USER adm, PASS key, TYPE I, PASV.");
        Client client = fetching(0);
        client.logIn(1, "any");
        Due.is("lines", client.talk(1, "TYPE A", "CWD /"), "200;250;");
        Due.is("step 0", client.step(), "1");
        Due.is("its lines", client.hear(1), "331;230;200;227;");
        Due.is("adm is logged in", client.ask(1, "MKD a"), "257 /a;");
        Due.is("the data way is open", client.close(1), Client.FINE);
        Due.is("step 1", client.step(), "5");
        Due.is("425 for RETR", client.hear(1), "213 3;350;425;");
    }

    private static void fetchOfNoFile() {
        Due.sentence("1 when FETCHING: SIZE /name; without 213 the job FAILED;");
        Client client = Client.adm();
        client.fill(0, 3, 1, 1);
        client.job(false, 0, F, 9);
        Due.is("nothing of that name", client.steps(3), "1 5 " + Client.STATE);
        Due.is("no line behind SIZE", client.hear(1), "550;");
        Due.is("the shelf stays", client.onShelf(0), "1 2 3");
        Due.is("lines", client.talk(0, "MKD f", "MKD a"), "257 /f;257 /a;");
        client.keep(0, "a/g", 1);
        client.job(false, 0, F, 9);
        Due.is("a directory of that name", client.steps(2), "1 5");
        client.job(false, 0, Client.name("g"), 9);
        Due.is("a file that isn't in the root", client.steps(2), "1 5");
    }

    private static void fetchWithMoreOnTheShelf() {
        Due.sentence("if the shelf has more bytes than that, it is emptied;");
        for (int count = 0; count <= 5; count++) {
            Client client = withFile();
            client.fill(0, count, 7, 0);
            client.fill(1, 5, 9, 0);
            client.job(false, 0, F, 0);
            Due.is("steps 0 and 1", client.steps(2), "1 2");
            int kept = count > 3 ? 0 : count;
            Due.is("its lines with " + count, client.hear(1), "213 3;350;150;" + (kept == 3 ? "226;" : ""));
            Due.is("of " + count, client.shelf(0, -1), kept);
            Due.is("another shelf", client.shelf(1, -1), 5);
            for (int i = kept; i < 3; i++) {
                Due.is("a byte", client.step(), "2");
                Due.is("byte " + i, client.shelf(0, i), i + 1);
            }
            Due.is("the end", client.step(), "4");
        }
        Client client = withFile();
        client.keep(0, "f", new int[24]);
        client.fill(0, 24, 7, 0);
        client.job(false, 0, F, 0);
        Due.is("24 of 24", client.steps(3), "1 2 4");
        client.keep(0, "f");
        client.fill(0, 1, 7, 0);
        client.job(false, 0, F, 0);
        Due.is("one more than none", client.steps(3), "1 2 4");
        Due.is("it is emptied", client.shelf(0, -1), 0);
    }

    private static void fetchFromEachPlace() {
        Due.sentence("then REST with the shelf's number of bytes, RETR /name.");
        int[] bytes = new int[24];
        for (int i = 0; i < 24; i++) {
            bytes[i] = i + 100;
        }
        for (int count = 0; count < 24; count++) {
            Client client = Client.adm();
            client.keep(0, "f", bytes);
            client.fill(0, count, 7, 0);
            client.job(false, 0, F, 0);
            Due.is("steps", client.steps(3), "1 2 2");
            Due.is("the byte at " + count, client.shelf(0, count), count + 100);
            StringBuilder rest = new StringBuilder();
            for (int i = count + 1; i < 24; i++) {
                rest.append(i + 100).append(' ');
            }
            Due.is("those behind it", client.takeAll(1), rest.toString().trim());
        }
    }

    private static void fetchRefused() {
        Due.sentence("Without 150 for RETR or STOR the job FAILED.");
        Client client = withFile();
        client.begin(0, "APPE f");
        client.fill(0, 4, 1, 1);
        client.job(false, 0, F, 9);
        Due.is("f is being written", client.steps(3), "1 5 " + Client.STATE);
        Due.is("its lines", client.hear(1), "213 3;350;450;");
        Due.is("the shelf was emptied before", client.onShelf(0), "");
        client.due(0, "ABOR", "426;226;");
        client.begin(0, "RETR f");
        client.job(false, 0, F, 9);
        Due.is("f is being read", client.steps(2), "1 2");
    }

    private static void fetchTakesAByte() {
        Due.sentence("2 when fetching: if a transfer sends, a byte is taken to the end of the shelf");
        Client client = fetching(0);
        Due.is("steps 0 and 1", client.steps(2), "1 2");
        Due.is("nothing yet", client.onShelf(0), "");
        Due.is("the first", client.step(), "2");
        Due.is("one byte a step", client.onShelf(0), "1");
        Due.is("another takes the second", client.take(1), "2");
        Due.is("the third", client.step(), "2");
        Due.is("what came", client.onShelf(0), "1 3");
        Due.is("too few", client.step(), "5");
    }

    private static void fetchOfAnotherTransfer() {
        Due.sentence("and the data way, by whatever transfer runs there.");
        Client client = withFile();
        client.keep(0, "g", 8, 9);
        client.job(false, 0, F, 0);
        Due.is("steps 0 and 1", client.steps(2), "1 2");
        Due.is("lines", client.talk(1, "ABOR", "PASV", "RETR g"), "213 3;350;150;426;226;227;150;");
        Due.is("two bytes of g", client.steps(3), "2 2 5");
        Due.is("the shelf", client.onShelf(0), "8 9");
        client = withFile();
        client.fill(0, 3, 5, 0);
        client.job(false, 0, F, 0);
        Due.is("steps 0 and 1", client.steps(2), "1 2");
        client.say(1, "PASV");
        client.say(1, "STOR g");
        Due.is("one that receives is none that sends", client.step(), "4");
        Due.is("it runs on", client.running(1), 2);
    }

    private static void fetchToAFullShelf() {
        Due.sentence("(one with 24 bytes drops it)");
        Client client = Client.adm();
        client.keep(0, "f", new int[24]);
        client.fill(0, 22, 7, 0);
        client.job(false, 0, F, 0);
        Due.is("steps 0 and 1", client.steps(2), "1 2");
        client.say(1, "ABOR");
        client.say(1, "PASV");
        client.say(1, "NLST");
        Due.is("three bytes come to 22", client.steps(3), "2 2 2");
        Due.is("24 stay", client.shelf(0, -1), 24);
        Due.is("the byte 24", client.shelf(0, 23), 13);
        Due.is("as many as SIZE said", client.step(), "4");
    }

    private static void fetchEnds() {
        Due.sentence("the job is DONE if the shelf has as many bytes as SIZE said, else FAILED.");
        Client client = fetching(9);
        Due.is("steps", client.steps(3), "1 2 2");
        client.say(1, "ABOR");
        Due.is("too few bytes", client.steps(2), "5 " + Client.STATE);
        client = fetching(9);
        Due.is("steps", client.steps(5), "1 2 2 2 2");
        client.say(0, "DELE f");
        Due.is("what SIZE said then", client.step(), "4");
        client = fetching(9);
        Due.is("steps", client.steps(4), "1 2 2 2");
        client.say(1, "ABOR");
        client.say(1, "PASV");
        client.say(1, "NLST");
        Due.is("too many bytes", client.steps(4), "2 2 2 5");
        client = Client.adm();
        client.keep(0, "f");
        client.job(false, 0, F, 0);
        Due.is("none of none", client.steps(3), "1 2 4");
    }

    private static void bringWithoutTmp() {
        Due.sentence("When BRINGING: SIZE /tmp (0 without 213;");
        Client client = bringing(2, 0);
        Due.is("step 0", client.step(), "1");
        client.hear(1);
        Due.is("step 1", client.step(), "2");
        Due.is("its lines", client.hear(1), "550;350;150;");
        Due.is("a new file", client.node(1, 3), Client.name("tmp"));
        Due.is("in the root", client.node(1, 0), 0);
        client = withFile();
        client.logIn(1, "adm");
        client.due(1, "SIZE f", "213 3;");
        client.fill(0, 5, 1, 1);
        client.job(true, 0, Client.name("g"), 0);
        Due.is("no 213 of before", client.steps(3), "1 2 2");
        Due.is("the first byte", client.contents(2), "1");
        client = bringing(2, 0);
        client.logIn(0, "adm");
        client.due(0, "MKD tmp", "257 /tmp;");
        Due.is("a directory", client.steps(2), "1 5");
        Due.is("its lines", client.hear(1), "550;350;550;");
    }

    private static void bringWithTmp() {
        Due.sentence("if it is above");
        for (int count = 0; count <= 5; count++) {
            Client client = Client.adm();
            client.keep(0, "tmp", 7, 8, 9);
            client.fill(0, count, 1, 1);
            client.job(true, 0, F, 0);
            Due.is("step 0", client.step(), "1");
            Due.is("step 1", client.step(), "2");
            Due.is("its lines with " + count, client.hear(1), count < 3 ? "213 3;250;350;150;" : "213 3;350;150;");
            Due.is("what stays of tmp with " + count, client.contents(1), count < 3 ? "" : "7 8 9");
            int steps = count < 3 ? count : count - 3;
            for (int i = 0; i < steps; i++) {
                Due.is("a byte", client.step(), "2");
            }
            Due.is("the end", client.steps(2), "3 4");
            Due.is("the file", client.node(1, 2), count);
        }
        Client client = Client.adm();
        client.keep(0, "tmp");
        client.job(true, 0, F, 0);
        Due.is("an empty tmp and an empty shelf", client.steps(4), "1 2 3 4");
    }

    private static void bringToEachPlace() {
        Due.sentence("REST with that, STOR /tmp.");
        for (int count = 0; count <= 24; count++) {
            Client client = Client.adm();
            client.keep(0, "tmp", new int[count]);
            client.fill(0, 24, 1, 1);
            client.job(true, 0, F, 0);
            Due.is("steps", client.steps(2), "1 2");
            Due.is("what stays of " + count, client.node(1, 2), count);
            Due.is("step", client.step(), count < 24 ? "2" : "3");
            Due.is("the byte at " + count, client.content(1, count), count < 24 ? count + 1 : -1);
        }
    }

    private static void bringWithBusyTmp() {
        Due.sentence("DELE /tmp, and 0); REST with that, STOR /tmp.");
        Client client = Client.adm();
        client.keep(0, "tmp", 7, 8, 9);
        client.begin(0, "RETR tmp");
        client.fill(0, 2, 1, 1);
        client.job(true, 0, F, 9);
        Due.is("steps", client.steps(3), "1 5 " + Client.STATE);
        Due.is("it can't be deleted", client.hear(1), "213 3;450;350;450;");
        client.due(0, "ABOR", "426;226;");
        client.begin(0, "STOR tmp", 5);
        client.job(true, 0, F, 9);
        Due.is("steps", client.steps(2), "1 5");
        Due.is("it is being written", client.hear(1), "213 1;350;450;");
        Due.is("tmp", client.contents(1), "5");
    }

    private static void bringRefused() {
        Due.sentence("Without 150 for RETR or STOR the job FAILED.");
        Client client = Client.adm();
        for (char letter = 'a'; letter <= 'o'; letter++) {
            client.say(0, "MKD " + letter + "x");
        }
        client.fill(0, 2, 1, 1);
        client.job(true, 0, F, 9);
        Due.is("no node is free", client.steps(3), "1 5 " + Client.STATE);
        Due.is("its lines", client.hear(1), "550;350;552;");
        client = bringing(2, 9);
        Due.is("step 0", client.step(), "1");
        Due.is("close", client.close(1), Client.FINE);
        Due.is("the data way isn't open", client.step(), "5");
        Due.is("its lines", client.hear(1), "550;350;425;");
        client = bringing(2, 9);
        Due.is("step 0", client.step(), "1");
        Due.is("another user", client.talk(1, "USER any", "PASS x"), "331;230;200;227;331;230;");
        Due.is("isn't adm", client.step(), "5");
        Due.is("its lines", client.hear(1), "550;350;550;");
    }

    private static void bringWhenNoneReceives() {
        Due.sentence("When bringing: FAILED if no transfer receives;");
        Client client = bringing(2, 9);
        Due.is("steps", client.steps(3), "1 2 2");
        Due.is("close", client.close(1), Client.FINE);
        Due.is("closed by the client", client.steps(2), "5 " + Client.STATE);
        Due.is("tmp stays", client.contents(1), "1");
        client = bringing(2, 9);
        Due.is("steps", client.steps(2), "1 2");
        client.say(1, "ABOR");
        client.say(1, "PASV");
        client.say(1, "NLST");
        Due.is("one sends", client.running(1), 1);
        Due.is("it receives nothing", client.step(), "5");
        client = bringing(2, 9);
        Due.is("steps", client.steps(3), "1 2 2");
        client.say(1, "ABOR");
        client.say(1, "PASV");
        client.say(1, "RETR tmp");
        Due.is("one sends the file itself", client.step(), "5");
        Due.is("tmp stays", client.contents(1), "1");
        client = bringing(0, 9);
        Due.is("steps", client.steps(2), "1 2");
        client.say(1, "ABOR");
        Due.is("also with nothing to bring", client.step(), "5");
    }

    private static void bringAByte() {
        Due.sentence("the shelf's byte at the place of the file's number of bytes is brought; else the data way is closed.");
        Client client = bringing(3, 0);
        Due.is("steps", client.steps(3), "1 2 2");
        Due.is("one byte a step", client.contents(1), "1");
        Due.is("another brings one", client.bring(1, 77), Client.FINE);
        Due.is("step", client.step(), "2");
        Due.is("the third of the shelf", client.contents(1), "1 77 3");
        Due.is("no answer yet", client.waiting(1), 0);
        Due.is("the end", client.step(), "3");
        Due.is("with 226", client.hear(1), "226;");
        client = bringing(1, 0);
        Due.is("steps", client.steps(2), "1 2");
        client.bring(1, 70);
        client.bring(1, 71);
        Due.is("more than the shelf has", client.steps(2), "3 4");
        Due.is("the file", client.contents(1), "70 71");
    }

    private static void bringToAnotherFile() {
        Due.sentence("and the data way, by whatever transfer runs there.");
        Client client = bringing(3, 0);
        client.logIn(0, "adm");
        client.keep(0, "g", 50);
        Due.is("steps", client.steps(2), "1 2");
        client.say(1, "ABOR");
        client.say(1, "PASV");
        client.say(1, "APPE g");
        Due.is("steps", client.steps(3), "2 2 3");
        Due.is("g", client.contents(1), "50 2 3");
        Due.is("tmp", client.contents(2), "");
        Due.is("tmp has the name then", client.step(), "4");
        Due.is("its name", client.node(2, 3), F);
    }

    private static void bringAFullShelf() {
        Due.sentence("each with at most 24 bytes (none at first).");
        Client client = bringing(24, 0);
        Due.is("steps", client.steps(2), "1 2");
        for (int i = 0; i < 24; i++) {
            Due.is("byte " + i, client.step(), "2");
        }
        Due.is("the end", client.steps(2), "3 4");
        Due.is("all 24", client.node(1, 2), 24);
        Due.is("the last", client.content(1, 23), 24);
        client.job(false, 1, F, 0);
        Due.is("steps", client.steps(2), "1 2");
        for (int i = 0; i < 24; i++) {
            Due.is("byte " + i, client.step(), "2");
        }
        Due.is("the end", client.step(), "4");
        Due.is("all 24", client.shelf(1, -1), 24);
        Due.is("the last", client.shelf(1, 23), 24);
    }

    private static void putInPlace() {
        Due.sentence("3 only when bringing: DELE /name, RNFR /tmp, RNTO /name: DONE if that was");
        Client client = bringing(1, 0);
        Due.is("steps", client.steps(4), "1 2 2 3");
        Due.is("the last", client.step(), "4");
        Due.is("nothing of that name before", client.hear(1), "550;350;250;");
        client.job(true, 0, F, 0);
        Due.is("steps", client.steps(4), "1 2 2 3");
        Due.is("the last", client.step(), "4");
        Due.is("a file of that name before", client.hear(1), "250;350;250;");
        Due.is("one file is left", client.node(0, 2), 1);
        Due.is("its name", client.node(2, 3), F);
        client.crash();
        Due.is("it is safe", client.contents(2), "1");
    }

    private static void putInPlaceFails() {
        Due.sentence("answered 250, else FAILED.");
        Client client = bringing(1, 9);
        client.logIn(0, "adm");
        client.due(0, "MKD f", "257 /f;");
        Due.is("steps", client.steps(6), "1 2 2 3 5 " + Client.STATE);
        Due.is("a directory of that name", client.hear(1), "550;350;550;");
        client.due(0, "RMD f", "250;");
        client.keep(0, "f", 5);
        client.begin(0, "RETR f");
        client.job(true, 0, F, 9);
        Due.is("steps", client.steps(4), "1 2 3 5");
        Due.is("the file of that name is read", client.hear(1), "450;350;550;");
        client.due(0, "ABOR", "426;226;");
        client.job(true, 0, F, 9);
        Due.is("steps", client.steps(3), "1 2 3");
        client.begin(0, "RETR tmp");
        Due.is("tmp is read", client.step(), "5");
        Due.is("its lines, with f gone", client.hear(1), "250;350;450;");
        client.due(0, "ABOR", "426;226;");
        client.job(true, 0, F, 9);
        Due.is("steps", client.steps(3), "1 2 3");
        client.due(0, "DELE tmp", "250;");
        Due.is("tmp is gone", client.step(), "5");
        Due.is("its lines", client.hear(1), "550;550;503;");
    }

    private static void putInPlaceInATransfer() {
        Due.sentence("answered 250, else FAILED.");
        Client client = bringing(1, 9);
        Due.is("steps", client.steps(4), "1 2 2 3");
        client.say(1, "PASV");
        client.say(1, "NLST");
        Due.is("a transfer runs", client.step(), "5");
        Due.is("its lines", client.hear(1), "503;503;503;");
        client = bringing(1, 9);
        Due.is("steps", client.steps(4), "1 2 2 3");
        client.say(1, "QUIT");
        Due.is("nobody is logged in", client.step(), "5");
        Due.is("its lines", client.hear(1), "530;530;530;");
        Due.is("tmp stays", client.node(1, 3), Client.name("tmp"));
    }

    private static void stepsLeadOn() {
        Due.sentence("Step 0 leads to 1, 1 to 2, 2 to 2 as long as a byte was moved, else (bringing) to 3.");
        Due.is("fetching", fetching(0).steps(7), "1 2 2 2 2 4 " + Client.STATE);
        Due.is("bringing", bringing(2, 0).steps(7), "1 2 2 2 3 4 " + Client.STATE);
        Client client = fetching(0);
        Due.is("also when nobody could log in", client.step(), "1");
        client = bringing(2, 0);
        client.text(1, "x");
        Due.is("also when nobody could log in", client.step(), "1");
        Due.is("then it fails", client.step(), "5");
    }

    private static void sessionBehindAJob() {
        Due.sentence("It does all by session 1,");
        Client client = fetching(0);
        Due.is("DONE", client.steps(6), "1 2 2 2 2 4");
        Due.is("adm is still logged in", client.talk(1, "PWD", "MKD a"), "257 /;257 /a;");
        client.job(true, 1, Client.name("a"), 0);
        Due.is("FAILED", client.steps(4), "1 2 3 5");
        Due.is("adm is still logged in", client.current(1), 0);
        Due.is("session 0 goes on", client.talk(0, "PWD"), "257 /;");
    }

    private static void triesFromZeroToNine() {
        Due.sentence("the next step is 0, with one try less, or, if none was left, the job is FAILED at its next step,");
        for (int tries = 0; tries <= 9; tries++) {
            Client client = fetching(tries);
            for (int i = 0; i < tries; i++) {
                if (i % 2 == 0) {
                    client.cut(1);
                } else {
                    client.crash();
                }
                Due.is("step 0 behind cut " + i + " of " + tries, client.step(), "1");
            }
            client.cut(1);
            Due.is("no try is left of " + tries, client.steps(2), "5 " + Client.STATE);
        }
        Client client = fetching(2);
        client.cut(1);
        client.crash();
        Due.is("two between steps", client.steps(3), "1 2 2");
        client.crash();
        Due.is("a third", client.step(), "5");
    }

    private static void cutAtEachStep() {
        Due.sentence("Each time session 1 is cut, or by a crash (a QUIT is none), the next step is 0,");
        for (int before = 0; before <= 4; before++) {
            Client client = bringing(2, 1);
            client.steps(before);
            client.cut(1);
            Due.is("cut behind " + before + " steps", client.step(), "1");
            Due.is("its lines", client.hear(1), "331;230;200;227;");
            client = bringing(2, 0);
            client.steps(before);
            client.crash();
            Due.is("crash behind " + before + " steps", client.step(), "5");
        }
        Client client = fetching(0);
        Due.is("steps", client.steps(5), "1 2 2 2 2");
        client.cut(1);
        Due.is("also when all was fetched", client.step(), "5");
        client = fetching(1);
        Due.is("steps", client.steps(6), "1 2 2 2 2 4");
        client.cut(1);
        Due.is("not when it is done", client.step(), Client.STATE);
    }

    private static void lostWhateverComes() {
        Due.sentence("the job is FAILED at its next step, whatever comes before that.");
        Client client = fetching(0);
        client.cut(1);
        Due.is("it is on", client.fill(0, 1, 1, 1), false);
        Due.is("it is on", client.job(false, 0, F, 9), Client.STATE);
        client.logIn(1, "adm");
        client.begin(1, "RETR f");
        client.say(1, "NOOP");
        Due.is("FAILED", client.step(), "5");
        Due.is("no line was sent, and no reply stays", client.waiting(1), 0);
        Due.is("no byte was taken", client.take(1), "1");
        Due.is("the shelf", client.onShelf(0), "");
        Due.is("it is on no more", client.step(), Client.STATE);
        Due.is("a job", client.job(false, 0, F, 0), Client.FINE);
        for (int more = 0; more < 4; more++) {
            for (int i = 0; i <= more; i++) {
                client.cut(1);
                client.crash();
            }
            Due.is("FAILED", client.steps(2), "5 " + Client.STATE);
            Due.is("a job", client.job(false, 0, F, more), Client.FINE);
        }
        client = fetching(0);
        client.cut(1);
        client.cut(1);
        client.crash();
        Due.is("FAILED", client.step(), "5");
    }

    private static void whatCostsNoTry() {
        Due.sentence("Each time session 1 is cut, or by a crash (a QUIT is none), the next step is 0,");
        Client client = fetching(0);
        Due.is("step 0", client.step(), "1");
        client.cut(0);
        client.cut(-1);
        client.cut(2);
        Due.is("another job", client.job(true, 1, F, 3), Client.STATE);
        Due.is("a wrong job", client.job(true, 3, F, 3), Client.ARGUMENT);
        Due.is("step 1", client.steps(2), "2 2");
        client.logIn(0, "adm");
        client.due(0, "QUIT", "221;");
        Due.is("step 2", client.step(), "2");
        client.say(1, "QUIT");
        Due.is("a QUIT is no cut", client.step(), "5");
        client = fetching(1);
        Due.is("step 0", client.step(), "1");
        client.say(1, "QUIT");
        Due.is("the next step isn't 0", client.step(), "5");
        Due.is("SIZE was sent", client.hear(1), "530;");
        client = new Client();
        client.cut(1);
        client.crash();
        client.fill(0, 1, 1, 1);
        client.job(true, 0, F, 0);
        Due.is("what was before the job", client.step(), "1");
    }

    private static void tryGoesOn() {
        Due.sentence("and goes on where it was cut off.");
        Client client = fetching(1);
        Due.is("steps", client.steps(4), "1 2 2 2");
        client.cut(1);
        Due.is("steps", client.steps(3), "1 2 2");
        Due.is("nothing twice", client.onShelf(0), "1 2 3");
        Due.is("the end", client.step(), "4");
        client = bringing(6, 2);
        Due.is("steps", client.steps(7), "1 2 2 2 2 2 2");
        client.cut(1);
        Due.is("tmp keeps five", client.contents(1), "1 2 3 4 5");
        Due.is("steps", client.steps(3), "1 2 2");
        client.crash();
        Due.is("tmp keeps four", client.contents(1), "1 2 3 4");
        Due.is("steps", client.steps(6), "1 2 2 2 3 4");
        Due.is("the file", client.contents(1), "1 2 3 4 5 6");
    }
}
