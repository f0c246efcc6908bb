/** Promises 16 and 17: job and step. */
public final class CopierTest {
    private static final int F = Client.name("f");

    public static void main(String[] args) {
        jobArguments();
        jobCutsSessionOne();
        stepWithoutJob();
        fetch();
        fetchWithWhatIsThere();
        fetchFails();
        fetchOfAnotherTransfer();
        bring();
        bringOverAFile();
        bringWithWhatIsThere();
        bringFails();
        bringInTypeA();
        putInPlaceFails();
        tries();
        noTryLeft();
        quitIsNoCut();
        linesComeBehindWhatWasFed();
        repliesOfAStep();
        Due.end();
    }

    private static void jobArguments() {
        Client client = new Client();
        int[] noNames = {0, -1, 1, 'A', '/', ':', '`', '{', 97 * 128, 97 * 16384, 97 + 97 * 16384, 97 + 46 * 128,
            97 + 128 * 128 * 128, Integer.MAX_VALUE, Integer.MIN_VALUE, -97, Client.name("tmp")};
        for (int name : noNames) {
            Due.is("job of name " + name, client.job(true, 0, name, 1), Client.ARGUMENT);
        }
        int[] noShelves = {-1, 3, Integer.MAX_VALUE, Integer.MIN_VALUE};
        for (int k : noShelves) {
            Due.is("job of shelf " + k, client.job(false, k, F, 1), Client.ARGUMENT);
        }
        int[] noTries = {-1, 10, Integer.MAX_VALUE, Integer.MIN_VALUE};
        for (int tries : noTries) {
            Due.is("job of tries " + tries, client.job(false, 0, F, tries), Client.ARGUMENT);
        }
        Due.is("no job is on", client.step(), Client.STATE);
        Due.is("job", client.job(false, 2, Client.name("tm"), 9), Client.FINE);
        Due.is("another job", client.job(false, 2, F, 9), Client.STATE);
        Due.is("a wrong one while a job is on", client.job(false, 3, F, 9), Client.ARGUMENT);
        Due.is("a wrong name while a job is on", client.job(false, 0, 0, 9), Client.ARGUMENT);
        String[] names = {"a", "z", "0", "9", "z9", "abc", "09z", "tmq", "umq"};
        for (String name : names) {
            Due.is("job of " + name, new Client().job(true, 0, Client.name(name), 0), Client.FINE);
        }
    }

    private static void jobCutsSessionOne() {
        Client client = Client.adm();
        client.logIn(1, "adm");
        client.begin(1, "STOR f", 1);
        client.say(1, "NOOP");
        client.text(1, "FOO");
        Due.is("a wrong job", client.job(true, 0, 0, 0), Client.ARGUMENT);
        Due.is("it cuts nothing", client.running(1), 2);
        Due.is("job", client.job(true, 0, F, 0), Client.FINE);
        Due.is("running", client.running(1), 0);
        Due.is("current", client.current(1), -1);
        Due.is("waiting", client.waiting(1), 0);
        Due.is("session 0", client.current(0), 0);
        Due.is("the cut costs no try", client.step(), "1");
        Due.is("current", client.current(1), 0);
        Due.is("another job", client.job(true, 0, F, 0), Client.STATE);
        Due.is("it cuts nothing", client.current(1), 0);
    }

    private static void stepWithoutJob() {
        Client client = new Client();
        client.say(1, "NOOP");
        Due.is("step", client.step(), Client.STATE);
        Due.is("the replies stay", client.hear(1), "200;");
    }

    private static void fetch() {
        Client client = Client.adm();
        client.keep(0, "f", 13, 10, 255);
        Due.is("job", client.job(false, 1, F, 0), Client.FINE);
        Due.is("step 0", client.step(), "1");
        Due.is("its lines", client.hear(1), "331;230;200;227;");
        Due.is("step 1", client.step(), "2");
        Due.is("its lines", client.hear(1), "213 3;350;150;");
        Due.is("a byte", client.step(), "2");
        Due.is("the shelf", client.onShelf(1), "13");
        Due.is("the bytes", client.steps(2), "2 2");
        Due.is("the end of the transfer", client.hear(1), "226;");
        Due.is("the end of the job", client.steps(2), "4 " + Client.STATE);
        Due.is("the shelf", client.onShelf(1), "13 10 255");
        Due.is("still logged in", client.current(1), 0);
        Due.is("a job again", client.job(false, 1, F, 0), Client.FINE);
    }

    private static void fetchWithWhatIsThere() {
        Client client = Client.adm();
        client.keep(0, "f", 1, 2, 3);
        client.fill(0, 2, 8, 1);
        client.job(false, 0, F, 0);
        Due.is("from the third byte on", client.steps(4), "1 2 2 4");
        Due.is("the shelf", client.onShelf(0), "8 9 3");
        client.job(false, 0, F, 0);
        Due.is("nothing is left to fetch", client.steps(3), "1 2 4");
        client.fill(0, 4, 8, 1);
        client.job(false, 0, F, 0);
        Due.is("too many bytes", client.steps(2), "1 2");
        Due.is("the shelf is emptied", client.onShelf(0), "");
        Due.is("all is fetched", client.steps(4), "2 2 2 4");
        client.due(0, "DELE f", "250;");
        client.keep(0, "f");
        client.job(false, 0, F, 0);
        Due.is("an empty file", client.steps(3), "1 2 4");
        Due.is("the shelf", client.onShelf(0), "");
        client.keep(0, "f", 1, 2, 3, 4, 5, 6, 7, 8, 9, 10, 11, 12);
        client.fill(0, 11, 0, 1);
        client.job(false, 0, F, 0);
        Due.is("REST in two digits", client.steps(4), "1 2 2 4");
        Due.is("the last byte", client.shelf(0, 11), 12);
    }

    private static void fetchFails() {
        Client client = Client.adm();
        client.fill(0, 2, 1, 1);
        client.job(false, 0, F, 3);
        Due.is("no such file", client.steps(3), "1 5 " + Client.STATE);
        Due.is("no REST behind it", client.waiting(1), 5);
        client.due(0, "MKD f", "257 /f;");
        client.job(false, 0, F, 3);
        Due.is("a directory", client.steps(2), "1 5");
        client.due(0, "RMD f", "250;");
        client.begin(0, "STOR f", 1, 2, 3);
        client.job(false, 0, F, 3);
        Due.is("a file that is being written", client.steps(2), "1 5");
        Due.is("the shelf", client.onShelf(0), "1 2");
        Due.is("close", client.close(0), Client.FINE);
        client.job(false, 0, F, 3);
        Due.is("steps", client.steps(2), "1 2");
        Due.is("the data way is closed", client.close(1), Client.FINE);
        Due.is("too few bytes", client.step(), "5");
    }

    private static void fetchOfAnotherTransfer() {
        Client client = Client.adm();
        client.keep(0, "f", 1, 2);
        client.job(false, 0, F, 0);
        Due.is("steps", client.steps(2), "1 2");
        client.say(1, "ABOR");
        client.say(1, "PASV");
        client.say(1, "NLST");
        Due.is("whatever is sent", client.steps(4), "2 2 2 5");
        Due.is("the shelf", client.onShelf(0), "102 13 10");
        client.fill(0, 2, 7, 0);
        client.job(false, 0, F, 0);
        Due.is("steps", client.steps(2), "1 2");
        client.say(1, "PASV");
        client.say(1, "STOR g");
        Due.is("one that receives sends nothing", client.step(), "4");
        client.cut(1);
        int[] bytes = new int[24];
        client.keep(0, "f", bytes);
        client.fill(0, 23, 7, 0);
        client.job(false, 0, F, 0);
        Due.is("steps", client.steps(2), "1 2");
        client.say(1, "ABOR");
        client.say(1, "PASV");
        client.say(1, "NLST");
        Due.is("a full shelf drops", client.steps(7), "2 2 2 2 2 2 4");
        Due.is("how many", client.shelf(0, -1), 24);
        Due.is("the last byte", client.shelf(0, 23), 102);
    }

    private static void bring() {
        Client client = Client.adm();
        client.fill(2, 3, 255, 255);
        Due.is("job", client.job(true, 2, Client.name("abc"), 0), Client.FINE);
        Due.is("step 0", client.step(), "1");
        Due.is("its lines", client.hear(1), "331;230;200;227;");
        Due.is("step 1", client.step(), "2");
        Due.is("its lines", client.hear(1), "550;350;150;");
        Due.is("tmp", client.node(1, 3), Client.name("tmp"));
        Due.is("the bytes", client.steps(3), "2 2 2");
        Due.is("no answers", client.hear(1), "");
        Due.is("the data way is closed", client.step(), "3");
        Due.is("its answer", client.hear(1), "226;");
        Due.is("the name", client.steps(2), "4 " + Client.STATE);
        Due.is("its lines", client.hear(1), "550;350;250;");
        Due.is("the file's name", client.node(1, 3), Client.name("abc"));
        Due.is("the file", client.contents(1), "255 254 253");
        client.crash();
        Due.is("it is safe", client.node(1, 2), 3);
        client.job(true, 0, F, 0);
        Due.is("an empty shelf", client.steps(4), "1 2 3 4");
        Due.is("an empty file", client.node(2, 2), 0);
    }

    private static void bringOverAFile() {
        Client client = Client.adm();
        client.keep(0, "f", 9, 9, 9);
        client.fill(0, 1, 5, 0);
        client.job(true, 0, F, 0);
        Due.is("steps", client.steps(4), "1 2 2 3");
        Due.is("f before the last step", client.contents(1), "9 9 9");
        Due.is("step 3", client.step(), "4");
        Due.is("its lines", client.hear(1), "250;350;250;");
        Due.is("the old file is gone", client.node(1, 1), -1);
        Due.is("the new one", client.contents(2), "5");
        Due.is("its name", client.node(2, 3), F);
    }

    private static void bringWithWhatIsThere() {
        Client client = Client.adm();
        client.keep(0, "tmp", 7, 8);
        client.fill(0, 3, 1, 1);
        client.job(true, 0, F, 0);
        Due.is("steps", client.steps(5), "1 2 2 3 4");
        Due.is("the first bytes are those of tmp", client.contents(1), "7 8 3");
        client.keep(0, "tmp", 7, 8, 9, 10);
        client.job(true, 0, F, 0);
        Due.is("step 0", client.step(), "1");
        Due.is("step 1", client.step(), "2");
        Due.is("its lines", client.hear(1), "213 4;250;350;150;");
        Due.is("steps", client.steps(5), "2 2 2 3 4");
        Due.is("all from the shelf", client.contents(2), "1 2 3");
    }

    private static void bringFails() {
        Client client = Client.adm();
        client.due(0, "MKD tmp", "257 /tmp;");
        client.fill(0, 2, 1, 1);
        client.job(true, 0, F, 3);
        Due.is("tmp is a directory", client.steps(3), "1 5 " + Client.STATE);
        client.due(0, "RMD tmp", "250;");
        client.keep(0, "tmp", 1, 2, 3);
        client.begin(0, "RETR tmp");
        client.job(true, 0, F, 3);
        Due.is("step 0", client.step(), "1");
        Due.is("tmp is being read", client.step(), "5");
        Due.is("its lines", client.hear(1), "213 3;450;350;450;");
        client.due(0, "ABOR", "426;226;");
        client.job(true, 0, F, 3);
        Due.is("steps", client.steps(3), "1 2 2");
        client.say(1, "ABOR");
        Due.is("no transfer receives", client.step(), "5");
        client.job(true, 0, F, 3);
        Due.is("steps", client.steps(2), "1 2");
        client.say(1, "ABOR");
        client.say(1, "PASV");
        client.say(1, "RETR tmp");
        Due.is("one sends", client.running(1), 1);
        Due.is("it receives nothing", client.step(), "5");
    }

    private static void bringInTypeA() {
        Client client = new Client();
        client.fill(0, 2, 13, -3);
        client.job(true, 0, F, 0);
        Due.is("step 0", client.step(), "1");
        client.say(1, "TYPE A");
        Due.is("steps", client.steps(3), "2 2 2");
        Due.is("the first 13 counts behind the second", client.contents(1), "13");
        Due.is("steps", client.steps(2), "2 3");
        Due.is("13 and 10", client.contents(1), "13 10");
    }

    private static void putInPlaceFails() {
        Client client = Client.adm();
        client.due(0, "MKD f", "257 /f;");
        client.job(true, 0, F, 3);
        Due.is("the name is a directory's", client.steps(5), "1 2 3 5 " + Client.STATE);
        Due.is("tmp stays", client.node(2, 3), Client.name("tmp"));
        client.due(0, "RMD f", "250;");
        client.keep(0, "f", 1);
        client.begin(0, "RETR f");
        client.job(true, 0, F, 3);
        Due.is("the name is being read", client.steps(4), "1 2 3 5");
        client.due(0, "ABOR", "426;226;");
        client.job(true, 0, F, 3);
        Due.is("steps", client.steps(3), "1 2 3");
        client.due(0, "DELE tmp", "250;");
        Due.is("tmp is gone", client.step(), "5");
    }

    private static void tries() {
        Client client = Client.adm();
        client.keep(0, "f", 1, 2, 3, 4, 5);
        client.job(false, 0, F, 2);
        Due.is("steps", client.steps(4), "1 2 2 2");
        client.cut(1);
        Due.is("the shelf stays", client.onShelf(0), "1 2");
        Due.is("begins with step 0", client.step(), "1");
        client.cut(0);
        Due.is("session 0 costs no try", client.steps(2), "2 2");
        client.crash();
        Due.is("the last try", client.steps(5), "1 2 2 2 4");
        Due.is("the shelf", client.onShelf(0), "1 2 3 4 5");
        client.cut(1);
        client.fill(0, 6, 1, 1);
        client.job(true, 0, Client.name("g"), 1);
        Due.is("steps", client.steps(7), "1 2 2 2 2 2 2");
        client.crash();
        Due.is("what was safe of tmp", client.contents(2), "1 2 3 4");
        Due.is("goes on there", client.steps(6), "1 2 2 2 3 4");
        Due.is("the file", client.contents(2), "1 2 3 4 5 6");
    }

    private static void noTryLeft() {
        Client client = Client.adm();
        client.keep(0, "f", 1);
        client.job(false, 0, F, 0);
        client.crash();
        Due.is("lost before its first step", client.steps(2), "5 " + Client.STATE);
        client.job(false, 0, F, 1);
        client.cut(1);
        client.cut(1);
        client.cut(1);
        client.logIn(1, "adm");
        client.say(1, "NOOP");
        Due.is("lost", client.step(), "5");
        Due.is("the replies are gone", client.waiting(1), 0);
        Due.is("the session is as it was", client.current(1), 0);
        client.job(false, 0, F, 0);
        Due.is("a new job isn't lost", client.steps(4), "1 2 2 4");
        client.job(true, 0, F, 1);
        client.cut(1);
        Due.is("one try", client.step(), "1");
        client.crash();
        client.cut(1);
        Due.is("no try", client.step(), "5");
        client.cut(1);
        client.crash();
        client.job(true, 0, F, 0);
        Due.is("cuts without a job", client.step(), "1");
    }

    private static void quitIsNoCut() {
        Client client = Client.adm();
        client.keep(0, "f", 1, 2);
        client.job(false, 0, F, 0);
        Due.is("steps", client.steps(3), "1 2 2");
        client.say(1, "QUIT");
        Due.is("no transfer sends", client.step(), "5");
        client.job(false, 0, F, 0);
        Due.is("step 0", client.step(), "1");
        client.say(1, "QUIT");
        Due.is("nobody is logged in", client.step(), "5");
        Due.is("the answer to SIZE", client.hear(1), "530;");
    }

    private static void linesComeBehindWhatWasFed() {
        Client client = Client.adm();
        client.keep(0, "f", 1, 2);
        client.job(false, 0, F, 0);
        client.text(1, "NO");
        Due.is("step 0", client.step(), "1");
        Due.is("NOUSER adm", client.hear(1), "500;503;530;530;");
        Due.is("nobody is logged in", client.step(), "5");
        client.job(false, 0, F, 0);
        client.bytes(1, 'U', 255);
        Due.is("an order takes a letter", client.steps(5), "1 2 2 2 4");
        client.job(false, 0, F, 0);
        client.bytes(1, 'U', 255, 253);
        Due.is("step 0", client.step(), "1");
        Due.is("an order's answer", client.hear(1), "<255><252>U331;230;200;227;");
        client.bytes(1, 13);
        Due.is("a 13 is dropped", client.step(), "2");
    }

    private static void repliesOfAStep() {
        Client client = new Client();
        client.job(true, 0, F, 0);
        for (int i = 0; i < 45; i++) {
            client.say(1, "");
        }
        Due.is("waiting", client.waiting(1), 200);
        Due.is("step 0", client.step(), "1");
        Due.is("those of the step stay", client.hear(1), "331;230;200;227;");
        client.say(1, "NOOP");
        Due.is("step 1", client.step(), "2");
        Due.is("those before are gone", client.hear(1), "550;350;150;");
        client.say(0, "NOOP");
        Due.is("step 2", client.step(), "3");
        Due.is("session 0 keeps its own", client.hear(0), "200;");
    }
}
