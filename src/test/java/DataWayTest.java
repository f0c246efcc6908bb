/** Promises 3, 4, 5 and 13: close, bring, take and running. */
public final class DataWayTest {
    public static void main(String[] args) {
        noSuchSession();
        notInThatState();
        closeEnds();
        bringTakesTheLowestBits();
        takeGivesByteAfterByte();
        runningTells();
        Due.end();
    }

    private static void noSuchSession() {
        Client client = Client.adm();
        int[] none = {-1, 2, Integer.MIN_VALUE, Integer.MAX_VALUE};
        for (int s : none) {
            Due.is("close", client.close(s), Client.ARGUMENT);
            Due.is("bring", client.bring(s, 1), Client.ARGUMENT);
            Due.is("take", client.take(s), Client.ARGUMENT);
            Due.is("running", client.running(s), -1);
        }
    }

    private static void notInThatState() {
        Client client = Client.adm();
        client.keep(0, "f", 1, 2);
        Due.is("close", client.close(0), Client.STATE);
        Due.is("bring", client.bring(0, 1), Client.STATE);
        Due.is("take", client.take(0), Client.ELEMENT);
        client.due(0, "PASV", "227;");
        Due.is("bring before a transfer", client.bring(0, 1), Client.STATE);
        Due.is("take before a transfer", client.take(0), Client.ELEMENT);
        client.due(0, "RETR f", "150;");
        Due.is("bring to one that sends", client.bring(0, 1), Client.STATE);
        Due.is("the other session's bring", client.bring(1, 1), Client.STATE);
        Due.is("the other session's take", client.take(1), Client.ELEMENT);
        Due.is("the other session's close", client.close(1), Client.STATE);
        client.due(0, "ABOR", "426;226;");
        client.begin(0, "APPE f");
        Due.is("take from one that receives", client.take(0), Client.ELEMENT);
        Due.is("the file", client.contents(1), "1 2");
    }

    private static void closeEnds() {
        Client client = Client.adm();
        client.due(0, "PASV", "227;");
        Due.is("close without a transfer", client.close(0), Client.FINE);
        Due.is("its answer", client.hear(0), "");
        Due.is("again", client.close(0), Client.STATE);
        client.begin(0, "STOR f", 1, 2);
        Due.is("close of one that receives", client.close(0), Client.FINE);
        Due.is("its answer", client.hear(0), "226;");
        Due.is("running", client.running(0), 0);
        Due.is("again", client.close(0), Client.STATE);
        client.begin(0, "RETR f");
        Due.is("take", client.take(0), "1");
        Due.is("close of one that sends", client.close(0), Client.FINE);
        Due.is("its answer", client.hear(0), "426;");
        Due.is("running", client.running(0), 0);
        Due.is("take behind it", client.take(0), Client.ELEMENT);
        client.due(0, "DELE f", "250;");
        client.begin(0, "STOR f", 1);
        Due.is("close", client.close(0), Client.FINE);
        client.due(0, "DELE f", "226;250;");
    }

    private static void bringTakesTheLowestBits() {
        Client client = Client.adm();
        client.begin(0, "STOR f", 300, -1, 256, 255, 0, Integer.MAX_VALUE, Integer.MIN_VALUE);
        Due.is("the bytes", client.contents(1), "44 255 0 255 0 255 0");
        Due.is("no answer to a byte", client.waiting(0), 0);
    }

    private static void takeGivesByteAfterByte() {
        Client client = Client.adm();
        client.keep(0, "f", 255, 128, 0);
        client.begin(0, "RETR f");
        Due.is("the first", client.take(0), "255");
        Due.is("the second", client.take(0), "128");
        Due.is("no answer yet", client.waiting(0), 0);
        Due.is("it runs", client.running(0), 1);
        Due.is("the third", client.take(0), "0");
        Due.is("the answer", client.hear(0), "226;");
        Due.is("behind the last", client.take(0), Client.ELEMENT);
        Due.is("the data way", client.close(0), Client.STATE);
    }

    private static void runningTells() {
        Client client = Client.adm();
        Due.is("nothing", client.running(0), 0);
        client.begin(0, "STOR f", 1);
        Due.is("receives", client.running(0), 2);
        Due.is("the other session", client.running(1), 0);
        Due.is("close", client.close(0), Client.FINE);
        Due.is("nothing", client.running(0), 0);
        client.hear(0);
        client.begin(0, "RETR f");
        Due.is("sends", client.running(0), 1);
    }
}
