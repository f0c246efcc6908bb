/** Promises 10, 11 and 12: node, content and current. */
public final class NodesTest {
    public static void main(String[] args) {
        nodes();
        nodeNames();
        contents();
        currents();
        Due.end();
    }

    private static void nodes() {
        Client client = Client.adm();
        client.due(0, "MKD a", "257 /a;");
        client.due(0, "MKD a/b", "257 /a/b;");
        client.keep(0, "a/f", 5, 6, 7);
        int[][] want = {{-1, 0, 1, 0}, {0, 0, 2, 97}, {1, 0, 0, 98}, {1, 1, 3, 102}, {-1, -1, -1, -1}};
        for (int n = 0; n < want.length; n++) {
            for (int what = 0; what < 4; what++) {
                Due.is("node(" + n + ", " + what + ")", client.node(n, what), want[n][what]);
            }
        }
        int[] wrong = {-1, 4, Integer.MIN_VALUE, Integer.MAX_VALUE};
        for (int what : wrong) {
            Due.is("node(1, " + what + ")", client.node(1, what), -1);
            Due.is("node(0, " + what + ")", client.node(0, what), -1);
        }
        int[] none = {-1, 16, Integer.MIN_VALUE, Integer.MAX_VALUE};
        for (int n : none) {
            for (int what = 0; what < 4; what++) {
                Due.is("node(" + n + ", " + what + ")", client.node(n, what), -1);
            }
        }
    }

    private static void nodeNames() {
        Client client = Client.adm();
        client.due(0, "MKD z", "257 /z;");
        client.due(0, "MKD a0", "257 /a0;");
        client.due(0, "MKD 9za", "257 /9za;");
        Due.is("z", client.node(1, 3), 122);
        Due.is("a0", client.node(2, 3), 97 + 48 * 128);
        Due.is("9za", client.node(3, 3), 57 + 122 * 128 + 97 * 16384);
    }

    private static void contents() {
        Client client = Client.adm();
        client.due(0, "MKD a", "257 /a;");
        client.keep(0, "f", 5, 255, 0);
        Due.is("byte 0", client.content(2, 0), 5);
        Due.is("byte 1", client.content(2, 1), 255);
        Due.is("byte 2", client.content(2, 2), 0);
        int[] none = {-1, 3, 23, 24, Integer.MIN_VALUE, Integer.MAX_VALUE};
        for (int k : none) {
            Due.is("byte " + k, client.content(2, k), -1);
        }
        int[] noFiles = {-1, 0, 1, 3, 16, Integer.MIN_VALUE, Integer.MAX_VALUE};
        for (int n : noFiles) {
            Due.is("content(" + n + ", 0)", client.content(n, 0), -1);
        }
        client.due(0, "DELE f", "250;");
        Due.is("a file that is gone", client.content(2, 0), -1);
    }

    private static void currents() {
        Client client = new Client();
        Due.is("nobody", client.current(0), -1);
        Due.is("no such session", client.current(-1), -1);
        Due.is("no such session", client.current(2), -1);
        client.logIn(0, "adm");
        client.logIn(1, "any");
        client.due(0, "MKD a", "257 /a;");
        client.due(1, "CWD a", "250;");
        Due.is("session 0", client.current(0), 0);
        Due.is("session 1", client.current(1), 1);
        client.due(1, "CWD b", "550;");
        Due.is("it stays", client.current(1), 1);
        client.due(1, "QUIT", "221;");
        Due.is("behind QUIT", client.current(1), -1);
    }
}
