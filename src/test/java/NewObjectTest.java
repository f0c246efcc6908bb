/** Promise 1: a new object. */
public final class NewObjectTest {
    public static void main(String[] args) {
        storeIsEmpty();
        sessionsAreAtFirst();
        shelvesAreEmpty();
        objectsAreApart();
        Due.end();
    }

    private static void storeIsEmpty() {
        Client client = new Client();
        Due.is("the root is in", client.node(0, 0), -1);
        Due.is("the root is a file", client.node(0, 1), 0);
        Due.is("the root has", client.node(0, 2), 0);
        Due.is("the root's name", client.node(0, 3), 0);
        for (int n = 1; n < 16; n++) {
            Due.is("node " + n, client.node(n, 1), -1);
        }
    }

    private static void sessionsAreAtFirst() {
        Client client = new Client();
        for (int s = 0; s < 2; s++) {
            Due.is("current", client.current(s), -1);
            Due.is("running", client.running(s), 0);
            Due.is("waiting", client.waiting(s), 0);
            Due.is("close", client.close(s), Client.STATE);
            client.due(s, "PWD", "530;");
            client.due(s, "PASS key", "503;");
        }
    }

    private static void shelvesAreEmpty() {
        Client client = new Client();
        for (int k = 0; k < 3; k++) {
            Due.is("shelf " + k, client.shelf(k, -1), 0);
        }
        Due.is("step", client.step(), Client.STATE);
        Due.is("fill", client.fill(0, 1, 1, 1), true);
    }

    private static void objectsAreApart() {
        Client first = Client.adm();
        first.due(0, "MKD a", "257 /a;");
        Due.is("another object's node 1", new Client().node(1, 1), -1);
        Due.is("NONE", ParcelLine.NONE, -1);
    }
}
