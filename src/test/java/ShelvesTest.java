/** Promises 14 and 15: fill and shelf. */
public final class ShelvesTest {
    public static void main(String[] args) {
        fills();
        refused();
        bytes();
        Due.end();
    }

    private static void fills() {
        Client client = new Client();
        Due.is("fill", client.fill(0, 4, 250, 3), true);
        Due.is("shelf 0", client.onShelf(0), "250 253 0 3");
        Due.is("shelf 1", client.onShelf(1), "");
        Due.is("fill", client.fill(2, 3, 1, -2), true);
        Due.is("shelf 2", client.onShelf(2), "1 255 253");
        Due.is("fill", client.fill(2, 3, Integer.MAX_VALUE, Integer.MAX_VALUE), true);
        Due.is("shelf 2", client.onShelf(2), "255 254 253");
        Due.is("fill", client.fill(1, 24, 0, 1), true);
        Due.is("the last byte", client.shelf(1, 23), 23);
        Due.is("fill with none", client.fill(0, 0, 9, 9), true);
        Due.is("shelf 0", client.onShelf(0), "");
    }

    private static void refused() {
        Client client = new Client();
        client.fill(0, 2, 5, 1);
        int[][] wrong = {{-1, 1}, {3, 1}, {0, -1}, {0, 25}, {0, Integer.MAX_VALUE}, {0, Integer.MIN_VALUE},
            {Integer.MAX_VALUE, 1}, {Integer.MIN_VALUE, 1}};
        for (int[] row : wrong) {
            Due.is("fill(" + row[0] + ", " + row[1] + ")", client.fill(row[0], row[1], 1, 1), false);
        }
        Due.is("nothing happened", client.onShelf(0), "5 6");
        client.job(true, 1, Client.name("f"), 0);
        Due.is("fill with a job on", client.fill(0, 1, 1, 1), false);
        Due.is("nothing happened", client.onShelf(0), "5 6");
        client.cut(1);
        Due.is("fill with a lost job on", client.fill(0, 1, 1, 1), false);
        Due.is("step", client.step(), "5");
        Due.is("fill behind the job", client.fill(0, 1, 1, 1), true);
    }

    private static void bytes() {
        Client client = new Client();
        client.fill(1, 2, 200, 100);
        Due.is("how many", client.shelf(1, -1), 2);
        Due.is("byte 0", client.shelf(1, 0), 200);
        Due.is("byte 1", client.shelf(1, 1), 44);
        int[] none = {-2, 2, 23, 24, Integer.MIN_VALUE, Integer.MAX_VALUE};
        for (int i : none) {
            Due.is("byte " + i, client.shelf(1, i), -1);
        }
        int[] noShelves = {-1, 3, Integer.MIN_VALUE, Integer.MAX_VALUE};
        for (int k : noShelves) {
            Due.is("shelf " + k, client.shelf(k, -1), -1);
            Due.is("shelf " + k, client.shelf(k, 0), -1);
        }
    }
}
