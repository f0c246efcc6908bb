/**
 * Runs calls that are told in words, with | between them, on a Client, and tells what they answered.
 * "0 NOOP" is a line of session 0, "0~NO" a text without an end, "0#255,253" bytes; a call of the face is its name with its
 * arguments; hear takes all reply bytes of a session, look tells all that can be seen.
 */
final class Script {
    private Script() {
    }

    static String run(Client client, String words) {
        StringBuilder answers = new StringBuilder();
        if (!words.isEmpty()) {
            for (String word : words.split("\\|")) {
                answers.append(word).append(": ").append(one(client, word)).append('\n');
            }
        }
        return answers.toString();
    }

    static String one(Client client, String word) {
        if (Character.isDigit(word.charAt(0))) {
            feed(client, word.charAt(0) - '0', word.charAt(1), word.substring(2));
            return "";
        }
        String[] parts = word.split(" ");
        int[] numbers = new int[4];
        for (int i = 1; i < parts.length; i++) {
            numbers[i - 1] = number(parts[i]);
        }
        return call(client, parts[0], numbers);
    }

    private static int number(String text) {
        switch (text) {
            case "least":
                return Integer.MIN_VALUE;
            case "most":
                return Integer.MAX_VALUE;
            default:
                return Character.isLetter(text.charAt(0)) ? Client.name(text) : Integer.parseInt(text);
        }
    }

    private static void feed(Client client, int s, char kind, String text) {
        if (kind == '#') {
            for (String b : text.split(",")) {
                client.feed(s, Integer.parseInt(b));
            }
        } else if (kind == '~') {
            client.text(s, text);
        } else {
            client.say(s, text);
        }
    }

    private static String call(Client client, String name, int[] a) {
        switch (name) {
            case "hear":
                return client.hear(a[0]);
            case "look":
                return client.look();
            case "feed":
                return "" + client.feed(a[0], a[1]);
            case "close":
                return client.close(a[0]);
            case "bring":
                return client.bring(a[0], a[1]);
            case "take":
                return client.take(a[0]);
            case "cut":
                return "" + client.cut(a[0]);
            case "crash":
                client.crash();
                return "";
            case "waiting":
                return "" + client.waiting(a[0]);
            case "reply":
                return "" + client.reply(a[0]);
            case "node":
                return "" + client.node(a[0], a[1]);
            case "content":
                return "" + client.content(a[0], a[1]);
            case "current":
                return "" + client.current(a[0]);
            case "running":
                return "" + client.running(a[0]);
            case "fill":
                return "" + client.fill(a[0], a[1], a[2], a[3]);
            case "shelf":
                return "" + client.shelf(a[0], a[1]);
            case "jobToFetch":
                return client.job(false, a[0], a[1], a[2]);
            case "jobToBring":
                return client.job(true, a[0], a[1], a[2]);
            case "step":
                return client.step();
            default:
                throw new AssertionError("no such call: " + name);
        }
    }
}
