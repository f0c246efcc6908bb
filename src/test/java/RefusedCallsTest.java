/**
 * A call that is refused, or that only looks, changes nothing: of two objects that go the same way one gets it in between,
 * and nothing that comes later tells them apart.
 */
public final class RefusedCallsTest {
    private static final String LOG_IN = "0 USER adm|0 PASS key|";
    private static final String FILE = "0 PASV|0 STOR f|bring 0 1|bring 0 2|bring 0 3|close 0|";
    private static final String BOTH = LOG_IN + FILE + "1 USER adm|1 PASS key|1 PASV|";

    /** Ways that leave something which a call could disturb, and the calls that are refused because of where they lead. */
    private static final String[][] WAYS = {
        {"", "close 0", "close 1", "bring 0 1", "take 1", "step", "reply 0", "reply 1"},
        {LOG_IN + FILE + "0 TYPE A|0 PASV|0 REST 2", "bring 0 1", "take 0", "close 1", "step"},
        {LOG_IN + FILE + "0 RNFR f", "close 0", "bring 0 1", "take 0", "step"},
        {LOG_IN + FILE + "hear 0|0 USER adm", "close 0", "bring 0 1", "take 0", "step"},
        {LOG_IN + FILE + "0 PASV|0 RETR f|take 0|0~NO", "bring 0 1", "take 1", "close 1", "step"},
        {BOTH + "1 TYPE A|1 APPE f|bring 1 4|bring 1 13|0~NO", "take 1", "take 0", "close 0", "bring 0 10", "step"},
        {BOTH + "1 NLST|0#255|1#255,253", "bring 1 1", "take 0", "close 0", "step"},
        {LOG_IN + FILE + "0 PASV|0~NOOP|0#13|1~" + "x".repeat(31), "take 0", "bring 0 0", "bring 1 1", "close 1", "step"},
        {LOG_IN + FILE + "fill 0 2 8 1|jobToFetch 0 f 0|step|step|fill 1 0 0 0", "fill 0 0 0 0", "fill 2 3 1 1",
            "jobToBring 1 g 9", "jobToFetch 0 f 9", "bring 1 1", "close 0", "take 0"},
        {LOG_IN + FILE + "fill 0 5 8 1|jobToBring 0 g 1|step|step|step|1~NO", "fill 0 0 0 0", "fill 1 24 0 0",
            "jobToBring 0 g 9", "jobToFetch 1 f 0", "take 1", "close 0", "bring 0 1"},
        {LOG_IN + FILE + "fill 0 5 8 1|jobToBring 0 g 0|step|cut 1|1 USER adm|1 PASS key|1 PASV", "fill 0 0 0 0",
            "jobToBring 0 g 9", "take 1", "bring 1 1", "close 0"},
        {LOG_IN + FILE + "fill 0 1 8 1|jobToBring 0 f 0|step|step|step|step|step", "step", "close 1", "bring 1 0", "take 1"},
    };

    private static final String[] REFUSED = {"feed -1 13", "feed 2 65", "feed most 10", "close -1", "close 2", "close least",
        "bring -1 65", "bring 2 65", "take -1", "take 2", "cut -1", "cut 2", "cut most", "fill -1 0 0 0", "fill 3 0 0 0",
        "fill 0 -1 0 0", "fill 0 25 0 0", "fill 1 most 1 1", "fill 2 least 1 1", "jobToBring -1 f 0", "jobToFetch 3 f 0",
        "jobToBring 0 0 0", "jobToFetch 0 tmp 0", "jobToBring 0 f -1", "jobToFetch 0 f 10"};

    private static final String[] LOOKS = {"waiting 0|waiting 1|waiting -1|waiting 2", "reply -1|reply 2",
        "node 0 0|node 0 1|node 0 2|node 0 3|node 1 2|node 15 0", "node 16 0|node -1 0|node 0 4|node 1 -1|node most least",
        "content 0 0|content 1 0|content 1 2|content 1 3|content 1 -1", "content 16 0|content -1 0|content 1 24|content 1 most",
        "current 0|current 1|current -1|current 2", "running 0|running 1|running -1|running 2",
        "shelf 0 -1|shelf 0 0|shelf 0 23|shelf 0 24|shelf 0 -2", "shelf 3 -1|shelf -1 -1|shelf 2 most|shelf 1 least"};

    private static final String[] LATER = {
        "look|hear 0|hear 1",
        "0#13,10|1#13,10|hear 0|hear 1|look",
        "0#253,7,10|1#7,10,13,10|hear 0|hear 1",
        "hear 0|hear 1|0 OP|1 OP|0 PWD|1 PWD|hear 0|hear 1",
        "hear 0|0 PASS key|hear 0|look",
        "hear 0|0 RNTO z|hear 0|look",
        "hear 0|0 RETR f|hear 0|take 0|take 0|hear 0|look",
        "hear 0|0 PASV|0 STOR z|bring 0 13|bring 0 10|hear 0|look",
        "close 0|close 1|hear 0|hear 1|look|crash|look",
        "bring 0 10|bring 1 10|look",
        "take 0|take 1|take 1|hear 0|hear 1|look",
        "step|hear 1|step|hear 1|step|step|look",
        "cut 1|step|step|look",
        "fill 0 1 1 1|jobToBring 0 y 0|step|look",
        "crash|look|step",
        "0 ABOR|1 ABOR|hear 0|hear 1|0 DELE f|hear 0|look",
    };

    public static void main(String[] args) {
        Due.sentence("A refused call changes nothing that the document doesn't say changes.");
        for (String[] way : WAYS) {
            for (String call : REFUSED) {
                refused(way[0], call);
            }
            for (int i = 1; i < way.length; i++) {
                refused(way[0], way[i]);
            }
            for (String looks : LOOKS) {
                sameLater(way[0], looks);
            }
        }
        Due.end();
    }

    private static void refused(String way, String call) {
        Client client = new Client();
        Script.run(client, way);
        Due.is(way + ", then " + call, isRefusal(call, Script.one(client, call)), true);
        sameLater(way, call);
    }

    private static boolean isRefusal(String call, String answer) {
        switch (call.split(" ")[0]) {
            case "feed":
            case "cut":
            case "fill":
                return answer.equals("false");
            case "reply":
                return answer.equals("-1");
            case "take":
                return answer.equals(Client.ARGUMENT) || answer.equals(Client.ELEMENT);
            default:
                return answer.equals(Client.ARGUMENT) || answer.equals(Client.STATE);
        }
    }

    private static void sameLater(String way, String calls) {
        for (String later : LATER) {
            Client with = new Client();
            Script.run(with, way);
            Script.run(with, calls);
            Client without = new Client();
            Script.run(without, way);
            Due.is(way + ", then " + calls, Script.run(with, later), Script.run(without, later));
        }
    }
}
