/**
 * A line that is refused changes nothing but that it is a line: of two objects that go the same way one gets it, the other an
 * empty line, which is answered 500, and nothing that comes later tells them apart.
 */
public final class RefusedLinesTest {
    private static final String LOG_IN = "0 USER adm|0 PASS key|";
    private static final String FILE = "0 PASV|0 STOR f|bring 0 1|bring 0 2|bring 0 3|close 0|";
    private static final String TREE = LOG_IN + "0 MKD a|0 MKD a/b|" + FILE;
    private static final String OTHER = "1 USER adm|1 PASS key|1 PASV|";
    private static final String OTHER_READS = OTHER + "1 RETR f|";
    private static final String OTHER_WRITES = OTHER + "1 APPE f|bring 1 4|";

    /** A way of session 0, and behind it lines that are refused there, with their answers. */
    private static final String[][] WAYS = {
        {"", "PWD=530", "CWD /=530", "MKD a=530", "STOR f=530", "NLST=530", "ABOR=530", "REST 1=530", "PASS key=503",
            "NOOP x=501", "QUIT x=501", "USER=501", "PASS=501", " =500", "FOO=500"},
        {LOG_IN + "0 USER adm", "PASS=501", "PASS no=530", "PWD=530", "USER=501"},
        {"0 USER any|0 PASS x|0 PASV", "STOR f=550", "APPE f=550", "DELE f=550", "MKD a=550", "RMD a=550", "RNFR f=550",
            "RNTO f=550", "RETR f=550", "SIZE f=550"},
        {TREE + "0 PASV|0 TYPE A|0 CWD a", "TYPE a=501", "TYPE=501", "PWD x=501", "CWD q=550", "CWD /f=550", "CWD A=501",
            "CDUP x=501", "SIZE q=550", "SIZE b=550", "PASV x=501", "REST 25=501", "REST=501", "PASS key=503"},
        {TREE + "0 PASV|0 TYPE A|0 CWD a", "RETR q=550", "RETR b=550", "STOR b=550", "STOR q/r=550", "APPE b=550",
            "APPE /f/x=550", "NLST x=501", "ABOR x=501", "QUIT x=501", "USER=501", "USER " + "u".repeat(26) + "=500"},
        {TREE + "0 PASV|0 TYPE A|0 CWD a", "DELE q=550", "DELE b=550", "MKD b=550", "MKD q/r=550", "MKD ..=550", "RMD b/q=550",
            "RMD /=550", "RMD /a=550", "RMD /f=550", "RMD ../a=550", "RNFR q=550", "RNFR /=550", "RNTO z=503"},
        {TREE + "0 RNFR f", "RNTO a=550", "RNTO f=550", "RNTO q/r=550", "RNTO ..=550", "RNTO A=501", "RNTO=501", "RNFR q=550"},
        {TREE + "0 RNFR a", "RNTO a/x=550", "RNTO a/b/x=550", "RNTO a=550", "RNTO f/x=550"},
        {TREE + "0 PASV|0 REST 4", "RETR f=554", "STOR f=554", "STOR z=554", "RETR a=550", "STOR a=550", "REST 25=501"},
        {TREE, "RETR f=425", "STOR f=425", "STOR z=425", "APPE f=425", "APPE z=425", "NLST=425"},
        {TREE + OTHER_READS + "0 PASV", "STOR f=450", "APPE f=450", "DELE f=450"},
        {TREE + OTHER_WRITES + "0 PASV", "STOR f=450", "APPE f=450", "DELE f=450", "RETR f=450"},
        {TREE + OTHER_READS + "0 RNFR f", "RNTO z=450", "RNTO a=550"},
        {TREE + OTHER_WRITES + "0 RNFR f", "RNTO z=450", "RNTO a=550"},
        {TREE + OTHER + "1 CWD a/b", "RMD a/b=550", "RMD a=550"},
        {TREE + OTHER + "0 RNFR f|1 DELE f", "RNTO z=550"},
        {LOG_IN + "0 MKD a|0 MKD b|0 MKD c|0 MKD d|0 MKD e|0 MKD g|0 MKD h|0 MKD i|0 MKD j|0 MKD k|0 MKD l|0 MKD m|0 MKD n|"
            + FILE + "hear 0|0 MKD o|0 PASV", "MKD z=552", "STOR z=552", "APPE z=552", "MKD a=550", "STOR a=550"},
        {TREE + "0 PASV|0 RETR f|take 0", "USER any=503", "PASS x=503", "TYPE A=503", "PWD=503", "CWD a=503", "CDUP=503",
            "SIZE f=503", "PASV=503", "REST 1=503", "RETR f=503", "STOR z=503", "NLST=503", "MKD z=503", "RNFR f=503",
            "NOOP x=501"},
        {TREE + "0 TYPE A|0 PASV|0 APPE f|bring 0 9|bring 0 13", "USER any=503", "PASS x=503", "TYPE I=503", "CWD a=503",
            "CDUP=503", "PASV=503", "REST 1=503", "APPE f=503", "DELE f=503", "RMD a/b=503", "RNTO z=503", "ABOR x=501"},
    };

    private static final String[] LATER = {
        "look|hear 1",
        "0 PASS key|hear 0|look",
        "0 RNTO z|hear 0|look",
        "0 RETR f|hear 0|take 0|take 0|take 0|hear 0",
        "0 RETR /f|take 0|take 0|hear 0|look",
        "0 STOR /f|bring 0 13|bring 0 10|hear 0|look",
        "0 PASV|0 PWD|0 STOR y|bring 0 13|bring 0 10|hear 0|look",
        "close 0|close 1|hear 0|hear 1|look|crash|look",
        "bring 0 10|bring 1 10|take 0|take 1|hear 0|look",
        "0 ABOR|hear 0|0 DELE f|hear 0|look",
        "crash|look",
    };

    public static void main(String[] args) {
        Due.sentence("A refused line changes nothing that the document doesn't say changes.");
        for (String[] way : WAYS) {
            for (int i = 1; i < way.length; i++) {
                int end = way[i].lastIndexOf('=');
                sameLater(way[0], way[i].substring(0, end), way[i].substring(end + 1));
            }
        }
        Due.end();
    }

    private static Client behind(String way, String line, String want) {
        Client client = new Client();
        Script.run(client, way);
        client.hear(0);
        Due.is(way + ", then " + line, client.ask(0, line), want + ";");
        return client;
    }

    private static void sameLater(String way, String line, String want) {
        for (String later : LATER) {
            Client with = behind(way, line, want);
            Client without = behind(way, "", "500");
            Due.is(way + ", then " + line, Script.run(with, later), Script.run(without, later));
        }
    }
}
