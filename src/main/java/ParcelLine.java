import java.util.NoSuchElementException;

/**
 * A file server spoken to by lines of bytes in two sessions, a store that keeps
 * through a crash what was answered, and a copier that works by session 1.
 */
public final class ParcelLine {
    public static final int NONE = -1;

    private static final int NODES = 16;
    private static final int ROOT = 0;
    private static final int FILE_ROOM = 24;
    private static final int LINE_ROOM = 30;
    private static final int REPLY_ROOM = 200;
    // The longest reply is a path of fifteen names of three characters: 3 + 1 + 60 + 2 bytes.
    private static final int DRAFT_ROOM = 66;
    // The most that a transfer sends is fifteen names of three characters with 13 10 behind each.
    private static final int SEND_ROOM = 75;
    private static final int SAFE_BLOCK = 4;
    private static final int SESSIONS = 2;
    private static final int COPIER_SESSION = 1;
    private static final int SHELVES = 3;
    private static final int MOST_TRIES = 9;

    // A name is a number as node() tells it, so 0 is free to stand for the step "..".
    private static final int UP = 0;
    private static final int NAME_LENGTH = 3;
    private static final int NAME_BASE = 128;
    private static final int TMP = 't' + 'm' * NAME_BASE + 'p' * NAME_BASE * NAME_BASE;

    private static final int SPACE = 32;
    private static final int RETURN = 13;
    private static final int NEWLINE = 10;
    private static final int ORDER = 255;
    private static final int WILL = 251;
    private static final int WONT = 252;
    private static final int DO = 253;
    private static final int DONT = 254;

    private static final int NOTHING = 0;
    private static final int DIRECTORY = 1;
    private static final int FILE = 2;

    private static final int IDLE = 0;
    private static final int SENDING = 1;
    private static final int RECEIVING = 2;

    private static final int NOBODY = 0;
    private static final int ADM = 1;
    private static final int ANY = 2;
    private static final int STRANGER = 3;

    private static final int NO_ARGUMENT = 0;
    private static final int TEXT = 1;
    private static final int LETTER = 2;
    private static final int DIGITS = 3;
    private static final int PATH = 4;

    private static final int ANYONE = 0;
    private static final int USERS = 1;
    private static final int ADM_ALONE = 2;

    private static final int LOG_IN = 0;
    private static final int BEGIN = 1;
    private static final int MOVE = 2;
    private static final int PUT_IN_PLACE = 3;
    private static final int DONE = 4;
    private static final int FAILED = 5;

    private final Store store;
    private final Session[] sessions;
    private final ByteRow[] shelves;
    private final Copier copier;

    public ParcelLine() {
        store = new Store();
        sessions = new Session[SESSIONS];
        for (int s = 0; s < SESSIONS; s++) {
            sessions[s] = new Session(s, store);
        }
        shelves = new ByteRow[SHELVES];
        for (int k = 0; k < SHELVES; k++) {
            shelves[k] = new ByteRow();
        }
        copier = new Copier(sessions[COPIER_SESSION], shelves[0]);
    }

    public boolean feed(int s, int b) {
        if (!isSession(s)) {
            return false;
        }
        sessions[s].accept(b & 255);
        return true;
    }

    public void close(int s) throws IllegalArgumentException, IllegalStateException {
        if (!isSession(s)) {
            throw new IllegalArgumentException("there is no such session");
        }
        if (!sessions[s].way.isOpen) {
            throw new IllegalStateException("the data way is not open");
        }
        sessions[s].clientCloses();
    }

    public void bring(int s, int b) throws IllegalArgumentException, IllegalStateException {
        if (!isSession(s)) {
            throw new IllegalArgumentException("there is no such session");
        }
        if (sessions[s].way.mode != RECEIVING) {
            throw new IllegalStateException("no transfer receives");
        }
        sessions[s].way.receiveByte(b & 255);
    }

    public int take(int s) throws IllegalArgumentException, NoSuchElementException {
        if (!isSession(s)) {
            throw new IllegalArgumentException("there is no such session");
        }
        if (sessions[s].way.mode != SENDING) {
            throw new NoSuchElementException("no transfer sends");
        }
        return sessions[s].sendByte();
    }

    public boolean cut(int s) {
        if (!isSession(s)) {
            return false;
        }
        sessions[s].drop();
        if (s == COPIER_SESSION) {
            copier.interrupt();
        }
        return true;
    }

    public void crash() {
        for (int s = 0; s < SESSIONS; s++) {
            sessions[s].drop();
        }
        store.loseUnsafeBytes();
        copier.interrupt();
    }

    public int waiting(int s) {
        return isSession(s) ? sessions[s].replies.count : NONE;
    }

    public int reply(int s) {
        return isSession(s) ? sessions[s].replies.takeFirst() : NONE;
    }

    public int node(int n, int what) {
        if (!store.isThere(n)) {
            return NONE;
        }
        Node asked = store.nodes[n];
        switch (what) {
            case 0:
                return n == ROOT ? NONE : asked.parent;
            case 1:
                return asked.kind == FILE ? 1 : 0;
            case 2:
                return asked.kind == FILE ? asked.bytes.count : store.countIn(n);
            case 3:
                return asked.name;
            default:
                return NONE;
        }
    }

    public int content(int n, int k) {
        return store.isFile(n) ? store.nodes[n].bytes.at(k) : NONE;
    }

    public int current(int s) {
        return isSession(s) ? store.currents[s] : NONE;
    }

    public int running(int s) {
        return isSession(s) ? sessions[s].way.mode : NONE;
    }

    public boolean fill(int k, int n, int seed, int step) {
        if (!isShelf(k) || n < 0 || n > FILE_ROOM || copier.isOn) {
            return false;
        }
        ByteRow row = shelves[k];
        row.count = 0;
        for (int i = 0; i < n; i++) {
            row.add((seed + i * step) & 255);
        }
        return true;
    }

    public int shelf(int k, int i) {
        if (!isShelf(k)) {
            return NONE;
        }
        return i == -1 ? shelves[k].count : shelves[k].at(i);
    }

    public void job(boolean bringing, int k, int name, int tries)
            throws IllegalArgumentException, IllegalStateException {
        if (!isShelf(k) || !isName(name) || name == TMP || tries < 0 || tries > MOST_TRIES) {
            throw new IllegalArgumentException("no such shelf, name or number of tries");
        }
        if (copier.isOn) {
            throw new IllegalStateException("a job is on");
        }
        sessions[COPIER_SESSION].drop();
        copier.start(bringing, shelves[k], name, tries);
    }

    // The steps are chosen here and not in the copier to keep the calls that stand open few.
    public int step() throws IllegalStateException {
        if (!copier.isOn) {
            throw new IllegalStateException("no job is on");
        }
        sessions[COPIER_SESSION].replies.clear();
        if (copier.isLost) {
            return copier.finish(FAILED);
        }
        switch (copier.next) {
            case LOG_IN:
                return copier.logIn();
            case BEGIN:
                return copier.isBringing ? copier.beginBringing() : copier.beginFetching();
            case MOVE:
                return copier.isBringing ? copier.bringByte() : copier.fetchByte();
            default:
                return copier.putInPlace();
        }
    }

    private static boolean isSession(int s) {
        return s >= 0 && s < SESSIONS;
    }

    private static boolean isShelf(int k) {
        return k >= 0 && k < SHELVES;
    }

    private static boolean isNameByte(int b) {
        return b >= 'a' && b <= 'z' || b >= '0' && b <= '9';
    }

    private static boolean isName(int name) {
        int rest = name;
        for (int i = 0; i < NAME_LENGTH && rest > 0; i++) {
            if (!isNameByte(rest % NAME_BASE)) {
                return false;
            }
            rest = rest / NAME_BASE;
        }
        return name > 0 && rest == 0;
    }

    /** At most 24 bytes: what a file or a shelf holds. */
    private static final class ByteRow {
        private final int[] cells;
        private int count;

        ByteRow() {
            cells = new int[FILE_ROOM];
        }

        void add(int b) {
            if (count < FILE_ROOM) {
                cells[count] = b;
                count++;
            }
        }

        int at(int i) {
            return i >= 0 && i < count && i < FILE_ROOM ? cells[i] : NONE;
        }
    }

    /** A place for a directory or a file; it is used again when what was there is gone. */
    private static final class Node {
        private final ByteRow bytes;
        private int kind;
        private int parent;
        private int name;
        private int readers;
        private boolean isWritten;
        // It was, or is being, received without a 226 for that.
        private boolean isUnsafe;

        Node() {
            bytes = new ByteRow();
        }

        boolean isIn(int directory) {
            return kind != NOTHING && parent == directory;
        }

        boolean isBusy() {
            return isWritten || readers > 0;
        }
    }

    private static final class Store {
        private final Node[] nodes;
        // CURRENT of each session, NONE where nobody is logged in; here, as RMD asks for all of them.
        private final int[] currents;

        Store() {
            nodes = new Node[NODES];
            for (int n = 0; n < NODES; n++) {
                nodes[n] = new Node();
            }
            nodes[ROOT].kind = DIRECTORY;
            nodes[ROOT].parent = ROOT;
            currents = new int[SESSIONS];
            for (int s = 0; s < SESSIONS; s++) {
                currents[s] = NONE;
            }
        }

        boolean isThere(int n) {
            return n >= 0 && n < NODES && nodes[n].kind != NOTHING;
        }

        boolean isFile(int n) {
            return n >= 0 && n < NODES && nodes[n].kind == FILE;
        }

        boolean isDirectory(int n) {
            return n >= 0 && n < NODES && nodes[n].kind == DIRECTORY;
        }

        int parentOf(int n) {
            return isThere(n) ? nodes[n].parent : ROOT;
        }

        int countIn(int directory) {
            int count = 0;
            for (int n = ROOT + 1; n < NODES; n++) {
                if (nodes[n].isIn(directory)) {
                    count++;
                }
            }
            return count;
        }

        int childNamed(int directory, int name) {
            for (int n = ROOT + 1; n < NODES; n++) {
                if (nodes[n].isIn(directory) && nodes[n].name == name) {
                    return n;
                }
            }
            return NONE;
        }

        /** Where the first steps of a path lead, or NONE. */
        int follow(Path path, int from, int steps) {
            int at = path.isFromRoot ? ROOT : from;
            for (int i = 0; i < steps && i < path.count; i++) {
                if (!isDirectory(at)) {
                    return NONE;
                }
                at = path.steps[i] == UP ? nodes[at].parent : childNamed(at, path.steps[i]);
            }
            return at;
        }

        /** The number of the new node, or NONE if no node is free. */
        int make(int kind, int directory, int name) {
            for (int n = ROOT + 1; n < NODES; n++) {
                Node made = nodes[n];
                if (made.kind == NOTHING) {
                    made.kind = kind;
                    made.parent = directory;
                    made.name = name;
                    made.bytes.count = 0;
                    made.isUnsafe = false;
                    return n;
                }
            }
            return NONE;
        }

        boolean isCurrent(int n) {
            for (int s = 0; s < SESSIONS; s++) {
                if (currents[s] == n) {
                    return true;
                }
            }
            return false;
        }

        boolean isWithin(int n, int outer) {
            int at = n;
            for (int i = 0; i < NODES && at > ROOT && at < NODES; i++) {
                if (at == outer) {
                    return true;
                }
                at = nodes[at].parent;
            }
            return false;
        }

        /** Writes the nodes from n up to the root, which is left out, and answers how many. */
        int lineage(int n, int[] row) {
            int count = 0;
            int at = n;
            while (count < row.length && at > ROOT && at < NODES) {
                row[count] = at;
                count++;
                at = nodes[at].parent;
            }
            return count;
        }

        void loseUnsafeBytes() {
            for (int n = 0; n < NODES; n++) {
                Node file = nodes[n];
                if (file.isUnsafe) {
                    file.bytes.count -= file.bytes.count % SAFE_BLOCK;
                    file.isUnsafe = false;
                }
            }
        }
    }

    /** The steps of an argument that is a path. */
    private static final class Path {
        private final int[] steps;
        private int count;
        private boolean isFromRoot;
        private boolean isValid;

        Path() {
            steps = new int[LINE_ROOM];
        }

        void read(int[] line, int from, int to) {
            count = 0;
            isFromRoot = from < to && line[from] == '/';
            int begin = isFromRoot ? from + 1 : from;
            isValid = isFromRoot || from < to;
            if (isFromRoot && begin == to) {
                return;
            }
            for (int at = begin; isValid && at <= to; at++) {
                if (at == to || line[at] == '/') {
                    addStep(readStep(line, begin, at));
                    begin = at + 1;
                }
            }
        }

        private void addStep(int name) {
            if (name == NONE || count >= steps.length) {
                isValid = false;
                return;
            }
            steps[count] = name;
            count++;
        }

        private static int readStep(int[] line, int begin, int end) {
            int length = end - begin;
            if (length == 2 && line[begin] == '.' && line[begin + 1] == '.') {
                return UP;
            }
            if (length < 1 || length > NAME_LENGTH) {
                return NONE;
            }
            int name = 0;
            for (int i = end - 1; i >= begin; i--) {
                if (!isNameByte(line[i])) {
                    return NONE;
                }
                name = name * NAME_BASE + line[i];
            }
            return name;
        }

        /** The name that something new would get; UP where there can be none. */
        int newName() {
            return count > 0 && count <= steps.length ? steps[count - 1] : UP;
        }
    }

    /** The reply bytes that wait, and the reply that is being written. */
    private static final class Replies {
        private final int[] ring;
        private int first;
        private int count;
        private final int[] draft;
        private int length;

        Replies() {
            ring = new int[REPLY_ROOM];
            draft = new int[DRAFT_ROOM];
        }

        void clear() {
            first = 0;
            count = 0;
        }

        int takeFirst() {
            if (count == 0) {
                return NONE;
            }
            int b = ring[first];
            first = (first + 1) % REPLY_ROOM;
            count--;
            return b;
        }

        void write(int b) {
            if (length < DRAFT_ROOM) {
                draft[length] = b;
                length++;
            }
        }

        void begin(int code) {
            length = 0;
            write('0' + code / 100 % 10);
            write('0' + code / 10 % 10);
            write('0' + code % 10);
        }

        void writeNumber(int number) {
            write(SPACE);
            if (number >= 10) {
                write('0' + number / 10 % 10);
            }
            write('0' + number % 10);
        }

        void writeStep(int name) {
            write('/');
            int rest = name;
            for (int i = 0; i < NAME_LENGTH && rest > 0; i++) {
                write(rest % NAME_BASE);
                rest = rest / NAME_BASE;
            }
        }

        void end() {
            write(RETURN);
            write(NEWLINE);
            keepDraft();
        }

        void answerOrder(int kind, int option) {
            length = 0;
            write(ORDER);
            write(kind);
            write(option);
            keepDraft();
        }

        private void keepDraft() {
            if (count + length > REPLY_ROOM) {
                return;
            }
            for (int i = 0; i < length; i++) {
                ring[(first + count) % REPLY_ROOM] = draft[i];
                count++;
            }
        }
    }

    /** Takes the bytes of a session, answers its orders and gathers its lines. */
    private static final class LineReader {
        private final Replies replies;
        private final int[] line;
        private int length;
        private boolean isTooLong;
        // 0 outside an order, ORDER behind a 255, else the order's second byte.
        private int order;
        private boolean isReturnSeen;
        private int commandLength;

        LineReader(Replies replies) {
            this.replies = replies;
            line = new int[LINE_ROOM];
        }

        void startOver() {
            order = 0;
            isReturnSeen = false;
            startLine();
        }

        void startLine() {
            length = 0;
            isTooLong = false;
        }

        /** Whether this byte ends a line. */
        boolean readByte(int b) {
            int begun = order;
            order = 0;
            if (begun == 0) {
                if (b != ORDER) {
                    return readLineByte(b);
                }
                order = ORDER;
                return false;
            }
            if (begun == ORDER) {
                if (b == ORDER) {
                    return readLineByte(b);
                }
                order = b >= WILL && b <= DONT ? b : 0;
                return false;
            }
            answerOrder(begun, b);
            return false;
        }

        private void answerOrder(int kind, int option) {
            if (kind == DO) {
                replies.answerOrder(WONT, option);
            }
            if (kind == WILL) {
                replies.answerOrder(DONT, option);
            }
        }

        private boolean readLineByte(int b) {
            boolean isBehindReturn = isReturnSeen;
            isReturnSeen = false;
            if (isBehindReturn && b == NEWLINE) {
                return true;
            }
            if (isBehindReturn && b == 0) {
                keep(RETURN);
            } else if (b == RETURN) {
                isReturnSeen = true;
            } else {
                keep(b);
            }
            return false;
        }

        private void keep(int b) {
            if (length >= LINE_ROOM) {
                isTooLong = true;
                return;
            }
            line[length] = b;
            length++;
        }

        /** Parts the line at its first space. */
        void split() {
            commandLength = length;
            for (int i = 0; i < length; i++) {
                if (line[i] == SPACE) {
                    commandLength = i;
                    return;
                }
            }
        }

        boolean hasArgument() {
            return commandLength < length;
        }

        boolean commandIs(String word) {
            if (word.length() != commandLength) {
                return false;
            }
            for (int i = 0; i < commandLength; i++) {
                int b = line[i];
                int capital = b >= 'a' && b <= 'z' ? b - 'a' + 'A' : b;
                if (capital != word.charAt(i)) {
                    return false;
                }
            }
            return true;
        }

        boolean argumentIs(String word) {
            int begin = commandLength + 1;
            if (length - begin != word.length()) {
                return false;
            }
            for (int i = 0; begin + i < length; i++) {
                if (line[begin + i] != word.charAt(i)) {
                    return false;
                }
            }
            return true;
        }

        /** The number that the argument tells in one or two digits, or NONE. */
        int argumentNumber() {
            int begin = commandLength + 1;
            if (length - begin < 1 || length - begin > 2) {
                return NONE;
            }
            int number = 0;
            for (int i = begin; i < length; i++) {
                if (line[i] < '0' || line[i] > '9') {
                    return NONE;
                }
                number = number * 10 + line[i] - '0';
            }
            return number;
        }
    }

    /** A session's data way with the transfer that runs there. */
    private static final class DataWay {
        private boolean isOpen;
        private int mode;
        private boolean isAscii;
        private boolean isReturnWaiting;
        // The file that is sent or received; null for names.
        private Node file;
        private final int[] row;
        private int next;
        private int length;

        DataWay() {
            row = new int[SEND_ROOM];
        }

        private void load(int b) {
            if (length < SEND_ROOM) {
                row[length] = b;
                length++;
            }
        }

        void sendFile(Node sent, int offset, boolean ascii) {
            mode = SENDING;
            file = sent;
            sent.readers++;
            for (int i = offset; i < sent.bytes.count; i++) {
                int b = sent.bytes.at(i);
                if (ascii && b == NEWLINE) {
                    load(RETURN);
                }
                load(b);
            }
        }

        void beginNames() {
            mode = SENDING;
        }

        void loadName(int name) {
            int rest = name;
            for (int i = 0; i < NAME_LENGTH && rest > 0; i++) {
                load(rest % NAME_BASE);
                rest = rest / NAME_BASE;
            }
            load(RETURN);
            load(NEWLINE);
        }

        void receiveFile(Node received, int kept, boolean ascii) {
            mode = RECEIVING;
            file = received;
            isAscii = ascii;
            received.isWritten = true;
            received.isUnsafe = true;
            received.bytes.count = kept;
        }

        void receiveByte(int b) {
            if (file == null) {
                return;
            }
            boolean isBehindReturn = isReturnWaiting;
            isReturnWaiting = false;
            if (isBehindReturn && b != NEWLINE) {
                file.bytes.add(RETURN);
            }
            if (isAscii && b == RETURN) {
                isReturnWaiting = true;
            } else {
                file.bytes.add(b);
            }
        }

        boolean isSpent() {
            return next >= length;
        }

        int sendNext() {
            if (next >= length || next >= SEND_ROOM) {
                return NONE;
            }
            int b = row[next];
            next++;
            return b;
        }

        /** Ends what runs, if something runs, and closes the way. */
        void end() {
            if (file != null && mode == SENDING) {
                file.readers--;
            }
            if (file != null && mode == RECEIVING) {
                if (isReturnWaiting) {
                    file.bytes.add(RETURN);
                }
                file.isWritten = false;
            }
            isOpen = false;
            mode = IDLE;
            isReturnWaiting = false;
            file = null;
            next = 0;
            length = 0;
        }
    }

    /** Each command with its argument, who may give it, and whether it may come in a transfer. */
    private enum Command {
        USER("USER", TEXT, ANYONE, false),
        PASS("PASS", TEXT, ANYONE, false),
        QUIT("QUIT", NO_ARGUMENT, ANYONE, true),
        NOOP("NOOP", NO_ARGUMENT, ANYONE, true),
        TYPE("TYPE", LETTER, USERS, false),
        PWD("PWD", NO_ARGUMENT, USERS, false),
        CWD("CWD", PATH, USERS, false),
        CDUP("CDUP", NO_ARGUMENT, USERS, false),
        SIZE("SIZE", PATH, USERS, false),
        PASV("PASV", NO_ARGUMENT, USERS, false),
        REST("REST", DIGITS, USERS, false),
        RETR("RETR", PATH, USERS, false),
        STOR("STOR", PATH, ADM_ALONE, false),
        APPE("APPE", PATH, ADM_ALONE, false),
        NLST("NLST", NO_ARGUMENT, USERS, false),
        ABOR("ABOR", NO_ARGUMENT, USERS, true),
        DELE("DELE", PATH, ADM_ALONE, false),
        MKD("MKD", PATH, ADM_ALONE, false),
        RMD("RMD", PATH, ADM_ALONE, false),
        RNFR("RNFR", PATH, ADM_ALONE, false),
        RNTO("RNTO", PATH, ADM_ALONE, false);

        private static final Command[] ALL = values();

        private final String word;
        private final int argument;
        private final int who;
        private final boolean duringTransfer;

        Command(String word, int argument, int who, boolean duringTransfer) {
            this.word = word;
            this.argument = argument;
            this.who = who;
            this.duringTransfer = duringTransfer;
        }
    }

    private static final class Session {
        private final int me;
        private final Store store;
        private final Replies replies;
        private final LineReader reader;
        private final Path path;
        private final DataWay way;
        private final int[] lineage;
        private int user;
        private boolean isAscii;
        // What the line before has left: whom a USER named, what an RNFR chose, what a REST set.
        private int named;
        private int renaming;
        private int offset;
        // Where the line's path leads, and the directory where something new can be made at it.
        private int target;
        private int place;
        // What 213 and 257 tell, and the first code that the last line was answered.
        private int number;
        private int shown;
        private int answered;

        Session(int me, Store store) {
            this.me = me;
            this.store = store;
            replies = new Replies();
            reader = new LineReader(replies);
            path = new Path();
            way = new DataWay();
            lineage = new int[NODES];
            renaming = NONE;
            target = NONE;
            place = NONE;
        }

        /** Takes a byte, and answers the line that it may end. */
        void accept(int b) {
            if (!reader.readByte(b)) {
                return;
            }
            reader.split();
            path.read(reader.line, reader.commandLength + 1, reader.length);
            Command command = recognise();
            answered = refusal(command);
            if (answered == 0 && command != null && command.argument == PATH) {
                locate();
                answered = obeyPath(command);
            } else if (answered == 0 && command != null) {
                answered = obeyPlain(command);
            }
            forget(command);
            reader.startLine();
            answer(answered);
            // Of the commands ABOR alone is answered 426, and its own 226 comes behind that.
            if (answered == 426) {
                answer(226);
            }
            endIfSpent();
        }

        private void startOver() {
            way.end();
            logOut();
            isAscii = false;
            named = NOBODY;
            renaming = NONE;
            offset = 0;
            reader.startOver();
        }

        private void logOut() {
            user = NOBODY;
            store.currents[me] = NONE;
        }

        void drop() {
            startOver();
            replies.clear();
        }

        void clientCloses() {
            int ended = way.mode;
            if (way.file != null && ended == RECEIVING) {
                way.file.isUnsafe = false;
            }
            way.end();
            if (ended == RECEIVING) {
                answer(226);
            }
            if (ended == SENDING) {
                answer(426);
            }
        }

        int sendByte() {
            int b = way.sendNext();
            endIfSpent();
            return b;
        }

        private void endIfSpent() {
            if (way.mode == SENDING && way.isSpent()) {
                way.end();
                answer(226);
            }
        }

        private void answer(int code) {
            replies.begin(code);
            if (code == 213) {
                replies.writeNumber(number);
            }
            if (code == 257) {
                replies.write(SPACE);
                int steps = store.lineage(shown, lineage);
                if (steps == 0) {
                    replies.write('/');
                }
                for (int i = steps - 1; i >= 0; i--) {
                    replies.writeStep(store.nodes[lineage[i]].name);
                }
            }
            replies.end();
        }

        private Command recognise() {
            for (int i = 0; i < Command.ALL.length; i++) {
                if (reader.commandIs(Command.ALL[i].word)) {
                    return Command.ALL[i];
                }
            }
            return null;
        }

        /** What stands against any such command, or 0. */
        private int refusal(Command command) {
            if (reader.isTooLong || command == null) {
                return 500;
            }
            if (!argumentFits(command.argument)) {
                return 501;
            }
            if (command.who != ANYONE && user == NOBODY) {
                return 530;
            }
            if (!command.duringTransfer && way.mode != IDLE) {
                return 503;
            }
            if (command.who == ADM_ALONE && user != ADM) {
                return 550;
            }
            return 0;
        }

        private boolean argumentFits(int kind) {
            if (!reader.hasArgument()) {
                return kind == NO_ARGUMENT;
            }
            switch (kind) {
                case TEXT:
                    return true;
                case LETTER:
                    return reader.argumentIs("A") || reader.argumentIs("I");
                case DIGITS:
                    return reader.argumentNumber() != NONE && reader.argumentNumber() <= FILE_ROOM;
                case PATH:
                    return path.isValid;
                default:
                    return false;
            }
        }

        /** Drops what the line before had left for this one, but for what this one leaves. */
        private void forget(Command command) {
            if (answered != 331) {
                named = NOBODY;
            }
            if (answered != 350 || command != Command.RNFR) {
                renaming = NONE;
            }
            if (answered != 350 || command != Command.REST) {
                offset = 0;
            }
        }

        /** Finds what the line's path leads to, and where it could make something new. */
        private void locate() {
            int from = store.currents[me];
            target = store.follow(path, from, path.count);
            int directory = store.follow(path, from, path.count - 1);
            boolean isNew = target == NONE && path.newName() != UP && store.isDirectory(directory);
            place = isNew ? directory : NONE;
        }

        private int obeyPlain(Command command) {
            switch (command) {
                case USER:
                    return nameUser();
                case PASS:
                    return logIn();
                case QUIT:
                    startOver();
                    return 221;
                case NOOP:
                    return 200;
                case TYPE:
                    isAscii = reader.argumentIs("A");
                    return 200;
                case PWD:
                    shown = store.currents[me];
                    return 257;
                case CDUP:
                    store.currents[me] = store.parentOf(store.currents[me]);
                    return 250;
                case PASV:
                    way.isOpen = true;
                    return 227;
                case REST:
                    offset = reader.argumentNumber();
                    return 350;
                case NLST:
                    return sendNames();
                case ABOR:
                    return abort();
                default:
                    return 500;
            }
        }

        private int obeyPath(Command command) {
            switch (command) {
                case CWD:
                    return changeDirectory();
                case SIZE:
                    return tellSize();
                case RETR:
                    return sendFile();
                case STOR:
                    return receiveFile(offset);
                case APPE:
                    return receiveFile(targetSize());
                case DELE:
                    return removeFile();
                case MKD:
                    return makeDirectory();
                case RMD:
                    return removeDirectory();
                case RNFR:
                    return chooseForRename();
                case RNTO:
                    return rename();
                default:
                    return 500;
            }
        }

        private int nameUser() {
            logOut();
            named = STRANGER;
            if (reader.argumentIs("adm")) {
                named = ADM;
            }
            if (reader.argumentIs("any")) {
                named = ANY;
            }
            return 331;
        }

        private int logIn() {
            if (named == NOBODY) {
                return 503;
            }
            if (named == STRANGER || named == ADM && !reader.argumentIs("key")) {
                return 530;
            }
            user = named;
            store.currents[me] = ROOT;
            isAscii = false;
            return 230;
        }

        private int sendNames() {
            if (!way.isOpen) {
                return 425;
            }
            way.beginNames();
            for (int n = ROOT + 1; n < NODES; n++) {
                if (store.nodes[n].isIn(store.currents[me])) {
                    way.loadName(store.nodes[n].name);
                }
            }
            return 150;
        }

        private int abort() {
            int ended = way.mode;
            way.end();
            return ended == IDLE ? 226 : 426;
        }

        private int changeDirectory() {
            if (!store.isDirectory(target)) {
                return 550;
            }
            store.currents[me] = target;
            return 250;
        }

        private int targetSize() {
            return store.isFile(target) ? store.nodes[target].bytes.count : 0;
        }

        private int tellSize() {
            if (!store.isFile(target)) {
                return 550;
            }
            number = store.nodes[target].bytes.count;
            return 213;
        }

        private int sendFile() {
            if (!store.isFile(target)) {
                return 550;
            }
            Node file = store.nodes[target];
            if (file.isWritten) {
                return 450;
            }
            if (!way.isOpen) {
                return 425;
            }
            if (offset > file.bytes.count) {
                return 554;
            }
            way.sendFile(file, offset, isAscii);
            return 150;
        }

        private int receiveFile(int kept) {
            boolean isNew = place != NONE;
            if (!isNew && !store.isFile(target)) {
                return 550;
            }
            if (!isNew && store.nodes[target].isBusy()) {
                return 450;
            }
            if (!way.isOpen) {
                return 425;
            }
            if (kept > targetSize()) {
                return 554;
            }
            int n = isNew ? store.make(FILE, place, path.newName()) : target;
            if (n == NONE) {
                return 552;
            }
            way.receiveFile(store.nodes[n], kept, isAscii);
            return 150;
        }

        private int removeFile() {
            if (!store.isFile(target)) {
                return 550;
            }
            if (store.nodes[target].isBusy()) {
                return 450;
            }
            store.nodes[target].kind = NOTHING;
            return 250;
        }

        private int makeDirectory() {
            if (place == NONE) {
                return 550;
            }
            shown = store.make(DIRECTORY, place, path.newName());
            return shown == NONE ? 552 : 257;
        }

        private int removeDirectory() {
            if (!store.isDirectory(target) || target == ROOT) {
                return 550;
            }
            if (store.countIn(target) > 0 || store.isCurrent(target)) {
                return 550;
            }
            store.nodes[target].kind = NOTHING;
            return 250;
        }

        private int chooseForRename() {
            if (target == NONE || target == ROOT) {
                return 550;
            }
            renaming = target;
            return 350;
        }

        private int rename() {
            if (renaming == NONE) {
                return 503;
            }
            if (!store.isThere(renaming) || place == NONE || store.isWithin(place, renaming)) {
                return 550;
            }
            Node renamed = store.nodes[renaming];
            if (renamed.isBusy()) {
                return 450;
            }
            renamed.parent = place;
            renamed.name = path.newName();
            return 250;
        }
    }

    /** Fetches a file into a shelf, or brings one from a shelf, by the lines of a session. */
    private static final class Copier {
        private final Session session;
        private ByteRow shelf;
        private boolean isOn;
        private boolean isBringing;
        private int name;
        private int tries;
        private int next;
        // No try was left when the session was cut: the next step fails, whatever comes before it.
        private boolean isLost;
        private int size;

        Copier(Session session, ByteRow shelf) {
            this.session = session;
            this.shelf = shelf;
        }

        void start(boolean bringing, ByteRow chosen, int fileName, int triesLeft) {
            isOn = true;
            isBringing = bringing;
            shelf = chosen;
            name = fileName;
            tries = triesLeft;
            next = LOG_IN;
            isLost = false;
            size = 0;
        }

        // Without a job this changes nothing that start() doesn't set again.
        void interrupt() {
            next = LOG_IN;
            if (tries > 0) {
                tries--;
            } else {
                isLost = true;
            }
        }

        int finish(int outcome) {
            isOn = false;
            return outcome;
        }

        private int goTo(int stepNumber) {
            next = stepNumber;
            return next;
        }

        /** Sends a line: a text, and behind it characters held as a name is (0 for none). */
        private void say(String text, int tail) {
            for (int i = 0; i < text.length(); i++) {
                session.accept(text.charAt(i));
            }
            int rest = tail;
            for (int i = 0; i < NAME_LENGTH && rest > 0; i++) {
                session.accept(rest % NAME_BASE);
                rest = rest / NAME_BASE;
            }
            session.accept(RETURN);
            session.accept(NEWLINE);
        }

        /** A number up to 24 as say() takes it. */
        private static int digitsOf(int number) {
            return number < 10 ? '0' + number : '0' + number / 10 + ('0' + number % 10) * NAME_BASE;
        }

        int logIn() {
            say("USER adm", 0);
            say("PASS key", 0);
            say("TYPE I", 0);
            say("PASV", 0);
            return goTo(BEGIN);
        }

        int beginFetching() {
            say("SIZE /", name);
            if (session.answered != 213) {
                return finish(FAILED);
            }
            size = session.number;
            if (shelf.count > size) {
                shelf.count = 0;
            }
            say("REST ", digitsOf(shelf.count));
            say("RETR /", name);
            return session.answered == 150 ? goTo(MOVE) : finish(FAILED);
        }

        int beginBringing() {
            say("SIZE /", TMP);
            int offset = session.answered == 213 ? session.number : 0;
            if (offset > shelf.count) {
                say("DELE /", TMP);
                offset = 0;
            }
            say("REST ", digitsOf(offset));
            say("STOR /", TMP);
            return session.answered == 150 ? goTo(MOVE) : finish(FAILED);
        }

        int fetchByte() {
            if (session.way.mode == SENDING) {
                shelf.add(session.sendByte());
                return goTo(MOVE);
            }
            return finish(shelf.count == size ? DONE : FAILED);
        }

        int bringByte() {
            if (session.way.mode != RECEIVING || session.way.file == null) {
                return finish(FAILED);
            }
            int place = session.way.file.bytes.count;
            if (place < shelf.count) {
                session.way.receiveByte(shelf.at(place));
                return goTo(MOVE);
            }
            session.clientCloses();
            return goTo(PUT_IN_PLACE);
        }

        int putInPlace() {
            say("DELE /", name);
            say("RNFR /", TMP);
            say("RNTO /", name);
            return finish(session.answered == 250 ? DONE : FAILED);
        }
    }
}
