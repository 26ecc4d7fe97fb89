/**
 * A relay for those who can't be reached: a STUN and TURN server over datagrams (RFC 8489,
 * RFC 8656; IPv4 and SHA-256 alone), and a desk that writes what comes to it.
 *
 * <p>All rows are made with the object and used again by every call, so that a call makes nothing.
 */
public final class RelayHouse {
    /** There is none. */
    public static final int NONE = -1;

    private static final int MOST_COMING = 400;
    // A Data indication around a full datagram is the largest that is sent: 20 + 12 + 4 + 400.
    private static final int MOST_SENT = 436;
    private static final int HEAD = 20;
    private static final int ATTRIBUTE_HEAD = 4;
    private static final int MOST_ATTRIBUTES = (MOST_SENT - HEAD) / ATTRIBUTE_HEAD;
    private static final int COOKIE = 554869826;
    private static final int COOKIE_TOP = 8466;

    private static final int SERVER_IP = (int) 3232235777L;
    private static final int SERVER_PORT = 3478;
    private static final int MOST_PORT = 65535;
    private static final int FIRST_RELAYED = 49152;
    private static final int FIRST_CHANNEL = 16384;
    private static final int LAST_CHANNEL = 20479;
    private static final int UDP = 17;

    private static final int MOST_USERS = 8;
    private static final int MOST_ALLOCATIONS = 8;
    private static final int MOST_PERMISSIONS = 16;
    private static final int MOST_CHANNELS = 8;
    private static final int MOST_FORBIDDEN = 4;
    private static final int MOST_UNKNOWN = 8;
    // A PEER takes 12 bytes, so that no datagram brings more.
    private static final int MOST_PEERS = (MOST_COMING - HEAD) / 12;
    private static final int MOST_TICK = 10000;

    private static final int SHORTEST_LIFE = 600;
    private static final int LONGEST_LIFE = 3600;
    private static final int PERMISSION_LIFE = 300;
    private static final int CHANNEL_LIFE = 600;

    private static final int USERNAME = 6;
    private static final int ERROR = 9;
    private static final int UNKNOWN = 10;
    private static final int CHANNEL = 12;
    private static final int LIFETIME = 13;
    private static final int PEER = 18;
    private static final int DATA = 19;
    private static final int REALM = 20;
    private static final int NONCE = 21;
    private static final int RELAYED = 22;
    private static final int TRANSPORT = 25;
    private static final int INTEGRITY = 28;
    private static final int MAPPED = 32;
    private static final int FINGERPRINT = 32808;
    private static final int FIRST_OPTIONAL = 32768;

    private static final int INTEGRITY_SIZE = 32;
    private static final int FINGERPRINT_SIZE = 4;
    private static final int FINGERPRINT_MASK = 1398035790;

    private static final int BINDING = 1;
    private static final int ALLOCATE = 3;
    private static final int REFRESH = 4;
    private static final int SEND = 6;
    private static final int DATA_METHOD = 7;
    private static final int CREATE_PERMISSION = 8;
    private static final int CHANNEL_BIND = 9;

    private static final int REQUEST = 0;
    private static final int INDICATION = 1;
    private static final int SUCCESS = 2;
    private static final int FAILURE = 3;

    private static final int FINE = 0;
    private static final int BAD_REQUEST = 400;
    private static final int UNAUTHORIZED = 401;
    private static final int FORBIDDEN = 403;
    private static final int UNKNOWN_ATTRIBUTE = 420;
    private static final int MISMATCH = 437;
    private static final int STALE_NONCE = 438;
    private static final int WRONG_USER = 441;
    private static final int WRONG_TRANSPORT = 442;
    private static final int QUOTA_REACHED = 486;
    private static final int NO_CAPACITY = 508;

    // What count() is asked for, where the post keeps it.
    private static final int ALL_SENT = 4;
    private static final int INDICATIONS_SENT = 5;
    private static final int SENT_TO_PEERS = 6;
    private static final int SENT_FROM_PEERS = 7;
    private static final int ERRORS_SENT = 8;
    private static final int SILENT_STEPS = 9;

    private final Row tape;
    private final Seal seal;
    private final Pen desk;
    private final Users users;
    private final Fence fence;
    private final Book book;
    private final Post post;
    private final Server server;

    public RelayHouse() {
        tape = new Row(MOST_COMING);
        seal = new Seal();
        desk = new Pen(tape, seal);
        users = new Users();
        fence = new Fence();
        book = new Book();
        post = new Post();
        server = new Server(tape, users, fence, book, post, seal);
    }

    // ---- the desk: the TAPE.

    public int feed(int a, int b, int c, int d, int e) {
        if (tape.size() + 20 > tape.most()) {
            return NONE;
        }
        tape.addNumber(a, 4);
        tape.addNumber(b, 4);
        tape.addNumber(c, 4);
        tape.addNumber(d, 4);
        tape.addNumber(e, 4);
        return tape.size();
    }

    public int end(int n) {
        if (n < 0 || n > tape.size()) {
            return NONE;
        }
        tape.cut(n);
        return n;
    }

    public int message(int type, int a, int b, int c) {
        if (type < 0 || type > 16383) {
            return NONE;
        }
        desk.openLetter(type, a, b, c);
        return tape.size();
    }

    public int number(int kind, int size, int v) {
        if (size < 0 || size > 4 || !desk.takes(kind, size)) {
            return NONE;
        }
        desk.addValue(kind, v, size);
        return tape.size();
    }

    public int text(int kind, long a, long b) {
        long first = Users.packed(a);
        long second = Users.packed(b);
        if (!desk.takes(kind, Users.sizeOf(first) + Users.sizeOf(second))) {
            return NONE;
        }
        desk.addWords(kind, first, second);
        return tape.size();
    }

    public int nonce(int kind, long v) {
        if (!desk.takes(kind, 8)) {
            return NONE;
        }
        desk.addValue(kind, v, 8);
        return tape.size();
    }

    public int address(int kind, int ip, int port) {
        if (port < 0 || port > MOST_PORT || !desk.takes(kind, 8)) {
            return NONE;
        }
        desk.addAddress(kind, ip, port);
        return tape.size();
    }

    public int sign(long user, long password) {
        if (!Users.isWord(user) || !Users.isWord(password) || !desk.takes(INTEGRITY, INTEGRITY_SIZE)) {
            return NONE;
        }
        seal.setKey(Users.packed(user), users.realmWord(), Users.packed(password));
        desk.addIntegrity();
        return tape.size();
    }

    public int finger() {
        if (!desk.takes(FINGERPRINT, FINGERPRINT_SIZE)) {
            return NONE;
        }
        desk.addFingerprint();
        return tape.size();
    }

    public int tape(int i) {
        return tape.at(i);
    }

    public int alter(int i, int mask) {
        if (i < 0 || i >= tape.size() || mask < 1 || mask > 255) {
            return NONE;
        }
        tape.set(i, tape.at(i) ^ mask);
        return tape.at(i);
    }

    // ---- the server.

    public int user(long name, long password) {
        if (!Users.isWord(name) || !Users.isWord(password)) {
            return NONE;
        }
        return users.enter(Users.packed(name), Users.packed(password));
    }

    public int realm(long name) {
        if (!Users.isWord(name)) {
            return NONE;
        }
        users.setRealm(Users.packed(name));
        return users.size();
    }

    public int fresh(long v) {
        users.setNonce(v);
        return 0;
    }

    public int part(int n) {
        if (n < 0 || n > MOST_ALLOCATIONS) {
            return NONE;
        }
        int before = users.share();
        users.setShare(n);
        return before;
    }

    public int forbid(int ip, int bits) {
        if (bits < 0 || bits > 32) {
            return NONE;
        }
        return fence.raise(ip, bits);
    }

    public int tick(int n) {
        if (n < 0 || n > MOST_TICK) {
            return NONE;
        }
        return book.pass(n);
    }

    public int datagram(int ip, int port) {
        if (port < 1 || port > MOST_PORT) {
            return NONE;
        }
        return server.fromClient(ip, port);
    }

    public int peer(int relayed, int ip, int port) {
        if (port < 1 || port > MOST_PORT) {
            return NONE;
        }
        return server.fromPeer(relayed, ip, port);
    }

    // ---- what was SENT, what there is.

    public int sent(int what) {
        return post.tell(what);
    }

    public int octet(int i) {
        return post.row().at(i);
    }

    public int attribute(int i, int what) {
        return post.letter().tell(i, what);
    }

    public int allocation(int k, int what) {
        Allocation held = book.at(k);
        return held == null ? NONE : held.tell(what, book.now());
    }

    public int permission(int k, int ip) {
        Allocation held = book.at(k);
        return held == null ? 0 : held.permissionLeft(ip, book.now());
    }

    public int channel(int k, int number) {
        Allocation held = book.at(k);
        return held == null ? 0 : held.channelLeft(number, book.now());
    }

    public int count(int what) {
        switch (what) {
            case 0:
                return (int) (book.now() & 0x7fffffff);
            case 1:
                return users.size();
            case 2:
                return book.size();
            case 3:
                return tape.size();
            default:
                return post.tally(what);
        }
    }

    /** Bytes with an end that moves; nothing outside is ever touched. */
    private static final class Row {
        private final byte[] bytes;
        private int size;

        Row(int most) {
            bytes = new byte[Math.max(0, most)];
        }

        int size() {
            return size;
        }

        int most() {
            return bytes.length;
        }

        int at(int i) {
            return i >= 0 && i < size ? bytes[i] & 255 : NONE;
        }

        void set(int i, int value) {
            if (i >= 0 && i < size) {
                bytes[i] = (byte) value;
            }
        }

        void cut(int n) {
            if (n >= 0 && n < size) {
                size = n;
            }
        }

        void addNumber(long value, int width) {
            for (int shift = 8 * (width - 1); shift >= 0; shift -= 8) {
                if (size < bytes.length) {
                    bytes[size] = (byte) (value >>> shift);
                    size++;
                }
            }
        }

        void addZeros(int width) {
            for (int i = 0; i < width && size < bytes.length; i++) {
                bytes[size] = 0;
                size++;
            }
        }

        void addFrom(Row other, int start, int width) {
            if (start >= 0 && width >= 0 && start + width <= other.size && size + width <= bytes.length) {
                System.arraycopy(other.bytes, start, bytes, size, width);
                size += width;
            }
        }

        long numberAt(int start, int width) {
            long value = 0;
            for (int i = start; i < start + width; i++) {
                value = value << 8 | (i >= 0 && i < size ? bytes[i] & 255 : 0);
            }
            return value;
        }
    }

    /** What stands in a row, if that is a MESSAGE. */
    private static final class Letter {
        private final Row row;
        private final int[] kinds = new int[MOST_ATTRIBUTES];
        private final int[] sizes = new int[MOST_ATTRIBUTES];
        private final int[] starts = new int[MOST_ATTRIBUTES];
        // Whether an ATTRIBUTE is as told for its kind: one that isn't counts as not there.
        private final boolean[] sound = new boolean[MOST_ATTRIBUTES];
        private boolean whole;
        private int size;
        private int integrity;
        private int finger;
        // Those behind the first INTEGRITY don't count.
        private int counting;

        Letter(Row row) {
            this.row = row;
        }

        boolean read() {
            size = 0;
            integrity = NONE;
            finger = NONE;
            whole = row.size() >= HEAD && row.at(0) < 64
                    && row.numberAt(2, 2) == row.size() - HEAD
                    && row.numberAt(4, 4) == COOKIE
                    && readAttributes();
            if (!whole) {
                size = 0;
            }
            counting = integrity == NONE ? size : Math.min(size, integrity + 1);
            return whole;
        }

        private boolean readAttributes() {
            int at = HEAD;
            for (int i = 0; i < MOST_ATTRIBUTES && at + ATTRIBUTE_HEAD <= row.size(); i++) {
                kinds[i] = (int) row.numberAt(at, 2);
                sizes[i] = (int) row.numberAt(at + 2, 2);
                starts[i] = at + ATTRIBUTE_HEAD;
                sound[i] = isSound(kinds[i], sizes[i], row.at(starts[i] + 1));
                if (sound[i] && kinds[i] == INTEGRITY && integrity == NONE) {
                    integrity = i;
                }
                if (sound[i] && kinds[i] == FINGERPRINT && finger == NONE) {
                    finger = i;
                }
                size = i + 1;
                at += ATTRIBUTE_HEAD + Pen.padded(sizes[i]);
            }
            return at == row.size();
        }

        private static boolean isSound(int kind, int width, int family) {
            switch (kind) {
                case USERNAME:
                case REALM:
                    return width >= 1 && width <= 8;
                case NONCE:
                    return width == 8;
                case PEER:
                case RELAYED:
                case MAPPED:
                    return width == 8 && family == 1;
                case ERROR:
                case CHANNEL:
                case LIFETIME:
                case TRANSPORT:
                case FINGERPRINT:
                    return width == 4;
                case UNKNOWN:
                    return width % 2 == 0;
                case INTEGRITY:
                    return width == INTEGRITY_SIZE;
                default:
                    return true;
            }
        }

        /** The first ATTRIBUTE of a kind that counts. */
        int find(int kind) {
            for (int i = 0; i < counting; i++) {
                if (kinds[i] == kind && sound[i]) {
                    return i;
                }
            }
            return NONE;
        }

        boolean isWhole() {
            return whole;
        }

        int size() {
            return size;
        }

        int method() {
            int type = (int) row.numberAt(0, 2);
            return type & 15 | type >> 1 & 112 | type >> 2 & 3968;
        }

        int rank() {
            int type = (int) row.numberAt(0, 2);
            return type >> 4 & 1 | type >> 7 & 2;
        }

        int sizeOf(int i) {
            return i >= 0 && i < size ? sizes[i] : 0;
        }

        int startOf(int i) {
            return i >= 0 && i < size ? starts[i] : 0;
        }

        long valueOf(int i) {
            return row.numberAt(startOf(i), Math.min(8, sizeOf(i)));
        }

        int ipOf(int i) {
            return (int) row.numberAt(startOf(i) + 4, 4) ^ COOKIE;
        }

        int portOf(int i) {
            return (int) row.numberAt(startOf(i) + 2, 2) ^ COOKIE_TOP;
        }

        boolean hasFingerprint() {
            return finger != NONE;
        }

        boolean isFingerprintWrong() {
            if (finger == NONE) {
                return false;
            }
            int ahead = startOf(finger) - ATTRIBUTE_HEAD;
            return finger != size - 1 || (int) valueOf(finger) != Pen.fingerprint(row, ahead);
        }

        /** Fills a row with the STRANGE kinds, each once: how many. */
        int strangeKinds(int[] found) {
            int n = 0;
            for (int i = 0; i < counting && n < found.length; i++) {
                if (isStrange(kinds[i]) && !isAmong(found, n, kinds[i])) {
                    found[n] = kinds[i];
                    n++;
                }
            }
            return n;
        }

        /** Fills a row with the IPs of all PEERS, each once: how many. */
        int peerIps(int[] found) {
            int n = 0;
            for (int i = 0; i < counting && n < found.length; i++) {
                if (kinds[i] == PEER && sound[i]) {
                    int ip = (int) row.numberAt(starts[i] + 4, 4) ^ COOKIE;
                    if (!isAmong(found, n, ip)) {
                        found[n] = ip;
                        n++;
                    }
                }
            }
            return n;
        }

        private static boolean isAmong(int[] found, int n, int value) {
            for (int i = 0; i < n && i < found.length; i++) {
                if (found[i] == value) {
                    return true;
                }
            }
            return false;
        }

        private static boolean isStrange(int kind) {
            switch (kind) {
                case USERNAME:
                case ERROR:
                case UNKNOWN:
                case CHANNEL:
                case LIFETIME:
                case PEER:
                case DATA:
                case REALM:
                case NONCE:
                case RELAYED:
                case TRANSPORT:
                case INTEGRITY:
                case MAPPED:
                    return false;
                default:
                    return kind < FIRST_OPTIONAL;
            }
        }

        int tell(int i, int what) {
            if (i < 0 || i >= size) {
                return NONE;
            }
            switch (what) {
                case 0:
                    return kinds[i];
                case 1:
                    return sizes[i];
                case 2:
                    return starts[i];
                case 3:
                    return (int) row.numberAt(starts[i], Math.min(4, sizes[i]));
                case 4:
                    return isAddress(i) ? portOf(i) : 0;
                case 5:
                    return isAddress(i) ? ipOf(i) : 0;
                case 6:
                    return kinds[i] == ERROR && sound[i] ? errorOf(i) : 0;
                default:
                    return NONE;
            }
        }

        private boolean isAddress(int i) {
            return (kinds[i] == PEER || kinds[i] == RELAYED || kinds[i] == MAPPED) && sound[i];
        }

        private int errorOf(int i) {
            return row.at(starts[i] + 2) * 100 + row.at(starts[i] + 3);
        }
    }

    /** SHA-256. */
    private static final class Sha {
        private static final int BLOCK = 64;
        private static final int[] ROUNDS = {
            0x428a2f98, 0x71374491, 0xb5c0fbcf, 0xe9b5dba5, 0x3956c25b, 0x59f111f1, 0x923f82a4, 0xab1c5ed5,
            0xd807aa98, 0x12835b01, 0x243185be, 0x550c7dc3, 0x72be5d74, 0x80deb1fe, 0x9bdc06a7, 0xc19bf174,
            0xe49b69c1, 0xefbe4786, 0x0fc19dc6, 0x240ca1cc, 0x2de92c6f, 0x4a7484aa, 0x5cb0a9dc, 0x76f988da,
            0x983e5152, 0xa831c66d, 0xb00327c8, 0xbf597fc7, 0xc6e00bf3, 0xd5a79147, 0x06ca6351, 0x14292967,
            0x27b70a85, 0x2e1b2138, 0x4d2c6dfc, 0x53380d13, 0x650a7354, 0x766a0abb, 0x81c2c92e, 0x92722c85,
            0xa2bfe8a1, 0xa81a664b, 0xc24b8b70, 0xc76c51a3, 0xd192e819, 0xd6990624, 0xf40e3585, 0x106aa070,
            0x19a4c116, 0x1e376c08, 0x2748774c, 0x34b0bcb5, 0x391c0cb3, 0x4ed8aa4a, 0x5b9cca4f, 0x682e6ff3,
            0x748f82ee, 0x78a5636f, 0x84c87814, 0x8cc70208, 0x90befffa, 0xa4506ceb, 0xbef9a3f7, 0xc67178f2
        };
        private static final int[] FIRST = {
            0x6a09e667, 0xbb67ae85, 0x3c6ef372, 0xa54ff53a, 0x510e527f, 0x9b05688c, 0x1f83d9ab, 0x5be0cd19
        };

        private final int[] state = new int[8];
        private final int[] words = new int[64];

        /** Makes the digest of a text, behind which it writes what belongs there. */
        void digest(Row text, Row result) {
            long bits = 8L * text.size();
            text.addNumber(128, 1);
            text.addZeros(BLOCK - 8 - text.size() & BLOCK - 1);
            text.addNumber(bits, 8);
            System.arraycopy(FIRST, 0, state, 0, 8);
            for (int start = 0; start < text.size(); start += BLOCK) {
                for (int i = 0; i < 16; i++) {
                    words[i] = (int) text.numberAt(start + 4 * i, 4);
                }
                spread();
                stir();
            }
            result.cut(0);
            for (int i = 0; i < 8; i++) {
                result.addNumber(state[i], 4);
            }
        }

        private void spread() {
            for (int i = 16; i < 64; i++) {
                int x = words[i - 15];
                int y = words[i - 2];
                int low = (x >>> 7 | x << 25) ^ (x >>> 18 | x << 14) ^ x >>> 3;
                int high = (y >>> 17 | y << 15) ^ (y >>> 19 | y << 13) ^ y >>> 10;
                words[i] = words[i - 16] + low + words[i - 7] + high;
            }
        }

        private void stir() {
            int a = state[0];
            int b = state[1];
            int c = state[2];
            int d = state[3];
            int e = state[4];
            int f = state[5];
            int g = state[6];
            int h = state[7];
            for (int i = 0; i < 64; i++) {
                int turnedE = (e >>> 6 | e << 26) ^ (e >>> 11 | e << 21) ^ (e >>> 25 | e << 7);
                int turnedA = (a >>> 2 | a << 30) ^ (a >>> 13 | a << 19) ^ (a >>> 22 | a << 10);
                int one = h + turnedE + (e & f ^ ~e & g) + ROUNDS[i] + words[i];
                int two = turnedA + (a & b ^ a & c ^ b & c);
                h = g;
                g = f;
                f = e;
                e = d + one;
                d = c;
                c = b;
                b = a;
                a = one + two;
            }
            state[0] += a;
            state[1] += b;
            state[2] += c;
            state[3] += d;
            state[4] += e;
            state[5] += f;
            state[6] += g;
            state[7] += h;
        }
    }

    /** INTEGRITY: a KEY, and the HMAC-SHA-256 with it. */
    private static final class Seal {
        private static final int INNER = 0x36;
        private static final int OUTER = 0x5c;

        private final Sha sha = new Sha();
        // A block with the KEY, a MESSAGE, and what SHA-256 writes behind them.
        private final Row text = new Row(Sha.BLOCK + MOST_SENT + Sha.BLOCK + 8);
        private final Row key = new Row(INTEGRITY_SIZE);
        private final Row mac = new Row(INTEGRITY_SIZE);

        void setKey(long user, long realm, long password) {
            text.cut(0);
            text.addNumber(user, Users.sizeOf(user));
            text.addNumber(':', 1);
            text.addNumber(realm, Users.sizeOf(realm));
            text.addNumber(':', 1);
            text.addNumber(password, Users.sizeOf(password));
            sha.digest(text, key);
        }

        /** Makes the INTEGRITY that belongs behind so many bytes of a row. */
        void make(Row row, int ahead) {
            int length = ahead + ATTRIBUTE_HEAD + INTEGRITY_SIZE - HEAD;
            startWithKey(INNER);
            text.addFrom(row, 0, ahead);
            text.set(Sha.BLOCK + 2, length >> 8);
            text.set(Sha.BLOCK + 3, length);
            sha.digest(text, mac);
            startWithKey(OUTER);
            text.addFrom(mac, 0, INTEGRITY_SIZE);
            sha.digest(text, mac);
        }

        private void startWithKey(int mask) {
            text.cut(0);
            text.addFrom(key, 0, key.size());
            text.addZeros(Sha.BLOCK - key.size());
            for (int i = 0; i < Sha.BLOCK; i++) {
                text.set(i, text.at(i) ^ mask);
            }
        }

        boolean standsAt(Row row, int start) {
            for (int i = 0; i < INTEGRITY_SIZE; i++) {
                if (row.at(start + i) != mac.at(i)) {
                    return false;
                }
            }
            return true;
        }

        void write(Row row) {
            row.addFrom(mac, 0, INTEGRITY_SIZE);
        }
    }

    /** Writes MESSAGES into a row. */
    private static final class Pen {
        // CRC-32, four bits at a time.
        private static final int[] NIBBLES = {
            0x00000000, 0x1db71064, 0x3b6e20c8, 0x26d930ac, 0x76dc4190, 0x6b6b51f4, 0x4db26158, 0x5005713c,
            0xedb88320, 0xf00f9344, 0xd6d6a3e8, 0xcb61b38c, 0x9b64c2b0, 0x86d3d2d4, 0xa00ae278, 0xbdbdf21c
        };

        private final Row row;
        private final Seal seal;

        Pen(Row row, Seal seal) {
            this.row = row;
            this.seal = seal;
        }

        static int padded(int width) {
            return width + 3 & ~3;
        }

        static int fingerprint(Row row, int ahead) {
            int crc = ~0;
            for (int i = 0; i < ahead; i++) {
                crc ^= row.at(i) & 255;
                crc = crc >>> 4 ^ NIBBLES[crc & 15];
                crc = crc >>> 4 ^ NIBBLES[crc & 15];
            }
            return ~crc ^ FINGERPRINT_MASK;
        }

        static int typeOf(int method, int rank) {
            return method & 15 | (rank & 1) << 4 | (method & 112) << 1 | (rank & 2) << 7 | (method & 3968) << 2;
        }

        boolean takes(int kind, int width) {
            return kind >= 0 && kind <= 65535 && row.size() >= HEAD && row.size() % 4 == 0
                    && row.size() + ATTRIBUTE_HEAD + padded(width) <= row.most();
        }

        void openLetter(int type, int a, int b, int c) {
            row.cut(0);
            row.addNumber(type, 2);
            row.addNumber(0, 2);
            row.addNumber(COOKIE, 4);
            row.addNumber(a, 4);
            row.addNumber(b, 4);
            row.addNumber(c, 4);
        }

        // LENGTH is set ahead of the bytes, as INTEGRITY and FINGERPRINT are made with it.
        private void open(int kind, int width) {
            int length = row.size() + ATTRIBUTE_HEAD + padded(width) - HEAD;
            row.set(2, length >> 8);
            row.set(3, length);
            row.addNumber(kind, 2);
            row.addNumber(width, 2);
        }

        private void close(int width) {
            row.addZeros(padded(width) - width);
        }

        void addValue(int kind, long value, int width) {
            open(kind, width);
            row.addNumber(value, width);
            close(width);
        }

        void addWords(int kind, long first, long second) {
            int width = Users.sizeOf(first) + Users.sizeOf(second);
            open(kind, width);
            row.addNumber(first, Users.sizeOf(first));
            row.addNumber(second, Users.sizeOf(second));
            close(width);
        }

        void addAddress(int kind, int ip, int port) {
            open(kind, 8);
            row.addNumber(1, 2);
            row.addNumber(port ^ COOKIE_TOP, 2);
            row.addNumber(ip ^ COOKIE, 4);
        }

        void addKinds(int[] kinds, int n) {
            open(UNKNOWN, 2 * n);
            for (int i = 0; i < n && i < kinds.length; i++) {
                row.addNumber(kinds[i], 2);
            }
            close(2 * n);
        }

        void addData(Row data) {
            open(DATA, data.size());
            row.addFrom(data, 0, data.size());
            close(data.size());
        }

        void addIntegrity() {
            seal.make(row, row.size());
            open(INTEGRITY, INTEGRITY_SIZE);
            seal.write(row);
        }

        void addFingerprint() {
            int ahead = row.size();
            open(FINGERPRINT, FINGERPRINT_SIZE);
            row.addNumber(fingerprint(row, ahead), FINGERPRINT_SIZE);
        }
    }

    /** USERS, and what they must know. Words are kept packed: without the bytes that are 0. */
    private static final class Users {
        private final long[] names = new long[MOST_USERS];
        private final long[] passwords = new long[MOST_USERS];
        private int size;
        private long realm = 'r';
        private long nonce;
        private int share = 2;

        static long packed(long word) {
            long kept = 0;
            for (int shift = 56; shift >= 0; shift -= 8) {
                long value = word >>> shift & 255;
                if (value != 0) {
                    kept = kept << 8 | value;
                }
            }
            return kept;
        }

        static int sizeOf(long packed) {
            return (71 - Long.numberOfLeadingZeros(packed)) / 8;
        }

        static boolean isWord(long word) {
            for (int shift = 56; shift >= 0; shift -= 8) {
                int value = (int) (word >>> shift) & 255;
                if (value != 0 && (value < 33 || value > 126 || value == ':')) {
                    return false;
                }
            }
            return word != 0;
        }

        int size() {
            return size;
        }

        int enter(long name, long password) {
            int found = find(name);
            if (found != NONE) {
                passwords[found] = password;
                return size;
            }
            if (size >= MOST_USERS) {
                return NONE;
            }
            names[size] = name;
            passwords[size] = password;
            size++;
            return size;
        }

        int find(long name) {
            for (int i = 0; i < size && i < MOST_USERS; i++) {
                if (names[i] == name) {
                    return i;
                }
            }
            return NONE;
        }

        long nameOf(int user) {
            return user >= 0 && user < MOST_USERS ? names[user] : 0;
        }

        long passwordOf(int user) {
            return user >= 0 && user < MOST_USERS ? passwords[user] : 0;
        }

        long realmWord() {
            return realm;
        }

        void setRealm(long word) {
            realm = word;
        }

        long nonceNow() {
            return nonce;
        }

        void setNonce(long value) {
            nonce = value;
        }

        int share() {
            return share;
        }

        void setShare(int n) {
            share = n;
        }
    }

    /** The IPs that are FORBIDDEN. */
    private static final class Fence {
        private final int[] ips = new int[MOST_FORBIDDEN];
        private final int[] masks = new int[MOST_FORBIDDEN];
        private int size;

        int raise(int ip, int bits) {
            if (size >= MOST_FORBIDDEN) {
                return NONE;
            }
            ips[size] = ip;
            // A shift by 32 would be one by 0.
            masks[size] = bits == 0 ? 0 : -1 << 32 - bits;
            size++;
            return size;
        }

        boolean bars(int ip) {
            for (int i = 0; i < size && i < MOST_FORBIDDEN; i++) {
                if (((ip ^ ips[i]) & masks[i]) == 0) {
                    return true;
                }
            }
            return false;
        }
    }

    /** An ALLOCATION with its PERMISSIONS and CHANNELS. */
    private static final class Allocation {
        boolean there;
        int clientIp;
        int clientPort;
        int user;
        int relayed;
        long till;
        private long idTop;
        private int idRest;
        private final int[] permittedIps = new int[MOST_PERMISSIONS];
        private final long[] permittedTill = new long[MOST_PERMISSIONS];
        private int permissions;
        private final int[] numbers = new int[MOST_CHANNELS];
        private final int[] boundIps = new int[MOST_CHANNELS];
        private final int[] boundPorts = new int[MOST_CHANNELS];
        private final long[] boundTill = new long[MOST_CHANNELS];
        private int channels;

        void begin(int ip, int port, int owner, int ownPort) {
            there = true;
            clientIp = ip;
            clientPort = port;
            user = owner;
            relayed = ownPort;
            permissions = 0;
            channels = 0;
        }

        void setId(long top, int rest) {
            idTop = top;
            idRest = rest;
        }

        boolean isMadeBy(long top, int rest) {
            return idTop == top && idRest == rest;
        }

        int left(long now) {
            return (int) (till - now);
        }

        void dropPast(long now) {
            there = till > now;
            int kept = 0;
            for (int i = 0; i < permissions && i < MOST_PERMISSIONS; i++) {
                if (permittedTill[i] > now) {
                    permittedIps[kept] = permittedIps[i];
                    permittedTill[kept] = permittedTill[i];
                    kept++;
                }
            }
            permissions = kept;
            kept = 0;
            for (int i = 0; i < channels && i < MOST_CHANNELS; i++) {
                if (boundTill[i] > now) {
                    numbers[kept] = numbers[i];
                    boundIps[kept] = boundIps[i];
                    boundPorts[kept] = boundPorts[i];
                    boundTill[kept] = boundTill[i];
                    kept++;
                }
            }
            channels = kept;
        }

        private int permissionOf(int ip) {
            for (int i = 0; i < permissions && i < MOST_PERMISSIONS; i++) {
                if (permittedIps[i] == ip) {
                    return i;
                }
            }
            return NONE;
        }

        boolean permits(int ip) {
            return permissionOf(ip) != NONE;
        }

        boolean hasRoomToPermit(int[] ips, int n) {
            int more = 0;
            for (int i = 0; i < n && i < ips.length; i++) {
                if (permissionOf(ips[i]) == NONE) {
                    more++;
                }
            }
            return permissions + more <= MOST_PERMISSIONS;
        }

        void permit(int ip, long time) {
            int found = permissionOf(ip);
            if (found == NONE && permissions < MOST_PERMISSIONS) {
                found = permissions;
                permissions++;
            }
            if (found != NONE) {
                permittedIps[found] = ip;
                permittedTill[found] = time;
            }
        }

        int permissionLeft(int ip, long now) {
            int found = permissionOf(ip);
            return found == NONE ? 0 : (int) (permittedTill[found] - now);
        }

        int channelOf(int number) {
            for (int i = 0; i < channels && i < MOST_CHANNELS; i++) {
                if (numbers[i] == number) {
                    return i;
                }
            }
            return NONE;
        }

        int channelTo(int ip, int port) {
            for (int i = 0; i < channels && i < MOST_CHANNELS; i++) {
                if (boundIps[i] == ip && boundPorts[i] == port) {
                    return i;
                }
            }
            return NONE;
        }

        boolean hasRoomToBind(int number, int ip) {
            return (channelOf(number) != NONE || channels < MOST_CHANNELS)
                    && (permissionOf(ip) != NONE || permissions < MOST_PERMISSIONS);
        }

        void bind(int number, int ip, int port, long time) {
            int found = channelOf(number);
            if (found == NONE && channels < MOST_CHANNELS) {
                found = channels;
                channels++;
            }
            if (found != NONE) {
                numbers[found] = number;
                boundIps[found] = ip;
                boundPorts[found] = port;
                boundTill[found] = time;
            }
        }

        int channelLeft(int number, long now) {
            int found = channelOf(number);
            return found == NONE ? 0 : (int) (boundTill[found] - now);
        }

        int numberOf(int i) {
            return i >= 0 && i < MOST_CHANNELS ? numbers[i] : 0;
        }

        int boundIp(int i) {
            return i >= 0 && i < MOST_CHANNELS ? boundIps[i] : 0;
        }

        int boundPort(int i) {
            return i >= 0 && i < MOST_CHANNELS ? boundPorts[i] : 0;
        }

        int tell(int what, long now) {
            switch (what) {
                case 0:
                    return clientIp;
                case 1:
                    return clientPort;
                case 2:
                    return user;
                case 3:
                    return relayed;
                case 4:
                    return left(now);
                case 5:
                    return permissions;
                case 6:
                    return channels;
                default:
                    return NONE;
            }
        }
    }

    /** TIME and the ALLOCATIONS, none of which outlives it. */
    private static final class Book {
        private final Allocation[] allocations = new Allocation[MOST_ALLOCATIONS];
        private long now;

        Book() {
            for (int k = 0; k < MOST_ALLOCATIONS; k++) {
                allocations[k] = new Allocation();
            }
        }

        long now() {
            return now;
        }

        int pass(int seconds) {
            now += seconds;
            int before = size();
            for (int k = 0; k < MOST_ALLOCATIONS; k++) {
                if (allocations[k].there) {
                    allocations[k].dropPast(now);
                }
            }
            return before - size();
        }

        int size() {
            int n = 0;
            for (int k = 0; k < MOST_ALLOCATIONS; k++) {
                if (allocations[k].there) {
                    n++;
                }
            }
            return n;
        }

        int sizeOf(int user) {
            int n = 0;
            for (int k = 0; k < MOST_ALLOCATIONS; k++) {
                if (allocations[k].there && allocations[k].user == user) {
                    n++;
                }
            }
            return n;
        }

        Allocation at(int k) {
            return k >= 0 && k < MOST_ALLOCATIONS && allocations[k].there ? allocations[k] : null;
        }

        Allocation ofClient(int ip, int port) {
            for (int k = 0; k < MOST_ALLOCATIONS; k++) {
                Allocation held = allocations[k];
                if (held.there && held.clientIp == ip && held.clientPort == port) {
                    return held;
                }
            }
            return null;
        }

        Allocation ofPort(int relayed) {
            for (int k = 0; k < MOST_ALLOCATIONS; k++) {
                if (allocations[k].there && allocations[k].relayed == relayed) {
                    return allocations[k];
                }
            }
            return null;
        }

        Allocation firstFree() {
            for (int k = 0; k < MOST_ALLOCATIONS; k++) {
                if (!allocations[k].there) {
                    return allocations[k];
                }
            }
            return null;
        }

        int firstFreePort() {
            int port = FIRST_RELAYED;
            for (int k = 0; k < MOST_ALLOCATIONS && ofPort(port) != null; k++) {
                port++;
            }
            return port;
        }
    }

    /** What was SENT, and how much of what has been. */
    private static final class Post {
        private final Row row = new Row(MOST_SENT);
        private final Letter letter = new Letter(row);
        private final int[] tallies = new int[SILENT_STEPS + 1];
        private boolean there;
        private int ip;
        private int port;
        private int from;

        Row row() {
            return row;
        }

        Letter letter() {
            return letter;
        }

        void clear() {
            there = false;
            row.cut(0);
        }

        void open(int toIp, int toPort, int fromPort) {
            there = true;
            ip = toIp;
            port = toPort;
            from = fromPort;
            note(ALL_SENT);
        }

        int close() {
            letter.read();
            if (!there) {
                note(SILENT_STEPS);
            }
            return there ? 1 : 0;
        }

        void note(int what) {
            if (what >= 0 && what < tallies.length) {
                tallies[what]++;
            }
        }

        int tally(int what) {
            return what >= ALL_SENT && what <= SILENT_STEPS ? tallies[what] : NONE;
        }

        int tell(int what) {
            if (what < 0 || what > 6) {
                return NONE;
            }
            if (!there) {
                return 0;
            }
            switch (what) {
                case 0:
                    return row.size();
                case 1:
                    return ip;
                case 2:
                    return port;
                case 3:
                    return from;
                case 4:
                    return letter.isWhole() ? letter.method() : NONE;
                case 5:
                    return letter.isWhole() ? letter.rank() : NONE;
                default:
                    return letter.size();
            }
        }
    }

    /** What is done with a datagram that comes. */
    private static final class Server {
        private final Row tape;
        private final Users users;
        private final Fence fence;
        private final Book book;
        private final Post post;
        private final Seal seal;
        private final Letter letter;
        private final Pen pen;
        private final int[] strange = new int[MOST_UNKNOWN];
        private final int[] told = new int[MOST_PEERS];
        private int strangeOnes;
        private int clientIp;
        private int clientPort;
        private Allocation own;
        // The USER by whom a request is known to be signed, and with whose KEY it is answered.
        private int signer;

        Server(Row tape, Users users, Fence fence, Book book, Post post, Seal seal) {
            this.tape = tape;
            this.users = users;
            this.fence = fence;
            this.book = book;
            this.post = post;
            this.seal = seal;
            letter = new Letter(tape);
            pen = new Pen(post.row(), seal);
        }

        int fromClient(int ip, int port) {
            post.clear();
            clientIp = ip;
            clientPort = port;
            own = book.ofClient(ip, port);
            if (isChannelData()) {
                relayChannelData();
            } else if (letter.read() && !letter.isFingerprintWrong()) {
                if (letter.rank() == REQUEST) {
                    answer(letter.method());
                } else if (letter.rank() == INDICATION && letter.method() == SEND) {
                    relaySend();
                }
            }
            tape.cut(0);
            return post.close();
        }

        int fromPeer(int relayed, int ip, int port) {
            post.clear();
            Allocation held = book.ofPort(relayed);
            if (held != null && held.permits(ip)) {
                post.open(held.clientIp, held.clientPort, SERVER_PORT);
                post.note(SENT_FROM_PEERS);
                int bound = held.channelTo(ip, port);
                if (bound != NONE) {
                    writeChannelData(held.numberOf(bound));
                } else {
                    writeIndication(ip, port);
                }
            }
            tape.cut(0);
            return post.close();
        }

        private void writeChannelData(int number) {
            Row row = post.row();
            row.addNumber(number, 2);
            row.addNumber(tape.size(), 2);
            row.addFrom(tape, 0, tape.size());
        }

        private void writeIndication(int ip, int port) {
            pen.openLetter(Pen.typeOf(DATA_METHOD, INDICATION), 0, 0, post.tally(INDICATIONS_SENT));
            pen.addAddress(PEER, ip, port);
            pen.addData(tape);
            post.note(INDICATIONS_SENT);
        }

        private static boolean isChannelNumber(long number) {
            return number >= FIRST_CHANNEL && number <= LAST_CHANNEL;
        }

        private boolean isChannelData() {
            if (tape.size() < 4 || !isChannelNumber(tape.numberAt(0, 2))) {
                return false;
            }
            long more = tape.size() - 4 - tape.numberAt(2, 2);
            return more >= 0 && more <= 3;
        }

        private void relayChannelData() {
            if (own == null) {
                return;
            }
            int bound = own.channelOf((int) tape.numberAt(0, 2));
            if (bound != NONE) {
                relay(own, own.boundIp(bound), own.boundPort(bound), 4, (int) tape.numberAt(2, 2));
            }
        }

        private void relaySend() {
            int to = letter.find(PEER);
            int data = letter.find(DATA);
            if (own == null || to == NONE || data == NONE || letter.strangeKinds(strange) > 0) {
                return;
            }
            relay(own, letter.ipOf(to), letter.portOf(to), letter.startOf(data), letter.sizeOf(data));
        }

        private void relay(Allocation held, int ip, int port, int start, int width) {
            if (held.permits(ip)) {
                post.open(ip, port, held.relayed);
                post.note(SENT_TO_PEERS);
                post.row().addFrom(tape, start, width);
            }
        }

        private void answer(int method) {
            signer = NONE;
            strangeOnes = letter.strangeKinds(strange);
            int error = accessError(method);
            if (error == FINE) {
                error = perform(method);
            }
            post.open(clientIp, clientPort, SERVER_PORT);
            pen.openLetter(Pen.typeOf(method, error == FINE ? SUCCESS : FAILURE),
                    (int) tape.numberAt(8, 4), (int) tape.numberAt(12, 4), (int) tape.numberAt(16, 4));
            if (error == FINE) {
                writeTold(method);
            } else {
                writeError(error);
            }
            if (signer != NONE) {
                pen.addIntegrity();
            }
            if (letter.hasFingerprint()) {
                pen.addFingerprint();
            }
        }

        private static boolean needsUser(int method) {
            return method == ALLOCATE || method == REFRESH || method == CREATE_PERMISSION || method == CHANNEL_BIND;
        }

        private int accessError(int method) {
            if (!needsUser(method)) {
                return method != BINDING ? BAD_REQUEST : strangeOnes > 0 ? UNKNOWN_ATTRIBUTE : FINE;
            }
            int integrity = letter.find(INTEGRITY);
            int name = letter.find(USERNAME);
            int realm = letter.find(REALM);
            int nonce = letter.find(NONCE);
            if (integrity == NONE) {
                return UNAUTHORIZED;
            }
            if (name == NONE || realm == NONE || nonce == NONE) {
                return BAD_REQUEST;
            }
            if (letter.valueOf(nonce) != users.nonceNow()) {
                return STALE_NONCE;
            }
            int user = users.find(letter.valueOf(name));
            if (user == NONE || !isWordAt(name, users.nameOf(user)) || !isWordAt(realm, users.realmWord())) {
                return UNAUTHORIZED;
            }
            // This KEY stays for the answer.
            seal.setKey(users.nameOf(user), users.realmWord(), users.passwordOf(user));
            seal.make(tape, letter.startOf(integrity) - ATTRIBUTE_HEAD);
            if (!seal.standsAt(tape, letter.startOf(integrity))) {
                return UNAUTHORIZED;
            }
            if (strangeOnes > 0) {
                return UNKNOWN_ATTRIBUTE;
            }
            signer = user;
            return FINE;
        }

        // The size too: bytes 0 ahead of a word would make the same number.
        private boolean isWordAt(int i, long word) {
            return letter.valueOf(i) == word && letter.sizeOf(i) == Users.sizeOf(word);
        }

        private int perform(int method) {
            if (method == BINDING) {
                return FINE;
            }
            if (method == ALLOCATE) {
                return allocate();
            }
            if (own == null) {
                return MISMATCH;
            }
            if (own.user != signer) {
                return WRONG_USER;
            }
            switch (method) {
                case REFRESH:
                    return refresh(own);
                case CREATE_PERMISSION:
                    return permitPeers(own);
                default:
                    return bindChannel(own);
            }
        }

        private int allocate() {
            long idTop = tape.numberAt(8, 8);
            int idRest = (int) tape.numberAt(16, 4);
            if (own != null) {
                return own.isMadeBy(idTop, idRest) ? FINE : MISMATCH;
            }
            int transport = letter.find(TRANSPORT);
            if (transport == NONE) {
                return BAD_REQUEST;
            }
            if (tape.at(letter.startOf(transport)) != UDP) {
                return WRONG_TRANSPORT;
            }
            if (book.sizeOf(signer) >= users.share()) {
                return QUOTA_REACHED;
            }
            Allocation made = book.firstFree();
            if (made == null) {
                return NO_CAPACITY;
            }
            made.begin(clientIp, clientPort, signer, book.firstFreePort());
            made.setId(idTop, idRest);
            made.till = book.now() + lifetime();
            own = made;
            return FINE;
        }

        private long lifetime() {
            int i = letter.find(LIFETIME);
            long asked = i == NONE ? SHORTEST_LIFE : tape.numberAt(letter.startOf(i), 4);
            return Math.max(SHORTEST_LIFE, Math.min(LONGEST_LIFE, asked));
        }

        private int refresh(Allocation held) {
            int i = letter.find(LIFETIME);
            if (i != NONE && letter.valueOf(i) == 0) {
                held.till = book.now();
                held.there = false;
            } else {
                held.till = book.now() + lifetime();
            }
            return FINE;
        }

        private int permitPeers(Allocation held) {
            int n = letter.peerIps(told);
            if (n == 0) {
                return BAD_REQUEST;
            }
            for (int i = 0; i < n && i < MOST_PEERS; i++) {
                if (fence.bars(told[i])) {
                    return FORBIDDEN;
                }
            }
            if (!held.hasRoomToPermit(told, n)) {
                return NO_CAPACITY;
            }
            for (int i = 0; i < n && i < MOST_PEERS; i++) {
                held.permit(told[i], book.now() + PERMISSION_LIFE);
            }
            return FINE;
        }

        private int bindChannel(Allocation held) {
            int channel = letter.find(CHANNEL);
            int to = letter.find(PEER);
            if (channel == NONE || to == NONE) {
                return BAD_REQUEST;
            }
            int number = (int) (letter.valueOf(channel) >>> 16);
            int ip = letter.ipOf(to);
            int port = letter.portOf(to);
            // Both are new, or both belong to the same CHANNEL.
            if (!isChannelNumber(number) || held.channelOf(number) != held.channelTo(ip, port)) {
                return BAD_REQUEST;
            }
            if (fence.bars(ip)) {
                return FORBIDDEN;
            }
            if (!held.hasRoomToBind(number, ip)) {
                return NO_CAPACITY;
            }
            held.bind(number, ip, port, book.now() + CHANNEL_LIFE);
            held.permit(ip, book.now() + PERMISSION_LIFE);
            return FINE;
        }

        private void writeTold(int method) {
            if (method == ALLOCATE && own != null) {
                pen.addAddress(RELAYED, SERVER_IP, own.relayed);
            }
            if ((method == ALLOCATE || method == REFRESH) && own != null) {
                pen.addValue(LIFETIME, own.left(book.now()), 4);
            }
            if (method == ALLOCATE || method == BINDING) {
                pen.addAddress(MAPPED, clientIp, clientPort);
            }
        }

        private void writeError(int error) {
            post.note(ERRORS_SENT);
            pen.addValue(ERROR, error / 100 << 8 | error % 100, 4);
            if (error == UNAUTHORIZED || error == STALE_NONCE) {
                pen.addValue(REALM, users.realmWord(), Users.sizeOf(users.realmWord()));
                pen.addValue(NONCE, users.nonceNow(), 8);
            }
            if (error == UNKNOWN_ATTRIBUTE) {
                pen.addKinds(strange, strangeOnes);
            }
        }
    }
}
