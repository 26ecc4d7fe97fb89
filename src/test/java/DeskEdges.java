import java.util.Arrays;
import java.util.function.ToIntFunction;

/** The boundary cases of promises 1 to 12: a new object, and the desk. */
final class DeskEdges {
    private static final int NONE = Edges.NONE;
    private static final int LEAST = Edges.LEAST;
    private static final int MOST = Edges.MOST;

    private DeskEdges() {
    }

    static void run() {
        newObject();
        firstSettings();
        feedAtAll();
        feedBeyond();
        endAtAll();
        endBeyond();
        messageAtAll();
        messageOfAnotherType();
        numberAtAll();
        numberRefused();
        text();
        nonce();
        address();
        signAtAll();
        signWords();
        keys();
        finger();
        tape();
        alterAtAll();
        alterRefused();
    }

    // ---- promise 1

    private static void newObject() {
        Edges.promise(1, "No USERS, no ALLOCATIONS; an empty TAPE; nothing SENT.");
        RelayHouse x = new RelayHouse();
        for (int what = 0; what <= 9; what++) {
            Edges.due("count(" + what + ")", x.count(what), 0);
        }
        for (int what = 0; what <= 6; what++) {
            Edges.due("sent(" + what + ")", x.sent(what), 0);
            Edges.due("attribute(0, " + what + ")", x.attribute(0, what), NONE);
            for (int k = 0; k <= 7; k++) {
                Edges.due("allocation(" + k + ", " + what + ")", x.allocation(k, what), NONE);
            }
        }
        for (int k = 0; k <= 7; k++) {
            Edges.due("permission(" + k + ", 0)", x.permission(k, 0), 0);
            Edges.due("channel(" + k + ", 0)", x.channel(k, 0), 0);
        }
        Edges.due("tape(0)", x.tape(0), NONE);
        Edges.due("octet(0)", x.octet(0), NONE);
        Edges.due("end(0)", x.end(0), 0);
        Edges.due("an empty datagram", x.datagram(1, 1), 0);
        Edges.due("an empty one from a peer", x.peer(49152, 0, 1), 0);
        Edges.due("one from a peer to PORT 0", x.peer(0, 0, 1), 0);
        Edges.due("a tick", x.tick(10000), 0);
        Client c = new Client(new RelayHouse(), 1, 1);
        Edges.due("Allocate of a USER that isn't there", c.allocate(1), 401);
        Edges.due("Refresh of one", c.refresh(0), 401);
    }

    private static void firstSettings() {
        Edges.term(1, "and REALM likewise (\"r\" at first); NONCE is a long (0 at first).");
        RelayHouse x = new RelayHouse();
        x.message(3, 1, 2, 3);
        x.datagram(1, 1);
        Edges.sent("401", x, 1, 19, 0, 28, 33, 18, 164, 66, 0, 0, 0, 1, 0, 0, 0, 2, 0, 0, 0, 3,
                0, 9, 0, 4, 0, 0, 4, 1, 0, 20, 0, 1, 'r', 0, 0, 0, 0, 21, 0, 8, 0, 0, 0, 0, 0, 0, 0, 0);
        Edges.term(1, "TIME is in seconds, 0 at first.");
        Edges.due("count(0)", new RelayHouse().count(0), 0);
        Edges.term(1, "486 the USER has as many ALLOCATIONS as its part (2 at first)");
        Edges.due("part(2)", new RelayHouse().part(2), 2);
        Edges.term(1, "403 an IP that is FORBIDDEN (none is at first)");
        Edges.due("the first that is", new RelayHouse().forbid(0, 0), 1);
        for (int ip : new int[] {0, 1, -1, LEAST, MOST}) {
            Client c = Client.known();
            c.allocate(1);
            Edges.due("a PERMISSION for " + ip, c.permit(ip), 0);
        }
    }

    // ---- promise 2

    private static void feedAtAll() {
        Edges.promise(2, "Twenty bytes come behind the TAPE, the highest of each number first: how many it has.");
        RelayHouse x = new RelayHouse();
        Edges.due("behind nothing", x.feed(LEAST, MOST, -1, 0, 0x01020304), 20);
        Edges.tape("feed", x, 0, 128, 0, 0, 0, 127, 255, 255, 255, 255, 255, 255, 255, 0, 0, 0, 0, 1, 2, 3, 4, NONE);
        x.end(19);
        Edges.due("behind 19", x.feed(0x0a0b0c0d, 0, 0, 0, 0), 39);
        Edges.tape("behind 19", x, 17, 2, 3, 10, 11, 12, 13, 0);
    }

    private static void feedBeyond() {
        Edges.promise(2, "NONE, if there would be more than 400.");
        for (int n : new int[] {0, 1, 360, 379, 380}) {
            RelayHouse x = new RelayHouse();
            Edges.fill(x, n);
            Edges.due("behind " + n, x.feed(1, 2, 3, 4, 5), n + 20);
            Edges.due("its last byte", x.tape(n + 19), 5);
            Edges.due("none behind it", x.tape(n + 20), NONE);
        }
        for (int n : new int[] {381, 399, 400}) {
            Edges.refused("behind " + n, () -> Edges.withTape(n), x -> x.feed(1, 2, 3, 4, 5));
        }
    }

    // ---- promise 3

    private static void endAtAll() {
        Edges.promise(3, "The TAPE has its first n bytes alone: n.");
        RelayHouse x = new RelayHouse();
        Edges.due("none of none", x.end(0), 0);
        Edges.fill(x, 400);
        Edges.due("all of 400", x.end(400), 400);
        Edges.due("all but one", x.end(399), 399);
        Edges.tape("the last one", x, 398, 255, NONE);
        Edges.due("one", x.end(1), 1);
        Edges.tape("one", x, 0, 1, NONE);
        Edges.due("none", x.end(0), 0);
        Edges.tape("none", x, 0, NONE);
        Edges.fill(x, 40);
        x.end(20);
        x.number(1, 1, 7);
        Edges.tape("what was cut off does not come back", x, 20, 0, 1, 0, 1, 7, 0, 0, 0, NONE);
    }

    private static void endBeyond() {
        Edges.promise(3, "NONE, if it has not so many, or n is below 0.");
        for (int size : new int[] {0, 1, 20, 399, 400}) {
            for (int n : new int[] {size + 1, 401, 4000, MOST, -1, LEAST}) {
                Edges.refused("end(" + n + ") of " + size, () -> Edges.withTape(size), x -> x.end(n));
            }
        }
    }

    // ---- promise 4

    private static void messageAtAll() {
        Edges.promise(4, "The TAPE becomes a MESSAGE of a TYPE (0 .. 16383) without ATTRIBUTES, its ID by three "
                + "numbers: 20.");
        for (int size : new int[] {0, 19, 20, 400}) {
            RelayHouse x = Edges.withTape(size);
            Edges.due("TYPE 0 behind " + size, x.message(0, 0, 0, 0), 20);
            Edges.tape("TYPE 0", x, 0, 0, 0, 0, 0, 33, 18, 164, 66, 0, 0, 0, 0, 0, 0, 0, 0, 0, 0, 0, 0, NONE);
        }
        RelayHouse x = new RelayHouse();
        Edges.due("TYPE 1", x.message(1, -1, LEAST, MOST), 20);
        Edges.tape("TYPE 1", x, 0, 0, 1, 0, 0, 33, 18, 164, 66, 255, 255, 255, 255, 128, 0, 0, 0, 127, 255, 255, 255, NONE);
        Edges.due("TYPE 256", x.message(256, 0, 0, 0), 20);
        Edges.tape("TYPE 256", x, 0, 1, 0);
        Edges.due("TYPE 16382", x.message(16382, 0, 0, 0), 20);
        Edges.tape("TYPE 16382", x, 0, 63, 254);
        Edges.due("TYPE 16383", x.message(16383, 0, 0, 1), 20);
        Edges.tape("TYPE 16383", x, 0, 63, 255);
    }

    private static void messageOfAnotherType() {
        Edges.promise(4, "NONE for another TYPE.");
        for (int type : new int[] {-1, LEAST, 16384, 16385, 65536, MOST}) {
            Edges.refused("TYPE " + type, x -> x.message(type, 1, 2, 3));
        }
    }

    // ---- promise 5, and what the others have of it

    private static void numberAtAll() {
        Edges.promise(5, "An ATTRIBUTE of a kind (0 .. 65535) with the lowest size bytes (0 .. 4) of a number, the "
                + "highest of them first, comes behind the TAPE, bytes 0 up to a multiple of four; LENGTH (bytes 2, "
                + "3) is what is behind 20 then: how many it has.");
        RelayHouse x = new RelayHouse();
        Edges.fill(x, 40);
        x.end(20);
        Edges.due("kind 0, size 0", x.number(0, 0, -1), 24);
        Edges.tape("kind 0, size 0", x, 20, 0, 0, 0, 0, NONE);
        Edges.due("kind 65535, size 1", x.number(65535, 1, 0x01020380), 32);
        Edges.tape("kind 65535, size 1", x, 24, 255, 255, 0, 1, 128, 0, 0, 0, NONE);
        Edges.due("kind 1, size 2", x.number(1, 2, LEAST), 40);
        Edges.tape("kind 1, size 2", x, 32, 0, 1, 0, 2, 0, 0, 0, 0, NONE);
        Edges.due("kind 256, size 3", x.number(256, 3, MOST), 48);
        Edges.tape("kind 256, size 3", x, 40, 1, 0, 0, 3, 255, 255, 255, 0, NONE);
        Edges.due("kind 65534, size 4", x.number(65534, 4, LEAST + 5), 56);
        Edges.tape("kind 65534, size 4", x, 48, 255, 254, 0, 4, 128, 0, 0, 5, NONE);
        Edges.tape("LENGTH, whatever it was", x, 2, 0, 36);
        lengthAt(276);
        lengthAt(400);
    }

    // LENGTH goes over into its higher byte behind 255.
    private static void lengthAt(int size) {
        for (int n = size - 8; n <= Math.min(400, size + 4); n += 4) {
            RelayHouse x = new RelayHouse();
            Edges.fill(x, n - 4);
            Edges.due("up to " + n, x.number(1, 0, 0), n);
            Edges.tape("LENGTH of " + n, x, 2, n - 20 >> 8, n - 20 & 255);
        }
    }

    private static void numberRefused() {
        Edges.promise(5, "NONE: not so, less than 20 bytes, not a multiple of four, more than 400.");
        for (int kind : new int[] {-1, 65536, LEAST, MOST}) {
            Edges.refused("kind " + kind, x -> x.number(kind, 4, 1));
        }
        for (int size : new int[] {-1, 5, 8, LEAST, MOST}) {
            Edges.refused("size " + size, x -> x.number(1, size, 1));
        }
        room("number of 0", 4, x -> x.number(1, 0, 0));
        room("number of 1", 8, x -> x.number(1, 1, 1));
        room("number of 2", 8, x -> x.number(1, 2, 1));
        room("number of 3", 8, x -> x.number(1, 3, 1));
        room("number of 4", 8, x -> x.number(1, 4, 1));
    }

    /** At which lengths an ATTRIBUTE of so many bytes comes behind the TAPE. */
    private static void room(String call, int takes, ToIntFunction<RelayHouse> add) {
        for (int n : new int[] {20, 24, 396 - takes, 400 - takes}) {
            RelayHouse x = new RelayHouse();
            Edges.fill(x, n);
            int last = x.tape(n - 1);
            Edges.due(call + " behind " + n, add.applyAsInt(x), n + takes);
            Edges.due("bytes then", x.count(3), n + takes);
            Edges.tape("LENGTH then", x, 2, n + takes - 20 >> 8, n + takes - 20 & 255);
            Edges.due("what was there stays", x.tape(n - 1), last);
        }
        int[] refused = {0, 1, 4, 16, 19, 21, 22, 23, 397 - takes, 398 - takes, 399 - takes, 401 - takes, 402 - takes,
            404 - takes, 400};
        for (int n : refused) {
            Edges.refused(call + " behind " + n, () -> Edges.withTape(n), add);
        }
    }

    // ---- promises 6 to 8

    private static void text() {
        Edges.promise(6, "Likewise the bytes of two longs that aren't 0, the highest first.");
        RelayHouse x = new RelayHouse();
        Edges.fill(x, 40);
        x.end(20);
        Edges.due("none", x.text(0, 0, 0), 24);
        Edges.tape("none", x, 20, 0, 0, 0, 0, NONE);
        Edges.due("one at the top", x.text(65535, Long.MIN_VALUE, 0), 32);
        Edges.tape("one at the top", x, 24, 255, 255, 0, 1, 128, 0, 0, 0, NONE);
        Edges.due("one at the end of each", x.text(1, 1, 255), 40);
        Edges.tape("one at the end of each", x, 32, 0, 1, 0, 2, 1, 255, 0, 0, NONE);
        Edges.due("bytes 0 between", x.text(2, 0x0100020000000300L, 0x0004000000000000L), 48);
        Edges.tape("bytes 0 between", x, 40, 0, 2, 0, 4, 1, 2, 3, 4, NONE);
        Edges.due("eight of the second", x.text(3, 0, 0x0102030405060708L), 60);
        Edges.tape("eight of the second", x, 48, 0, 3, 0, 8, 1, 2, 3, 4, 5, 6, 7, 8, NONE);
        Edges.due("nine", x.text(4, -1, 9), 76);
        Edges.tape("nine", x, 60, 0, 4, 0, 9, 255, 255, 255, 255, 255, 255, 255, 255, 9, 0, 0, 0, NONE);
        Edges.due("sixteen", x.text(5, Long.MAX_VALUE, -2), 96);
        Edges.tape("sixteen", x, 76, 0, 5, 0, 16, 127, 255, 255, 255, 255, 255, 255, 255,
                255, 255, 255, 255, 255, 255, 255, 254, NONE);
        for (int kind : new int[] {-1, 65536, LEAST, MOST}) {
            Edges.refused("kind " + kind, y -> y.text(kind, 1, 1));
        }
        room("text of 0", 4, y -> y.text(1, 0, 0));
        room("text of 1", 8, y -> y.text(1, 0, 1));
        room("text of 4", 8, y -> y.text(1, 0x0101010100000000L, 0));
        room("text of 5", 12, y -> y.text(1, 0x01010101L, 1));
        room("text of 12", 16, y -> y.text(1, -1, 0x01010101L));
        room("text of 13", 20, y -> y.text(1, -1, 0x0101010101L));
        room("text of 16", 20, y -> y.text(1, -1, -1));
    }

    private static void nonce() {
        Edges.promise(7, "Likewise the 8 bytes of a long, all of them.");
        RelayHouse x = new RelayHouse();
        Edges.fill(x, 40);
        x.end(20);
        Edges.due("0", x.nonce(0, 0), 32);
        Edges.tape("0", x, 20, 0, 0, 0, 8, 0, 0, 0, 0, 0, 0, 0, 0, NONE);
        Edges.due("the least", x.nonce(65535, Long.MIN_VALUE), 44);
        Edges.tape("the least", x, 32, 255, 255, 0, 8, 128, 0, 0, 0, 0, 0, 0, 0, NONE);
        Edges.due("-2", x.nonce(21, -2), 56);
        Edges.tape("-2", x, 44, 0, 21, 0, 8, 255, 255, 255, 255, 255, 255, 255, 254, NONE);
        for (int kind : new int[] {-1, 65536, LEAST, MOST}) {
            Edges.refused("kind " + kind, y -> y.nonce(kind, 1));
        }
        room("nonce", 12, y -> y.nonce(21, 0));
    }

    private static void address() {
        Edges.promise(8, "Likewise an ADDRESS (PORT 0 .. 65535, else NONE).");
        RelayHouse x = new RelayHouse();
        Edges.fill(x, 60);
        x.end(20);
        Edges.due("0, 0", x.address(0, 0, 0), 32);
        Edges.tape("0, 0", x, 20, 0, 0, 0, 8, 0, 1, 33, 18, 33, 18, 164, 66, NONE);
        Edges.due("-1, 65535", x.address(65535, -1, 65535), 44);
        Edges.tape("-1, 65535", x, 32, 255, 255, 0, 8, 0, 1, 222, 237, 222, 237, 91, 189, NONE);
        Edges.due("the least, 1", x.address(18, LEAST, 1), 56);
        Edges.tape("the least, 1", x, 44, 0, 18, 0, 8, 0, 1, 33, 19, 161, 18, 164, 66, NONE);
        Edges.due("its own mask", x.address(18, 554869826, 8466), 68);
        Edges.tape("its own mask", x, 60, 0, 1, 0, 0, 0, 0, 0, 0, NONE);
        Edges.due("PORT 65534", x.address(18, 0, 65534), 80);
        for (int port : new int[] {-1, 65536, 65537, LEAST, MOST}) {
            Edges.refused("PORT " + port, y -> y.address(18, 1, port));
        }
        for (int kind : new int[] {-1, 65536, LEAST, MOST}) {
            Edges.refused("kind " + kind, y -> y.address(kind, 1, 1));
        }
        room("address", 12, y -> y.address(18, 0, 0));
    }

    // ---- promises 9 and 10

    private static void signAtAll() {
        Edges.promise(9, "Likewise INTEGRITY (of all that is there then) with the KEY of a user and password (such "
                + "as USERS may have, else NONE) and the REALM.");
        // SHA-256 needs a block more behind 55 of 64.
        for (int n : new int[] {20, 52, 56, 60, 64, 116, 120, 124, 128, 244, 248, 364}) {
            seal(n, "u", "r", "w");
        }
        RelayHouse x = new RelayHouse();
        x.message(1, 1, 2, 3);
        x.sign('a', 'b');
        byte[] once = Client.tapeOf(x);
        Edges.due("a second one", x.sign('a', 'b'), 92);
        holdsSeal(x, once, "a", "r", "b");
        room("sign", 36, y -> y.sign('a', 'b'));
    }

    private static void seal(int n, String name, String realm, String password) {
        RelayHouse x = new RelayHouse();
        x.realm(Client.word(realm));
        Edges.fill(x, n);
        byte[] ahead = Client.tapeOf(x);
        Edges.due("sign behind " + n, x.sign(Client.word(name), Client.word(password)), n + 36);
        holdsSeal(x, ahead, name, realm, password);
    }

    private static void holdsSeal(RelayHouse x, byte[] ahead, String name, String realm, String password) {
        int n = ahead.length;
        byte[] due = Client.mac(ahead, name, realm, password);
        Edges.tape("its head", x, n, 0, 28, 0, 32);
        for (int i = 0; i < 32; i++) {
            Edges.due("INTEGRITY behind " + n + ", byte " + i, x.tape(n + 4 + i), due[i] & 255);
        }
        Edges.due("none behind it", x.tape(n + 36), NONE);
        Edges.tape("LENGTH", x, 2, n + 16 >> 8, n + 16 & 255);
    }

    private static void signWords() {
        for (String word : Edges.GOOD_WORDS) {
            seal(20, word, "r", "a");
            seal(20, "a", "r", word);
        }
        for (long word : KeeperEdges.badWords()) {
            Edges.refused("sign as " + word, x -> x.sign(word, 'a'));
            Edges.refused("sign with " + word, x -> x.sign('a', word));
        }
        RelayHouse x = new RelayHouse();
        x.message(1, 1, 2, 3);
        byte[] ahead = Client.tapeOf(x);
        Edges.due("bytes 0 between", x.sign(0x6100000000620000L, 0x0063000000000000L), 56);
        holdsSeal(x, ahead, "ab", "r", "c");
    }

    private static void keys() {
        Edges.term(9, "KEY: SHA-256 of user, \":\", REALM, \":\", password.");
        seal(20, "!", "!", "!");
        seal(20, "12345678", "!", "!");
        seal(20, "!", "12345678", "!");
        seal(20, "!", "!", "12345678");
        seal(364, "~~~~~~~~", "~~~~~~~~", "~~~~~~~~");
    }

    private static void finger() {
        Edges.promise(10, "Likewise FINGERPRINT.");
        for (int n : new int[] {20, 24, 268, 272, 388, 392}) {
            RelayHouse x = new RelayHouse();
            Edges.fill(x, n);
            Edges.due("behind " + n, x.finger(), n + 8);
            Edges.tape("its head", x, n, 128, 40, 0, 4);
            // With LENGTH as it is then.
            int due = Client.crc(Arrays.copyOf(Client.tapeOf(x), n));
            Edges.tape("CRC-32 of " + n, x, n + 4, due >>> 24, due >>> 16 & 255, due >>> 8 & 255, due & 255, NONE);
            Edges.tape("LENGTH", x, 2, n - 12 >> 8, n - 12 & 255);
        }
        room("finger", 8, y -> y.finger());
    }

    // ---- promises 11 and 12

    private static void tape() {
        Edges.promise(11, "Byte i of the TAPE (0 .. 255); NONE.");
        RelayHouse x = new RelayHouse();
        Edges.due("tape(0) of none", x.tape(0), NONE);
        Edges.due("tape(-1) of none", x.tape(-1), NONE);
        x.feed(0x007f80ff, 0, 0, 0, 0x01020304);
        Edges.tape("bytes of every sign", x, -1, NONE, 0, 127, 128, 255);
        Edges.tape("the last one", x, 19, 4, NONE, NONE);
        for (int i : new int[] {LEAST, MOST, 400, 401}) {
            Edges.due("tape(" + i + ")", x.tape(i), NONE);
        }
        Edges.fill(x, 400);
        Edges.tape("of a full one", x, 399, 128, NONE);
        x.end(399);
        Edges.tape("of 399", x, 398, 255, NONE);
        x.end(0);
        Edges.due("none is left", x.tape(0), NONE);
    }

    private static void alterAtAll() {
        Edges.promise(12, "That byte is altered by what mask (1 .. 255) has of bits: what it is then;");
        RelayHouse x = new RelayHouse();
        Edges.fill(x, 400);
        Edges.due("the first, mask 1", x.alter(0, 1), 0);
        Edges.due("again", x.alter(0, 1), 1);
        Edges.due("mask 255", x.alter(0, 255), 254);
        Edges.due("mask 254", x.alter(0, 254), 0);
        Edges.due("mask 128", x.alter(0, 128), 128);
        Edges.tape("its neighbours stay", x, 0, 128, 2);
        Edges.due("the last", x.alter(399, 255), 127);
        Edges.tape("it is so", x, 398, 255, 127, NONE);
        Edges.due("as many bytes", x.count(3), 400);
    }

    private static void alterRefused() {
        Edges.promise(12, "NONE without it, for another mask.");
        for (int size : new int[] {0, 1, 20, 399, 400}) {
            for (int i : new int[] {-1, size, size + 1, 401, LEAST, MOST}) {
                Edges.refused("alter(" + i + ", 1) of " + size, () -> Edges.withTape(size), x -> x.alter(i, 1));
            }
        }
        for (int mask : new int[] {0, -1, 256, 257, 511, LEAST, MOST}) {
            Edges.refused("mask " + mask, x -> x.alter(0, mask));
            Edges.refused("mask " + mask, x -> x.alter(27, mask));
        }
    }
}
