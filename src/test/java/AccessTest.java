import java.util.Arrays;
import java.util.Set;

/** Promise 19: what is a MESSAGE, who may ask, Binding, and how answers look. */
public final class AccessTest {
    private static final int NONE = RelayHouse.NONE;
    private static final Set<Integer> TOLD = Set.of(6, 9, 10, 12, 13, 18, 19, 20, 21, 22, 25, 28, 32);

    public static void main(String[] args) {
        ports();
        shapes();
        types();
        fingerprints();
        binding();
        unknownKinds();
        order();
        wrongSizes();
        behindIntegrity();
        firstOfSeveral();
        words();
        integrity();
        answers();
        Checks.close();
    }

    private static void ports() {
        RelayHouse x = new RelayHouse();
        x.message(1, 1, 2, 3);
        x.datagram(1, 65535);
        x.message(1, 1, 2, 4);
        for (int port : new int[] {0, -1, 65536, Integer.MIN_VALUE, Integer.MAX_VALUE}) {
            Checks.due("datagram from PORT " + port, x.datagram(7, port), NONE);
        }
        Checks.due("the TAPE stays", x.count(3), 20);
        Checks.due("SENT stays", x.sent(2), 65535);
        Checks.due("nothing is counted", x.count(4) + x.count(9), 1);
        Checks.due("datagram from PORT 1", x.datagram(7, 1), 1);
        Checks.due("the TAPE is used up", x.count(3), 0);
        Checks.due("an empty one", x.datagram(7, 1), 0);
        Checks.due("nothing is SENT", x.sent(0), 0);
        Checks.due("nor an ATTRIBUTE of it", x.attribute(0, 0), NONE);
        Checks.due("nor a byte", x.octet(0), NONE);
    }

    /** A Binding request of so many bytes, altered at one of them. */
    private static int altered(int n, int at, int mask) {
        RelayHouse x = new RelayHouse();
        x.message(1, 1, 2, 3);
        x.number(19, 3, 0);
        x.number(32768, 0, 0);
        x.end(n);
        x.alter(at, mask);
        return x.datagram(1, 1);
    }

    private static void shapes() {
        Checks.due("a whole one", altered(32, 8, 1), 1);
        Checks.due("any byte behind", altered(32, 27, 255), 1);
        for (int n = 0; n < 32; n++) {
            Checks.due("the first " + n, altered(n, 8, 1), 0);
        }
        for (int i = 4; i < 8; i++) {
            Checks.due("byte " + i, altered(32, i, 1), 0);
        }
        Checks.due("upper bits", altered(32, 0, 128), 0);
        Checks.due("upper bits", altered(32, 0, 64), 0);
        Checks.due("LENGTH", altered(32, 3, 4), 0);
        Checks.due("LENGTH", altered(32, 2, 1), 0);
        Checks.due("a size too large", altered(32, 31, 1), 0);
        Checks.due("a size too large", altered(32, 30, 255), 0);
        Checks.due("a size that ends elsewhere", altered(32, 23, 3 ^ 9), 0);
        Checks.due("a size that takes the next", altered(32, 23, 4), 1);
        RelayHouse x = new RelayHouse();
        x.message(1, 1, 2, 3);
        x.number(19, 1, 0);
        x.end(25);
        x.alter(3, 8 ^ 5);
        Checks.due("a last one that isn't padded", x.datagram(1, 1), 0);
        Client.write(x, 0, 1, 0, 2, 33, 18, 164, 66, 0, 0, 0, 0, 0, 0, 0, 0, 0, 0, 0, 0, 0, 0);
        Checks.due("half a head", x.datagram(1, 1), 0);
    }

    private static void types() {
        for (int type = 0; type < 16384; type += type < 600 ? 1 : 37) {
            RelayHouse x = new RelayHouse();
            x.message(type, 1, 2, 3);
            int method = type & 15 | (type >> 5 & 7) << 4 | (type >> 9) << 7;
            int rank = type >> 4 & 1 | (type >> 8 & 1) << 1;
            boolean signed = method == 3 || method == 4 || method == 8 || method == 9;
            Checks.due("TYPE " + type, x.datagram(1, 1), rank == 0 ? 1 : 0);
            if (rank == 0) {
                Checks.due("METHOD of " + type, x.sent(4), method);
                Checks.due("CLASS of " + type, x.sent(5), method == 1 ? 2 : 3);
                Checks.due("ERROR of " + type, x.attribute(0, 6), method == 1 ? 0 : signed ? 401 : 400);
                Checks.due("ATTRIBUTES of " + type, x.sent(6), signed ? 3 : 1);
            }
        }
        Client c = Client.known();
        Checks.due("another METHOD, signed", c.open(2, 1).signedGo(), 400);
        Checks.due("isn't answered so", c.x.sent(6), 1);
        Checks.due("Send as a request", c.open(6, 1).number(4660, 0, 0).go(), 400);
    }

    private static void fingerprints() {
        RelayHouse x = new RelayHouse();
        x.message(1, 1, 2, 3);
        x.finger();
        x.alter(27, 1);
        Checks.due("a wrong one", x.datagram(1, 1), 0);
        x.message(1, 1, 2, 3);
        x.finger();
        x.alter(19, 1);
        Checks.due("another ID", x.datagram(1, 1), 0);
        x.message(1, 1, 2, 3);
        x.finger();
        x.number(32768, 0, 0);
        Checks.due("not the last", x.datagram(1, 1), 0);
        x.message(1, 1, 2, 3);
        x.finger();
        x.finger();
        Checks.due("two", x.datagram(1, 1), 0);
        x.message(1, 1, 2, 3);
        x.number(32808, 3, 0);
        Checks.due("one of another size counts as not there", x.datagram(1, 1), 1);
        Checks.due("nor is there one in the answer", x.sent(6), 1);
        x.message(1, 1, 2, 3);
        x.number(32808, 3, 0);
        x.finger();
        Checks.due("ahead of a right one", x.datagram(1, 1), 1);
        Checks.due("which is answered", x.attribute(1, 0), 32808);
        Client c = Client.known();
        c.open(Client.ALLOCATE, 1).number(25, 4, Client.UDP).credentials().sign();
        c.x.number(4660, 4, 1);
        c.x.finger();
        Checks.due("behind INTEGRITY", c.go(), 0);
        Checks.due("RELAYED, LIFETIME, MAPPED, INTEGRITY, FINGERPRINT", c.x.sent(6), 5);
        Checks.due("the INTEGRITY", c.isSealed(3) ? 1 : 0, 1);
        Checks.due("the FINGERPRINT", c.isFingered(4) ? 1 : 0, 1);
        c.open(Client.REFRESH, 1).credentials().sign();
        c.x.number(32808, 4, 1);
        Checks.due("a wrong one behind INTEGRITY", c.go(), NONE);
        c.open(Client.REFRESH, 1);
        c.x.finger();
        Checks.due("with ERROR", c.go(), 401);
        Checks.due("ERROR, REALM, NONCE, FINGERPRINT", c.x.sent(6), 4);
        Checks.due("the FINGERPRINT", c.isFingered(3) ? 1 : 0, 1);
    }

    private static void binding() {
        Client c = new Client(new RelayHouse(), -5, 65535);
        c.x.message(1, 0x01020304, -1, 0x80000000);
        Checks.due("Binding", c.x.datagram(-5, 65535), 1);
        byte[] due = {
            1, 1, 0, 12, 33, 18, (byte) 164, 66, 1, 2, 3, 4, -1, -1, -1, -1, -128, 0, 0, 0,
            0, 32, 0, 8, 0, 1, (byte) 222, (byte) 237, (byte) 222, (byte) 237, (byte) 91, (byte) 185
        };
        Checks.due("its answer", Arrays.equals(Client.sentOf(c.x), due) ? 1 : 0, 1);
        Checks.due("to IP", c.x.sent(1), -5);
        Checks.due("to PORT", c.x.sent(2), 65535);
        Checks.due("from PORT", c.x.sent(3), 3478);
        Client known = Client.known();
        Checks.due("a signed one", known.open(1, 1).signedGo(), 0);
        Checks.due("isn't answered so", known.x.sent(6), 1);
    }

    private static void unknownKinds() {
        for (int kind = 0; kind < 65536; kind += kind < 300 || kind > 32700 && kind < 32900 ? 1 : 101) {
            RelayHouse x = new RelayHouse();
            x.message(1, 1, 2, 3);
            x.number(kind, 1, 0);
            x.datagram(1, 1);
            boolean told = TOLD.contains(kind);
            Checks.due("kind " + kind, x.attribute(0, 6), told || kind >= 32768 ? 0 : 420);
        }
        RelayHouse y = new RelayHouse();
        y.message(1, 1, 2, 3);
        int[] kinds = {5000, 3, 32767, 3, 32768, 5000, 1, 2, 6, 4, 5, 7, 8, 11};
        for (int kind : kinds) {
            y.number(kind, 0, 0);
        }
        y.finger();
        y.datagram(1, 1);
        Checks.due("ERROR", y.attribute(0, 6), 420);
        Checks.due("UNKNOWN", y.attribute(1, 0), 10);
        Checks.due("eight of them", y.attribute(1, 1), 16);
        int[] due = {5000, 3, 32767, 1, 2, 4, 5, 7};
        for (int i = 0; i < due.length; i++) {
            int at = y.attribute(1, 2) + 2 * i;
            Checks.due("the kind " + i, y.octet(at) << 8 | y.octet(at + 1), due[i]);
        }
        Checks.due("ERROR, UNKNOWN, FINGERPRINT", y.sent(6), 3);
        y.message(1, 1, 2, 3);
        y.number(1, 0, 0);
        y.number(2, 0, 0);
        y.number(3, 0, 0);
        y.datagram(1, 1);
        Checks.due("three of them", y.attribute(1, 1), 6);
        Checks.due("with bytes behind", y.sent(0), 20 + 8 + 12);
        Checks.due("that are 0", y.octet(38) + y.octet(39), 0);
    }

    // Each request has one fault fewer than the one ahead of it.
    private static void order() {
        for (int method : new int[] {3, 4, 8, 9}) {
            Client c = Client.known();
            c.x.fresh(9);
            c.open(method, 1).number(4660, 0, 0).credentials();
            Checks.due(method + " without INTEGRITY", c.go(), 401);
            Checks.due("ERROR, REALM, NONCE", c.x.sent(6), 3);
            Checks.due("ERROR", c.x.attribute(0, 0), 9);
            Checks.due("its size", c.x.attribute(0, 1), 4);
            Checks.due("its bytes", c.x.attribute(0, 3), 4 << 8 | 1);
            Checks.due("REALM", c.x.attribute(1, 0) << 8 | c.x.attribute(1, 3), 20 << 8 | 'r');
            Checks.due("REALM's size", c.x.attribute(1, 1), 1);
            Checks.due("NONCE", c.x.attribute(2, 0), 21);
            Checks.due("NONCE's bytes", c.x.octet(c.x.attribute(2, 2) + 7), 9);
            for (int left = 0; left < 3; left++) {
                c.open(method, 1).number(4660, 0, 0);
                if (left != 0) {
                    c.x.text(6, Client.word("xx"), 0);
                }
                if (left != 1) {
                    c.x.text(20, Client.word("xx"), 0);
                }
                if (left != 2) {
                    c.x.nonce(21, 0);
                }
                c.sign();
                Checks.due(method + " without the one of three " + left, c.go(), 400);
                Checks.due("ERROR alone", c.x.sent(6), 1);
            }
            c.open(method, 1).number(4660, 0, 0);
            c.as("xx", "p2").realm = "q";
            Checks.due(method + " another NONCE", c.signedGo(), 438);
            Checks.due("ERROR, REALM, NONCE", c.x.sent(6), 3);
            c.nonce = 9;
            Checks.due(method + " unknown", c.open(method, 1).number(4660, 0, 0).signedGo(), 401);
            Checks.due("ERROR, REALM, NONCE", c.x.sent(6), 3);
            c.as("an", "p1").realm = "q";
            Checks.due(method + " another REALM", c.open(method, 1).number(4660, 0, 0).signedGo(), 401);
            c.as("an", "p2").realm = "r";
            Checks.due(method + " wrong password", c.open(method, 1).number(4660, 0, 0).signedGo(), 401);
            c.as("an", "p1");
            Checks.due(method + " STRANGE", c.open(method, 1).number(4660, 0, 0).signedGo(), 420);
            Checks.due("ERROR, UNKNOWN", c.x.sent(6), 2);
            Checks.due(method + " as told", c.open(method, 1).signedGo(), method == 3 ? 400 : 437);
            Checks.due("ERROR, INTEGRITY", c.x.sent(6), 2);
            Checks.due("the INTEGRITY", c.isSealed(1) ? 1 : 0, 1);
            Checks.due("nothing was made", c.x.count(2), 0);
        }
    }

    private static void wrongSizes() {
        Client c = Client.known();
        c.open(3, 1).number(25, 4, Client.UDP).credentials();
        c.x.number(28, 4, 1);
        Checks.due("INTEGRITY of 4 bytes", c.go(), 401);
        Checks.due("which is not STRANGE", c.x.attribute(1, 0), 20);
        c.open(3, 1).number(25, 4, Client.UDP);
        c.x.text(6, Client.word("12345678"), '9');
        c.x.text(20, 'r', 0);
        c.x.nonce(21, 0);
        Checks.due("USERNAME of 9 bytes", c.sign().go(), 400);
        c.open(3, 1).number(25, 4, Client.UDP);
        c.x.text(6, Client.word("an"), 0);
        c.x.text(20, 0, 0);
        c.x.nonce(21, 0);
        Checks.due("REALM of 0 bytes", c.sign().go(), 400);
        c.open(3, 1).number(25, 4, Client.UDP);
        c.x.text(6, Client.word("an"), 0);
        c.x.text(20, 'r', 0);
        c.x.number(21, 4, 0);
        Checks.due("NONCE of 4 bytes", c.sign().go(), 400);
        Checks.due("TRANSPORT of 3 bytes", c.open(3, 1).number(25, 3, -1).signedGo(), 400);
        Checks.due("TRANSPORT, 3 bytes then 4", c.open(3, 1).number(25, 3, -1).number(25, 4, Client.UDP).signedGo(), 0);
        Checks.due("LIFETIME of 3 bytes", c.open(4, 1).number(13, 3, 0).signedGo(), 0);
        Checks.due("counts as none", c.x.attribute(0, 3), 600);
        c.open(8, 1);
        c.x.nonce(18, 0x0002211221120000L);
        Checks.due("PEER of another second byte", c.signedGo(), 400);
        c.open(8, 1);
        c.x.nonce(18, 0xff012112_2112a443L);
        Checks.due("PEER of another first byte", c.signedGo(), 0);
        Checks.due("is as any", c.x.permission(0, 1), 300);
        c.open(8, 1);
        c.x.number(18, 4, 0x00012112);
        Checks.due("PEER of 4 bytes", c.signedGo(), 400);
        Checks.due("CHANNEL of 2 bytes", c.open(9, 1).peer(1, 1).number(12, 2, 16384).signedGo(), 400);
        Checks.due("CHANNEL's others", c.open(9, 1).peer(1, 1).number(12, 4, 16384 << 16 | 65535).signedGo(), 0);
        Checks.due("aren't looked at", c.x.channel(0, 16384), 600);
        Checks.due("TRANSPORT's others", c.at(6).open(3, 1).number(25, 4, Client.UDP | 0xffffff).signedGo(), 0);
    }

    private static void behindIntegrity() {
        Client c = Client.known();
        c.open(3, 1).credentials().sign().number(25, 4, Client.UDP);
        Checks.due("TRANSPORT behind INTEGRITY", c.go(), 400);
        c.open(3, 1).number(25, 4, Client.UDP).credentials().sign().number(4660, 0, 0).number(13, 4, 3000);
        Checks.due("something STRANGE behind it", c.go(), 0);
        Checks.due("LIFETIME behind it", c.x.attribute(1, 3), 600);
        c.open(8, 1).peer(1, 1).credentials().sign().peer(2, 2);
        Checks.due("PEER behind it", c.go(), 0);
        Checks.due("has no PERMISSION", c.x.permission(0, 2), 0);
        c.x.message(3, 1, 2, 3);
        c.sign().credentials().sign();
        Checks.due("USERNAME behind it", c.go(), 400);
        c.open(4, 1).credentials().sign();
        c.x.sign('x', 'x');
        Checks.due("a second INTEGRITY", c.go(), 0);
        c.open(4, 1).credentials();
        c.x.sign('x', 'x');
        c.sign();
        Checks.due("the first one counts", c.go(), 401);
        c.open(4, 1).number(28, 4, 7).credentials().sign();
        Checks.due("one of another size is none", c.go(), 0);
    }

    private static void firstOfSeveral() {
        Client c = Client.known();
        c.x.user('b', 'b');
        c.open(3, 1).number(25, 4, Client.UDP).number(25, 4, 6 << 24).number(13, 4, 900).number(13, 4, 1000).credentials();
        c.x.text(6, 'b', 0);
        c.x.text(20, 'q', 0);
        c.x.nonce(21, 5);
        Checks.due("the first of each", c.sign().go(), 0);
        Checks.due("LIFETIME", c.x.attribute(1, 3), 900);
        Checks.due("PEERS in ChannelBind", c.open(9, 1).peer(1, 1).peer(2, 2).number(12, 4, 16385 << 16)
                .number(12, 4, 16386 << 16).signedGo(), 0);
        Checks.due("the first PEER", c.x.permission(0, 1), 300);
        Checks.due("not the second", c.x.permission(0, 2), 0);
        Checks.due("the first CHANNEL", c.x.channel(0, 16385), 600);
        Checks.due("not the second", c.x.channel(0, 16386), 0);
    }

    // Bytes 0 in a USERNAME or REALM that comes are bytes as others.
    private static void words() {
        Client c = Client.known();
        c.open(3, 1).number(25, 4, Client.UDP);
        c.x.number(6, 3, (int) Client.word("an"));
        c.x.text(20, 'r', 0);
        c.x.nonce(21, 0);
        Checks.due("USERNAME with a byte 0 ahead", c.sign().go(), 401);
        c.open(3, 1).number(25, 4, Client.UDP);
        c.x.number(6, 2, (int) Client.word("an"));
        c.x.number(20, 2, 'r');
        c.x.nonce(21, 0);
        Checks.due("REALM with a byte 0 ahead", c.sign().go(), 401);
        c.open(3, 1).number(25, 4, Client.UDP);
        c.x.number(6, 3, (int) Client.word("an") << 8);
        c.x.text(20, 'r', 0);
        c.x.nonce(21, 0);
        Checks.due("USERNAME with a byte 0 behind", c.sign().go(), 401);
        Checks.due("as it is", c.allocate(1), 0);
    }

    private static void integrity() {
        for (int i = 8; i < 92; i++) {
            Client c = Client.known();
            c.open(3, 1).number(25, 4, Client.UDP).credentials().sign();
            c.x.alter(i, 128);
            boolean head = i >= 20 && (i < 24 || i >= 28 && i < 32 || i >= 36 && i < 40 || i >= 44 && i < 48
                    || i >= 56 && i < 60);
            int got = c.go();
            if (!head) {
                boolean nonce = i >= 48 && i < 56;
                Checks.due("byte " + i + " altered", got, nonce ? 438 : 401);
            }
            Checks.due("nothing is made", c.x.count(2), 0);
        }
        for (int n = 0; n < 20; n++) {
            Client c = Client.known();
            c.open(1, n);
            c.x.alter(1, 1 ^ 3);
            c.number(25, 4, Client.UDP);
            for (int i = 0; i < n; i++) {
                c.x.nonce(19, n * i);
            }
            Checks.due("INTEGRITY with " + n + " more", c.signedGo(), 0);
            Checks.due("and in the answer", c.isSealed(3) ? 1 : 0, 1);
        }
    }

    private static void answers() {
        Client c = Client.known();
        c.x.message(3, -1, 0x01020304, 5);
        c.number(25, 4, Client.UDP).credentials().sign().x.finger();
        Checks.due("Allocate", c.go(), 0);
        byte[] sent = Client.sentOf(c.x);
        byte[] head = {1, 3, 0, 76, 33, 18, (byte) 164, 66, -1, -1, -1, -1, 1, 2, 3, 4, 0, 0, 0, 5};
        Checks.due("its head", Arrays.equals(Arrays.copyOf(sent, 20), head) ? 1 : 0, 1);
        Checks.due("LENGTH", sent.length, 96);
        Checks.due("RELAYED", c.x.attribute(0, 0), 22);
        Checks.due("SERVER's IP", c.x.attribute(0, 5), (int) 3232235777L);
        Checks.due("LIFETIME", c.x.attribute(1, 0), 13);
        Checks.due("its size", c.x.attribute(1, 1), 4);
        Checks.due("MAPPED", c.x.attribute(2, 0), 32);
        Checks.due("INTEGRITY", c.isSealed(3) ? 1 : 0, 1);
        Checks.due("FINGERPRINT", c.isFingered(4) ? 1 : 0, 1);
        c.x.realm(Client.word("abcde"));
        c.open(8, 1);
        Checks.due("401", c.go(), 401);
        Checks.due("REALM's size", c.x.attribute(1, 1), 5);
        int start = c.x.attribute(1, 2);
        for (int i = 0; i < 8; i++) {
            Checks.due("REALM's byte " + i, c.x.octet(start + i), i < 5 ? 'a' + i : 0);
        }
        Checks.due("NONCE behind", c.x.attribute(2, 2), start + 12);
        Checks.due("all", c.x.sent(0), 20 + 8 + 12 + 12);
        Checks.due("TYPE of an error", c.x.octet(0) << 8 | c.x.octet(1), 8 | 16 | 256);
    }
}
