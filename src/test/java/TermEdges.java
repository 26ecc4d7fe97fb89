import java.io.IOException;
import java.nio.file.Files;
import java.nio.file.Path;
import java.util.Arrays;

/** What the terms say for all promises: the words, the sums, the kinds, the server, the order of answers, the face. */
final class TermEdges {
    private static final int PEER_IP = 55;

    private TermEdges() {
    }

    static void run() throws IOException {
        wholeWay();
        protocolsAlone();
        seals();
        fingerprints();
        kindsOfAnswers();
        server();
        orderOfAnswers();
        none();
        face();
    }

    // ---- what it is

    private static void wholeWay() {
        Edges.term(19, "A relay for those who can't be reached:");
        Client c = Client.known();
        Edges.due("no peer reaches it yet", fromPeer(c, 7000), 0);
        Edges.due("it shows who it is, and is given a port", c.allocate(1), 0);
        Edges.due("no peer reaches it yet", fromPeer(c, 7000), 0);
        Edges.due("it tells by which peer it may be reached", c.permit(PEER_IP), 0);
        Edges.due("that peer reaches it", fromPeer(c, 7000), 1);
        Edges.due("where it is", c.x.sent(1), Client.IP);
        Edges.due("by its PORT", c.x.sent(2), Client.PORT);
        Edges.due("another peer does not", reached(c, PEER_IP + 1, 7000), 0);
        Edges.due("it binds a channel", c.bind(20479, PEER_IP, 7000), 0);
        Edges.due("and is reached by it", fromPeer(c, 7000), 1);
        Edges.sent("CHANNEL DATA", c.x, 79, 255, 0, 3, 1, 2, 3);
        Edges.due("from another PORT too", fromPeer(c, 7001), 1);
        Edges.due("by a Data indication", c.x.sent(4), 7);
        c.write(79, 255, 0, 2, 9, 8);
        Edges.due("it reaches the peer", c.x.datagram(c.ip, c.port), 1);
        Edges.sent("two bytes", c.x, 9, 8);
        Edges.due("the clock", c.x.tick(300), 0);
        Edges.due("no peer reaches it any more", fromPeer(c, 7000), 0);
    }

    private static int fromPeer(Client c, int port) {
        return reached(c, PEER_IP, port);
    }

    private static int reached(Client c, int ip, int port) {
        c.write(1, 2, 3);
        return c.x.peer(49152, ip, port);
    }

    private static void protocolsAlone() {
        Edges.term(19, "STUN and TURN over datagrams (RFC 8489, RFC 8656; IPv4 alone, SHA-256 alone): a client shows who "
                + "it is, is given a port of the relay, tells by which peers it may be reached, binds channels; the "
                + "relay brings datagrams to and fro as long as a clock lets it; a desk puts messages together, and "
                + "takes apart what was sent.");
        RelayHouse x = new RelayHouse();
        x.message(1, 0x01020304, 0x05060708, 0x090a0b0c);
        x.datagram(0x0a000001, 5000);
        Edges.sent("a Binding's answer", x, 1, 1, 0, 12, 33, 18, 164, 66, 1, 2, 3, 4, 5, 6, 7, 8, 9, 10, 11, 12,
                0, 32, 0, 8, 0, 1, 0x13 ^ 33, 0x88 ^ 18, 10 ^ 33, 18, 164, 1 ^ 66);
        Client c = Client.known();
        c.allocate(1);
        int[] six = new int[20];
        six[1] = 2;
        Edges.due("a PEER of IPv6", c.open(Client.PERMIT, 1).raw(18, 20, six).signedGo(), 400);
        Edges.due("INTEGRITY by SHA-1 alone", c.open(Client.REFRESH, 1).credentials().raw(8, 20, six)
                .number(40000, 0, 0).go(), 401);
        // What the RFCs know besides: SHA-1's INTEGRITY, 23 a family, 24 an even PORT, 26, 29 and 30, 34 a reserved one.
        for (int kind : new int[] {8, 23, 24, 26, 29, 30, 34}) {
            Edges.due("kind " + kind, c.open(Client.REFRESH, 1).number(kind, 4, 0).signedGo(), 420);
        }
        Edges.due("the name of a program", c.open(Client.REFRESH, 1).number(32802, 4, 0).signedGo(), 0);
    }

    // ---- the sums

    private static void seals() {
        Edges.term(9, "HMAC-SHA-256 (RFC 2104, FIPS 180-4) with a KEY,");
        for (int n = 20; n <= 364; n += 4) {
            RelayHouse x = new RelayHouse();
            Edges.fill(x, n);
            byte[] ahead = ofTape(x, n);
            x.sign(Client.word("u" + n), Client.word("w"));
            byte[] due = Client.mac(ahead, "u" + n, "r", "w");
            for (int i = 0; i < 32; i++) {
                Edges.due("behind " + n + ": byte " + i, x.tape(n + 4 + i), due[i] & 255);
            }
        }
    }

    private static void fingerprints() {
        Edges.term(10, "CRC-32 (as in Ethernet: polynomial 04C11DB7 reflected, begun with and ended by all bits turned)");
        for (int n = 20; n <= 392; n += 4) {
            RelayHouse x = new RelayHouse();
            Edges.fill(x, n);
            x.finger();
            byte[] ahead = ofTape(x, n);
            int due = bitByBit(ahead) ^ 1398035790;
            Edges.due("of " + n + ": two ways", due, Client.crc(ahead));
            Edges.tape("of " + n, x, n + 4, due >>> 24, due >>> 16 & 255, due >>> 8 & 255, due & 255);
        }
    }

    private static byte[] ofTape(RelayHouse x, int n) {
        byte[] bytes = new byte[n];
        for (int i = 0; i < n; i++) {
            bytes[i] = (byte) x.tape(i);
        }
        return bytes;
    }

    // With the polynomial as it is written, so that each byte comes and the sum goes with its bits turned about.
    private static int bitByBit(byte[] bytes) {
        int sum = -1;
        for (byte one : bytes) {
            sum ^= Integer.reverse(one & 255);
            for (int i = 0; i < 8; i++) {
                sum = sum < 0 ? sum << 1 ^ 0x04C11DB7 : sum << 1;
            }
        }
        return ~Integer.reverse(sum);
    }

    // ---- the server

    private static void kindsOfAnswers() {
        Edges.term(19, "22 RELAYED (ADDRESS)");
        Client c = Client.known();
        c.open(Client.ALLOCATE, 1).number(25, 4, Client.UDP).credentials().sign().x.finger();
        c.go();
        holdsAttribute(c.x, 0, 22, 8);
        Edges.due("its second byte", c.x.octet(25), 1);
        Edges.due("its PORT", c.x.attribute(0, 4), 49152);
        Edges.term(19, "28 INTEGRITY, 32 MAPPED (ADDRESS), 32808 FINGERPRINT.");
        holdsAttribute(c.x, 2, 32, 8);
        Edges.due("its PORT", c.x.attribute(2, 4), Client.PORT);
        Edges.due("its IP", c.x.attribute(2, 5), Client.IP);
        holdsAttribute(c.x, 3, 28, 32);
        Edges.holds("INTEGRITY", c.isSealed(3));
        holdsAttribute(c.x, 4, 32808, 4);
        Edges.holds("FINGERPRINT", c.isFingered(4));
    }

    private static void holdsAttribute(RelayHouse x, int i, int kind, int size) {
        Edges.due("kind of " + i, x.attribute(i, 0), kind);
        Edges.due("size of " + i, x.attribute(i, 1), size);
    }

    private static void server() {
        Edges.term(19, "THE SERVER's IP is 3232235777, its PORT 3478.");
        Client c = Client.known();
        c.allocate(1);
        Edges.due("RELAYED's IP", c.x.attribute(0, 5), (int) 3232235777L);
        Edges.due("an answer is from", c.x.sent(3), 3478);
        c.allocate(2);
        Edges.due("an ERROR is from", c.x.sent(3), 3478);
        c.bind(16384, PEER_IP, 1);
        fromPeer(c, 1);
        Edges.due("CHANNEL DATA is from", c.x.sent(3), 3478);
        fromPeer(c, 2);
        Edges.due("Data is from", c.x.sent(3), 3478);
    }

    private static void orderOfAnswers() {
        Edges.term(19, "ERROR, or what is told, in the order as told here;");
        Client c = Client.known();
        kinds("Binding", c.open(1, 1), false, 32);
        kinds("Binding, 420", c.open(1, 1).number(7, 0, 0), false, 9, 10);
        kinds("another METHOD", c.open(2, 1).credentials().sign(), false, 9);
        kinds("without INTEGRITY", c.open(3, 1).credentials(), false, 9, 20, 21);
        kinds("without USERNAME", c.open(3, 1).sign(), false, 9);
        kinds("another REALM", c.open(3, 1).number(20, 1, 'q').credentials().sign(), false, 9, 20, 21);
        kinds("something STRANGE", c.open(3, 1).number(7, 0, 0).credentials().sign(), false, 9, 10);
        kinds("without TRANSPORT", c.open(3, 1).credentials().sign(), true, 9);
        kinds("Refresh without ALLOCATION", c.open(4, 1).credentials().sign(), true, 9);
        kinds("Allocate", c.open(3, 1).number(25, 4, Client.UDP).credentials().sign(), true, 22, 13, 32);
        kinds("Allocate again", c.open(3, 1).credentials().sign(), true, 22, 13, 32);
        kinds("Refresh", c.open(4, 1).credentials().sign(), true, 13);
        kinds("CreatePermission", c.open(8, 1).peer(1, 1).credentials().sign(), true);
        kinds("ChannelBind", c.open(9, 1).number(12, 4, 16384 << 16).peer(1, 1).credentials().sign(), true);
        kinds("ChannelBind without CHANNEL", c.open(9, 1).peer(1, 1).credentials().sign(), true, 9);
        kinds("Refresh to the end", c.open(4, 1).number(13, 4, 0).credentials().sign(), true, 13);
        c.x.fresh(1);
        kinds("another NONCE", c.open(4, 1).credentials().sign(), false, 9, 20, 21);
    }

    private static void kinds(String call, Client c, boolean signed, int... told) {
        c.x.finger();
        c.go();
        int[] due = Arrays.copyOf(told, told.length + (signed ? 2 : 1));
        due[told.length] = 28;
        due[due.length - 1] = 32808;
        Edges.due(call + ": ATTRIBUTES", c.x.sent(6), due.length);
        for (int i = 0; i < due.length; i++) {
            Edges.due(call + ": kind " + i, c.x.attribute(i, 0), due[i]);
        }
    }

    // ---- the face

    private static void none() {
        Edges.term(1, "The constants: `NONE = -1`: There is none.");
        Edges.due("NONE", RelayHouse.NONE, -1);
        Edges.due("no byte", new RelayHouse().tape(0), -1);
    }

    private static void face() throws IOException {
        String source = Files.readString(Path.of("src/main/java/RelayHouse.java"));
        Edges.term(1, "Ahead of the calls `feed`, `end`, `message`, `number`, `text`, `nonce`, `address`, `sign`, `finger`, "
                + "`tape`, `alter` the interface says: ---- the desk: the TAPE.");
        int at = inOrder(source, 0, "// ---- the desk: the TAPE.", "feed", "end", "message", "number", "text", "nonce",
                "address", "sign", "finger", "tape", "alter");
        Edges.term(1, "Ahead of the calls `user`, `realm`, `fresh`, `part`, `forbid`, `tick`, `datagram`, `peer` the "
                + "interface says: ---- the server.");
        at = inOrder(source, at, "// ---- the server.", "user", "realm", "fresh", "part", "forbid", "tick", "datagram",
                "peer");
        Edges.term(1, "Ahead of the calls `sent`, `octet`, `attribute`, `allocation`, `permission`, `channel`, `count` the "
                + "interface says: ---- what was SENT, what there is.");
        inOrder(source, at, "// ---- what was SENT, what there is.", "sent", "octet", "attribute", "allocation",
                "permission", "channel", "count");
    }

    private static int inOrder(String source, int from, String title, String... calls) {
        int at = source.indexOf(title, from);
        Edges.holds("the source says it", at >= 0);
        for (String call : calls) {
            int next = source.indexOf("public int " + call + "(", Math.max(0, at));
            Edges.holds(call + "() stands behind it", at >= 0 && next > at);
            at = next;
        }
        return at;
    }
}
