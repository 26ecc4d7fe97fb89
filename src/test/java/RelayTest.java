import java.util.Arrays;

/** Promises 19 and 20: what is brought to peers and from them. */
public final class RelayTest {
    private static final int NONE = RelayHouse.NONE;
    private static final int SEND = 6 | 16;

    public static void main(String[] args) {
        channelData();
        channelDataShapes();
        send();
        peerPorts();
        dataIndications();
        channelDataFromPeers();
        fullTape();
        Checks.close();
    }

    private static Client bound() {
        Client c = Client.known();
        c.allocate(1, 3600);
        c.bind(16385, 55, 7000);
        return c;
    }

    private static void sentBytes(String call, RelayHouse x, int... want) {
        Checks.due(call + ": bytes", x.sent(0), want.length);
        for (int i = 0; i < want.length; i++) {
            Checks.due(call + ": octet(" + i + ")", x.octet(i), want[i]);
        }
    }

    private static void channelData() {
        Client c = bound();
        c.write(64, 1, 0, 3, 97, 98, 99);
        Checks.due("CHANNEL DATA", c.x.datagram(c.ip, c.port), 1);
        sentBytes("CHANNEL DATA", c.x, 97, 98, 99);
        Checks.due("to IP", c.x.sent(1), 55);
        Checks.due("to PORT", c.x.sent(2), 7000);
        Checks.due("from PORT", c.x.sent(3), 49152);
        Checks.due("METHOD", c.x.sent(4), NONE);
        Checks.due("CLASS", c.x.sent(5), NONE);
        Checks.due("ATTRIBUTES", c.x.sent(6), 0);
        Checks.due("relayed to peers", c.x.count(6), 1);
        c.write(64, 1, 0, 3, 97, 98, 99);
        Checks.due("from another client", c.x.datagram(c.ip, c.port + 1), 0);
        c.write(64, 2, 0, 3, 97, 98, 99);
        Checks.due("of another CHANNEL", c.x.datagram(c.ip, c.port), 0);
        c.x.tick(300);
        c.write(64, 1, 0, 3, 97, 98, 99);
        Checks.due("without PERMISSION", c.x.datagram(c.ip, c.port), 0);
        Checks.due("relayed to peers", c.x.count(6), 1);
        c.permit(55);
        c.write(64, 1, 0, 0);
        Checks.due("with PERMISSION again, no bytes", c.x.datagram(c.ip, c.port), 1);
        Checks.due("bytes", c.x.sent(0), 0);
        Checks.due("octet", c.x.octet(0), NONE);
        Checks.due("to IP", c.x.sent(1), 55);
        Checks.due("METHOD", c.x.sent(4), NONE);
        Checks.due("relayed to peers", c.x.count(6), 2);
        c.x.tick(300);
        c.permit(55);
        c.write(64, 1, 0, 0);
        Checks.due("when the CHANNEL is over", c.x.datagram(c.ip, c.port), 0);
        c.bind(16385, 55, 7000);
        c.refresh(0);
        c.write(64, 1, 0, 0);
        Checks.due("when the ALLOCATION is over", c.x.datagram(c.ip, c.port), 0);
        Client low = Client.known();
        low.allocate(1);
        low.bind(16384, 1, 1);
        low.bind(20479, 2, 2);
        low.write(64, 0, 0, 1, 5);
        Checks.due("the lowest number", low.x.datagram(low.ip, low.port), 1);
        low.write(79, 255, 0, 1, 5);
        Checks.due("the highest number", low.x.datagram(low.ip, low.port), 1);
        Checks.due("to IP", low.x.sent(1), 2);
    }

    private static void channelDataShapes() {
        Client c = bound();
        for (int n = 0; n <= 16; n++) {
            for (int size = 0; size <= 8; size++) {
                int[] bytes = new int[n];
                int[] head = {64, 1, 0, size};
                System.arraycopy(head, 0, bytes, 0, Math.min(4, n));
                c.write(bytes);
                int more = n - 4 - size;
                Checks.due("size " + size + " in " + n, c.x.datagram(c.ip, c.port), more >= 0 && more <= 3 ? 1 : 0);
                Checks.due("bytes", c.x.sent(0), more >= 0 && more <= 3 ? size : 0);
            }
            if (n % 4 == 3) {
                c = bound();
            }
        }
        c.write(64, 1, 1, 0, 5);
        Checks.due("size 256", c.x.datagram(c.ip, c.port), 0);
        int[] many = new int[400];
        many[0] = 64;
        many[1] = 1;
        many[2] = 1;
        many[3] = 140;
        many[399] = 77;
        c.write(many);
        Checks.due("size 396", c.x.datagram(c.ip, c.port), 1);
        Checks.due("bytes", c.x.sent(0), 396);
        Checks.due("the last one", c.x.octet(395), 77);
    }

    private static Client opened(Client c) {
        c.x.message(SEND, 1, 2, 3);
        return c;
    }

    private static void send() {
        Client c = Client.known();
        opened(c).peer(9, 8).number(19, 3, 0x010203);
        Checks.due("without ALLOCATION", c.go(), NONE);
        c.allocate(1, 3600);
        opened(c).peer(9, 8).number(19, 3, 0x010203);
        Checks.due("without PERMISSION", c.go(), NONE);
        c.permit(9);
        opened(c).peer(9, 8).number(19, 3, 0x010203);
        Checks.due("Send", c.x.datagram(c.ip, c.port), 1);
        sentBytes("Send", c.x, 1, 2, 3);
        Checks.due("to IP", c.x.sent(1), 9);
        Checks.due("to PORT", c.x.sent(2), 8);
        Checks.due("from PORT", c.x.sent(3), 49152);
        Checks.due("METHOD", c.x.sent(4), NONE);
        Checks.due("relayed to peers", c.x.count(6), 1);
        Checks.due("no Data indication", c.x.count(5), 0);
        opened(c).number(19, 3, 0x010203);
        Checks.due("without PEER", c.go(), NONE);
        opened(c).peer(9, 8);
        Checks.due("without DATA", c.go(), NONE);
        opened(c).peer(9, 8).number(19, 0, 0).number(4660, 0, 0);
        Checks.due("with something STRANGE", c.go(), NONE);
        opened(c).peer(9, 8).number(19, 0, 0).number(40000, 0, 0);
        Checks.due("with another kind, no DATA's bytes", c.x.datagram(c.ip, c.port), 1);
        Checks.due("bytes", c.x.sent(0), 0);
        Checks.due("to PORT", c.x.sent(2), 8);
        opened(c).number(19, 1, 5).number(19, 1, 6).peer(9, 8).peer(1, 1);
        Checks.due("the first of each", c.x.datagram(c.ip, c.port), 1);
        sentBytes("the first of each", c.x, 5);
        opened(c).peer(9, 8).sign().number(19, 1, 6);
        Checks.due("DATA behind INTEGRITY", c.go(), NONE);
        opened(c).peer(9, 8).number(19, 1, 6).sign().number(4660, 1, 6);
        Checks.due("something STRANGE behind it", c.x.datagram(c.ip, c.port), 1);
        opened(c).peer(9, 8).number(19, 1, 6).x.finger();
        Checks.due("with FINGERPRINT", c.x.datagram(c.ip, c.port), 1);
        sentBytes("without it", c.x, 6);
        opened(c).peer(9, 8).number(19, 1, 6).x.finger();
        c.x.alter(8, 1);
        Checks.due("with a wrong one", c.go(), NONE);
        opened(c).peer(9, 0).number(19, 1, 6);
        Checks.due("to PORT 0", c.x.datagram(c.ip, c.port), 1);
        Checks.due("PORT", c.x.sent(2), 0);
        c.x.forbid(9, 32);
        opened(c).peer(9, 8).number(19, 1, 6);
        Checks.due("FORBIDDEN later, with PERMISSION", c.x.datagram(c.ip, c.port), 1);
        for (int type : new int[] {7 | 16, 1 | 16, 3 | 16, 6 | 256, 6 | 272}) {
            c.x.message(type, 1, 2, 3);
            c.peer(9, 8).number(19, 1, 6);
            Checks.due("TYPE " + type, c.x.datagram(c.ip, c.port), 0);
        }
        c.x.tick(300);
        opened(c).peer(9, 8).number(19, 1, 6);
        Checks.due("when the PERMISSION is over", c.go(), NONE);
    }

    private static void peerPorts() {
        Client c = bound();
        c.write(1, 2, 3);
        for (int port : new int[] {0, -1, 65536, Integer.MIN_VALUE, Integer.MAX_VALUE}) {
            Checks.due("peer from PORT " + port, c.x.peer(49152, 55, port), NONE);
        }
        Checks.due("the TAPE stays", c.x.count(3), 3);
        Checks.due("SENT stays", c.x.sent(4), 9);
        Checks.due("from PORT 65535", c.x.peer(49152, 55, 65535), 1);
        Checks.due("the TAPE is used up", c.x.count(3), 0);
        for (int relayed : new int[] {0, 3478, 49151, 49153, -1, 70000}) {
            c.write(1, 2, 3);
            Checks.due("to PORT " + relayed, c.x.peer(relayed, 55, 7000), 0);
            Checks.due("the TAPE is used up", c.x.count(3), 0);
            Checks.due("nothing is SENT", c.x.sent(0), 0);
        }
        c.write(1, 2, 3);
        Checks.due("from another IP", c.x.peer(49152, 56, 7000), 0);
        Checks.due("steps that sent nothing", c.x.count(9), 7);
        c.x.tick(300);
        Checks.due("without PERMISSION", c.x.peer(49152, 55, 7000), 0);
        c.permit(55);
        Checks.due("with PERMISSION", c.x.peer(49152, 55, 7000), 1);
        c.refresh(0);
        Checks.due("without ALLOCATION", c.x.peer(49152, 55, 7000), 0);
    }

    private static void dataIndications() {
        Client c = bound();
        c.write(1, 2, 3, 4, 5);
        Checks.due("from a PORT without CHANNEL", c.x.peer(49152, 55, 7001), 1);
        sentBytes("Data", c.x, 0, 23, 0, 24, 33, 18, 164, 66, 0, 0, 0, 0, 0, 0, 0, 0, 0, 0, 0, 0,
                0, 18, 0, 8, 0, 1, 7001 >> 8 ^ 33, 7001 & 255 ^ 18, 33, 18, 164, 66 ^ 55,
                0, 19, 0, 5, 1, 2, 3, 4, 5, 0, 0, 0);
        Checks.due("to IP", c.x.sent(1), c.ip);
        Checks.due("to PORT", c.x.sent(2), c.port);
        Checks.due("from PORT", c.x.sent(3), 3478);
        Checks.due("METHOD", c.x.sent(4), 7);
        Checks.due("CLASS", c.x.sent(5), 1);
        Checks.due("ATTRIBUTES", c.x.sent(6), 2);
        c.x.peer(49152, 55, 7000);
        c.x.peer(49152, 55, 7001);
        Checks.due("an empty one", c.x.sent(0), 36);
        Checks.due("its ID", c.x.octet(19), 1);
        Checks.due("DATA's size", c.x.attribute(1, 1), 0);
        Client other = c.at(1);
        other.allocate(1);
        other.permit(66);
        c.x.peer(49153, 66, 1);
        Checks.due("to the other's client", c.x.sent(2), 1);
        Checks.due("ID goes on", c.x.octet(19), 2);
        Checks.due("Data indications", c.x.count(5), 3);
        Checks.due("from peers", c.x.count(7), 4);
        Checks.due("not the other's PERMISSION", c.x.peer(49152, 66, 1), 0);
        RelayHouse many = bound().x;
        for (int i = 0; i < 300; i++) {
            many.peer(49152, 55, 1);
        }
        Checks.due("ID 299", many.octet(18) << 8 | many.octet(19), 299);
    }

    private static void channelDataFromPeers() {
        Client c = bound();
        c.write(9, 8, 7);
        Checks.due("from the peer of a CHANNEL", c.x.peer(49152, 55, 7000), 1);
        sentBytes("CHANNEL DATA", c.x, 64, 1, 0, 3, 9, 8, 7);
        Checks.due("to IP", c.x.sent(1), c.ip);
        Checks.due("to PORT", c.x.sent(2), c.port);
        Checks.due("from PORT", c.x.sent(3), 3478);
        Checks.due("METHOD", c.x.sent(4), NONE);
        Checks.due("CLASS", c.x.sent(5), NONE);
        Checks.due("ATTRIBUTES", c.x.sent(6), 0);
        Checks.due("no Data indication", c.x.count(5), 0);
        Checks.due("from peers", c.x.count(7), 1);
        c.x.peer(49152, 55, 7000);
        sentBytes("an empty one", c.x, 64, 1, 0, 0);
        c.permit(56);
        c.x.peer(49152, 56, 7000);
        Checks.due("another IP of that PORT", c.x.sent(4), 7);
        c.x.tick(300);
        c.permit(55);
        c.x.tick(299);
        c.permit(55);
        c.x.peer(49152, 55, 7000);
        Checks.due("a second ahead", c.x.sent(0), 4);
        c.x.tick(1);
        c.x.peer(49152, 55, 7000);
        Checks.due("when the CHANNEL is over", c.x.sent(4), 7);
    }

    private static void fullTape() {
        Client c = bound();
        int[] full = new int[400];
        Arrays.setAll(full, i -> i * 7 & 255);
        c.write(full);
        c.x.peer(49152, 55, 7000);
        Checks.due("CHANNEL DATA of a full TAPE", c.x.sent(0), 404);
        Checks.due("size", c.x.octet(2) << 8 | c.x.octet(3), 400);
        Checks.due("the last byte", c.x.octet(403), full[399]);
        c.write(full);
        c.x.peer(49152, 55, 7001);
        Checks.due("Data of a full TAPE", c.x.sent(0), 436);
        Checks.due("LENGTH", c.x.octet(2) << 8 | c.x.octet(3), 416);
        Checks.due("the last byte", c.x.octet(435), full[399]);
        Checks.due("METHOD", c.x.sent(4), 7);
        Checks.due("DATA's size", c.x.attribute(1, 1), 400);
        Checks.due("behind", c.x.octet(436), NONE);
    }
}
