/** Promises 21 to 27: what was SENT, and what there is. */
public final class ReportTest {
    private static final int NONE = RelayHouse.NONE;
    private static final int[] OUTSIDE = {-1, Integer.MIN_VALUE, Integer.MAX_VALUE};

    public static void main(String[] args) {
        sent();
        octet();
        attribute();
        relayedMessage();
        allocation();
        permissionAndChannel();
        count();
        Checks.close();
    }

    private static void sent() {
        RelayHouse x = new RelayHouse();
        Checks.due("nothing: sent(7)", x.sent(7), NONE);
        x.message(1, 1, 2, 3);
        x.datagram(-3, 70);
        int[] due = {32, -3, 70, 3478, 1, 2, 1, NONE};
        for (int what = 0; what < due.length; what++) {
            Checks.due("sent(" + what + ")", x.sent(what), due[what]);
        }
        for (int what : OUTSIDE) {
            Checks.due("sent(" + what + ")", x.sent(what), NONE);
        }
        x.tick(5);
        x.user('a', 'a');
        x.message(9, 1, 2, 3);
        Checks.due("SENT stays", x.sent(0), 32);
        x.end(0);
        x.datagram(-3, 70);
        for (int what = 0; what <= 6; what++) {
            Checks.due("nothing: sent(" + what + ")", x.sent(what), 0);
        }
        Checks.due("nothing: sent(7)", x.sent(7), NONE);
    }

    private static void octet() {
        RelayHouse x = new RelayHouse();
        x.message(1, -1, 2, 3);
        x.datagram(1, 1);
        Checks.due("octet(0)", x.octet(0), 1);
        Checks.due("octet(8)", x.octet(8), 255);
        Checks.due("octet(31)", x.octet(31), 67);
        Checks.due("octet(32)", x.octet(32), NONE);
        for (int i : OUTSIDE) {
            Checks.due("octet(" + i + ")", x.octet(i), NONE);
        }
        x.datagram(1, 1);
        Checks.due("without SENT", x.octet(0), NONE);
    }

    private static void rows(RelayHouse x, int i, int... due) {
        for (int what = 0; what < due.length; what++) {
            Checks.due("attribute(" + i + ", " + what + ")", x.attribute(i, what), due[what]);
        }
        Checks.due("attribute(" + i + ", 7)", x.attribute(i, 7), NONE);
        Checks.due("attribute(" + i + ", -1)", x.attribute(i, -1), NONE);
    }

    private static void attribute() {
        Client c = Client.known();
        c.allocate(1);
        rows(c.x, 0, 22, 8, 24, 1 << 16 | 49152 ^ 8466, 49152, (int) 3232235777L, 0);
        rows(c.x, 1, 13, 4, 36, 600, 0, 0, 0);
        rows(c.x, 2, 32, 8, 44, 1 << 16 | c.port ^ 8466, c.port, c.ip, 0);
        Checks.due("INTEGRITY", c.x.attribute(3, 0), 28);
        Checks.due("no PORT", c.x.attribute(3, 4), 0);
        Checks.due("no IP", c.x.attribute(3, 5), 0);
        Checks.due("no ERROR", c.x.attribute(3, 6), 0);
        Checks.due("behind", c.x.attribute(4, 0), NONE);
        for (int i : OUTSIDE) {
            Checks.due("attribute(" + i + ", 0)", c.x.attribute(i, 0), NONE);
        }
        c.x.fresh(0x0001000000000000L);
        Checks.due("NONCE", c.refresh(0), 438);
        rows(c.x, 0, 9, 4, 24, 4 << 8 | 38, 0, 0, 438);
        rows(c.x, 1, 20, 1, 32, 'r', 0, 0, 0);
        rows(c.x, 2, 21, 8, 40, 1 << 16, 0, 0, 0);
        c.nonce = 0x0001000000000000L;
        c.permit(7);
        c.write(200, 201, 202);
        c.x.peer(49152, 7, 8);
        rows(c.x, 0, 18, 8, 24, 1 << 16 | 8 ^ 8466, 8, 7, 0);
        rows(c.x, 1, 19, 3, 36, 200 << 16 | 201 << 8 | 202, 0, 0, 0);
        c.x.peer(49152, 7, 8);
        rows(c.x, 1, 19, 0, 36, 0, 0, 0, 0);
        c.write(255, 255, 255, 255, 9);
        c.x.peer(49152, 7, 8);
        rows(c.x, 1, 19, 5, 36, -1, 0, 0, 0);
    }

    // What is relayed may be a MESSAGE itself.
    private static void relayedMessage() {
        Client c = Client.known();
        c.allocate(1);
        c.bind(16385, 55, 7000);
        c.write(64, 1, 0, 44, 1, 17, 0, 24, 33, 18, 164, 66, 0, 0, 0, 0, 0, 0, 0, 0, 0, 0, 0, 1,
                0, 9, 0, 4, 9, 9, 3, 7, 0, 32, 0, 8, 9, 2, 0, 0, 0, 0, 0, 0, 128, 40, 0, 0);
        Checks.due("relayed", c.x.datagram(c.ip, c.port), 1);
        Checks.due("bytes", c.x.sent(0), 44);
        Checks.due("METHOD", c.x.sent(4), 1);
        Checks.due("CLASS", c.x.sent(5), 3);
        Checks.due("ATTRIBUTES", c.x.sent(6), 3);
        Checks.due("its ERROR", c.x.attribute(0, 6), 307);
        Checks.due("no ADDRESS", c.x.attribute(1, 5), 0);
        Checks.due("is not counted as an ERROR", c.x.count(8), 0);
    }

    private static void allocation() {
        Client c = Client.known();
        c.x.user('b', 'b');
        Client d = new Client(c.x, -9, 65535).as("b", "b");
        c.allocate(1);
        d.allocate(1, 1000);
        d.permit(1, 2, 3);
        d.bind(16384, 4, 4);
        d.bind(16385, 4, 5);
        c.x.tick(10);
        int[] due = {-9, 65535, 1, 49153, 990, 4, 2, NONE};
        for (int what = 0; what < due.length; what++) {
            Checks.due("allocation(1, " + what + ")", c.x.allocation(1, what), due[what]);
        }
        for (int i : OUTSIDE) {
            Checks.due("allocation(" + i + ", 0)", c.x.allocation(i, 0), NONE);
            Checks.due("allocation(0, " + i + ")", c.x.allocation(0, i), NONE);
        }
        for (int k = 2; k <= 9; k++) {
            Checks.due("allocation(" + k + ", 2)", c.x.allocation(k, 2), NONE);
        }
        c.x.tick(590);
        Checks.due("over", c.x.allocation(0, 1), NONE);
        Checks.due("PERMISSIONS that are there", c.x.allocation(1, 5), 0);
        Checks.due("CHANNELS that are there", c.x.allocation(1, 6), 0);
    }

    private static void permissionAndChannel() {
        Client c = Client.known();
        c.allocate(1);
        c.bind(16384, 4, 4);
        c.x.tick(1);
        Checks.due("permission", c.x.permission(0, 4), 299);
        Checks.due("channel", c.x.channel(0, 16384), 599);
        Checks.due("another IP", c.x.permission(0, 0), 0);
        Checks.due("another number", c.x.channel(0, 0), 0);
        for (int k : new int[] {1, 7, 8, -1, Integer.MIN_VALUE, Integer.MAX_VALUE}) {
            Checks.due("permission of " + k, c.x.permission(k, 4), 0);
            Checks.due("channel of " + k, c.x.channel(k, 16384), 0);
        }
        c.x.tick(298);
        Checks.due("permission", c.x.permission(0, 4), 1);
        c.x.tick(1);
        Checks.due("permission", c.x.permission(0, 4), 0);
        Checks.due("channel", c.x.channel(0, 16384), 300);
    }

    private static void counts(String when, RelayHouse x, int... due) {
        for (int what = 0; what < due.length; what++) {
            Checks.due(when + ": count(" + what + ")", x.count(what), due[what]);
        }
    }

    private static void count() {
        Client c = Client.known();
        c.x.tick(7);
        c.allocate(1);
        counts("Allocate", c.x, 7, 1, 1, 0, 1, 0, 0, 0, 0, 0, NONE);
        c.allocate(2);
        counts("437", c.x, 7, 1, 1, 0, 2, 0, 0, 0, 1, 0);
        c.bind(16384, 4, 4);
        c.write(1, 2);
        counts("the TAPE", c.x, 7, 1, 1, 2, 3, 0, 0, 0, 1, 0);
        c.x.peer(49152, 4, 4);
        counts("CHANNEL DATA", c.x, 7, 1, 1, 0, 4, 0, 0, 1, 1, 0);
        c.x.peer(49152, 4, 5);
        counts("Data", c.x, 7, 1, 1, 0, 5, 1, 0, 2, 1, 0);
        c.x.peer(49152, 5, 5);
        counts("nothing", c.x, 7, 1, 1, 0, 5, 1, 0, 2, 1, 1);
        c.write(64, 0, 0, 0);
        c.x.datagram(c.ip, c.port);
        counts("to a peer", c.x, 7, 1, 1, 0, 6, 1, 1, 2, 1, 1);
        c.x.datagram(c.ip, c.port);
        counts("nothing", c.x, 7, 1, 1, 0, 6, 1, 1, 2, 1, 2);
        c.x.datagram(c.ip, 0);
        c.x.peer(49152, 4, 0);
        counts("refused", c.x, 7, 1, 1, 0, 6, 1, 1, 2, 1, 2);
        c.x.tick(600);
        counts("over", c.x, 607, 1, 0, 0, 6, 1, 1, 2, 1, 2);
        for (int what : OUTSIDE) {
            Checks.due("count(" + what + ")", c.x.count(what), NONE);
        }
    }
}
