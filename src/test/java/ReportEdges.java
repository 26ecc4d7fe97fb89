import java.util.Arrays;

/** The boundary cases of promises 21 to 27: what was SENT, what there is. */
final class ReportEdges {
    private static final int NONE = Edges.NONE;
    private static final int LEAST = Edges.LEAST;
    private static final int MOST = Edges.MOST;

    private ReportEdges() {
    }

    static void run() {
        sentAtAll();
        sentNothing();
        octet();
        attributeAtAll();
        attributeOfOthers();
        allocationAtAll();
        allocationNone();
        permission();
        channel();
        countAtAll();
        countOfOthers();
    }

    private static void relay(Client c, int... bytes) {
        c.write(64, 0, bytes.length >> 8, bytes.length & 255);
        Client.append(c.x, bytes);
        Edges.due("relayed", c.x.datagram(c.ip, c.port), 1);
    }

    // ---- promise 21

    private static void sentAtAll() {
        Edges.promise(21, "Of SENT (what the latest datagram() or peer() sent) what 0 how many bytes, 1 the IP to "
                + "which (as an int), 2 the PORT to which, 3 the PORT from which, 4 its METHOD, 5 its CLASS (4, 5 "
                + "NONE of what is no MESSAGE), 6 how many ATTRIBUTES.");
        for (int ip : new int[] {0, -1, LEAST, MOST}) {
            RelayHouse x = new RelayHouse();
            x.message(1, 1, 2, 3);
            x.datagram(ip, 65535);
            row(x, 32, ip, 65535, 3478, 1, 2, 1);
        }
        Client c = DatagramEdges.bound(16384);
        relay(c);
        row(c.x, 0, 55, 7000, 49152, NONE, NONE, 0);
        relay(c, new int[19]);
        row(c.x, 19, 55, 7000, 49152, NONE, NONE, 0);
        relay(c, 63, 255, 0, 0, 33, 18, 164, 66, 0, 0, 0, 0, 0, 0, 0, 0, 0, 0, 0, 0);
        row(c.x, 20, 55, 7000, 49152, 4095, 3, 0);
        relay(c, 64, 0, 0, 0, 33, 18, 164, 66, 0, 0, 0, 0, 0, 0, 0, 0, 0, 0, 0, 0);
        row(c.x, 20, 55, 7000, 49152, NONE, NONE, 0);
        relay(c, 0, 0, 0, 0, 33, 18, 164, 66, 0, 0, 0, 0, 0, 0, 0, 0, 0, 0, 0, 0);
        row(c.x, 20, 55, 7000, 49152, 0, 0, 0);
        relay(c, 0, 0, 0, 1, 33, 18, 164, 66, 0, 0, 0, 0, 0, 0, 0, 0, 0, 0, 0, 0);
        row(c.x, 20, 55, 7000, 49152, NONE, NONE, 0);
        relay(c, 0, 1, 0, 12, 33, 18, 164, 66, 0, 0, 0, 0, 0, 0, 0, 0, 0, 0, 0, 0, 0, 9, 0, 0, 0, 9, 0, 5, 1, 2, 3, 4);
        row(c.x, 32, 55, 7000, 49152, NONE, NONE, 0);
        Edges.due("nor the whole one ahead of what isn't", c.x.attribute(0, 0), NONE);
        relay(c, 0, 1, 0, 12, 33, 18, 164, 66, 0, 0, 0, 0, 0, 0, 0, 0, 0, 0, 0, 0, 0, 9, 0, 0, 0, 9, 0, 4, 1, 2, 3, 4);
        row(c.x, 32, 55, 7000, 49152, 1, 0, 2);
        c.x.end(0);
        c.x.peer(49152, 55, 7000);
        row(c.x, 4, c.ip, c.port, 3478, NONE, NONE, 0);
        c.x.peer(49152, 55, 1);
        row(c.x, 36, c.ip, c.port, 3478, 7, 1, 2);
        c.open(1, 1);
        c.x.datagram(c.ip, 0);
        row(c.x, 36, c.ip, c.port, 3478, 7, 1, 2);
    }

    private static void row(RelayHouse x, int... due) {
        for (int what = 0; what < due.length; what++) {
            Edges.due("sent(" + what + ")", x.sent(what), due[what]);
        }
    }

    private static void sentNothing() {
        Edges.promise(21, "0 for all without SENT; NONE for another what.");
        RelayHouse x = new RelayHouse();
        row(x, 0, 0, 0, 0, 0, 0, 0, NONE);
        row(Edges.busy(), 40, Client.IP, Client.PORT, 3478, 7, 1, 2, NONE);
        RelayHouse y = Edges.busy();
        y.end(0);
        y.datagram(1, 1);
        row(y, 0, 0, 0, 0, 0, 0, 0, NONE);
        RelayHouse z = Edges.busy();
        z.peer(1, 1, 1);
        row(z, 0, 0, 0, 0, 0, 0, 0, NONE);
        for (int what : new int[] {-1, 7, 8, LEAST, MOST}) {
            Edges.due("nothing SENT: sent(" + what + ")", x.sent(what), NONE);
            Edges.refused("sent(" + what + ")", h -> h.sent(what));
        }
    }

    // ---- promise 22

    private static void octet() {
        Edges.promise(22, "Byte i of SENT; NONE.");
        RelayHouse x = new RelayHouse();
        Edges.due("nothing SENT", x.octet(0), NONE);
        x.message(1, 0x007f80ff, 2, 3);
        x.datagram(1, 1);
        int[] due = {0, 127, 128, 255};
        for (int i = 0; i < due.length; i++) {
            Edges.due("octet(" + (8 + i) + ")", x.octet(8 + i), due[i]);
        }
        Edges.due("the first", x.octet(0), 1);
        Edges.due("the last", x.octet(31), 66 ^ 1);
        for (int i : new int[] {-1, 32, 33, 435, 436, LEAST, MOST}) {
            Edges.due("octet(" + i + ")", x.octet(i), NONE);
        }
        Client c = DatagramEdges.bound(16384);
        relay(c, 250);
        Edges.due("of one byte", c.x.octet(0), 250);
        Edges.due("none behind", c.x.octet(1), NONE);
        relay(c);
        Edges.due("of none", c.x.octet(0), NONE);
        Edges.fill(c.x, 400);
        c.x.peer(49152, 55, 1);
        Edges.due("the last of 436", c.x.octet(435), 128);
        Edges.due("none behind", c.x.octet(436), NONE);
    }

    // ---- promise 23

    private static void attributes(RelayHouse x, int i, int... due) {
        for (int what = 0; what < due.length; what++) {
            Edges.due("attribute(" + i + ", " + what + ")", x.attribute(i, what), due[what]);
        }
    }

    private static void attributeAtAll() {
        Edges.promise(23, "Of ATTRIBUTE i of SENT what 0 its kind, 1 its size, 2 where its bytes begin, 3 the number "
                + "of its first four bytes (fewer, if it has fewer), 4 the PORT, 5 the IP of an ADDRESS, 6 an "
                + "ERROR's number.");
        Client c = Client.known();
        c.allocate(1);
        c.permit(-1);
        int[] numbers = {0, 0xff, 0xfffe, 0xfffefd, 0xfffefdfc, 0xfffefdfc};
        for (int n = 0; n <= 5; n++) {
            c.write(Arrays.copyOf(new int[] {255, 254, 253, 252, 251}, n));
            c.x.peer(49152, -1, 65535);
            attributes(c.x, 0, 18, 8, 24, 1 << 16 | 65535 ^ 8466, 65535, -1, 0);
            attributes(c.x, 1, 19, n, 36, numbers[n], 0, 0, 0);
        }
        RelayHouse x = new RelayHouse();
        x.message(1, 1, 2, 3);
        x.datagram(0, 8466);
        attributes(x, 0, 32, 8, 24, 1 << 16, 8466, 0, 0);
        c.x.fresh(-1);
        c.refresh(0);
        attributes(c.x, 0, 9, 4, 24, 4 << 8 | 38, 0, 0, 438);
        attributes(c.x, 1, 20, 1, 32, 'r', 0, 0, 0);
        attributes(c.x, 2, 21, 8, 40, -1, 0, 0, 0);
        Client d = DatagramEdges.bound(16384);
        int[] head = {0, 1, 0, 88, 33, 18, 164, 66, 0, 0, 0, 0, 0, 0, 0, 0, 0, 0, 0, 0};
        int[] all = Arrays.copyOf(head, 108);
        for (int i = 0; i < 22; i++) {
            all[20 + 4 * i] = 255;
            all[21 + 4 * i] = 255 - i;
        }
        relay(d, all);
        Edges.due("ATTRIBUTES", d.x.sent(6), 22);
        attributes(d.x, 0, 65535, 0, 24, 0, 0, 0, 0);
        attributes(d.x, 21, 65514, 0, 108, 0, 0, 0, 0);
        attributes(d.x, 22, NONE, NONE, NONE, NONE, NONE, NONE, NONE);
    }

    private static void attributeOfOthers() {
        Edges.promise(23, "NONE without it, or for another what; 0 for 4 to 6 of others.");
        for (int what = -1; what <= 7; what++) {
            int one = what;
            Edges.refused("behind the last: attribute(2, " + what + ")", x -> x.attribute(2, one));
            Edges.refused("attribute(-1, " + what + ")", x -> x.attribute(-1, one));
            Edges.refused("attribute(least, " + what + ")", x -> x.attribute(LEAST, one));
            Edges.refused("attribute(most, " + what + ")", x -> x.attribute(MOST, one));
            Edges.due("nothing SENT: attribute(0, " + what + ")", new RelayHouse().attribute(0, what), NONE);
        }
        for (int what : new int[] {-1, 7, LEAST, MOST}) {
            Edges.refused("attribute(0, " + what + ")", x -> x.attribute(0, what));
            Edges.refused("attribute(1, " + what + ")", x -> x.attribute(1, what));
        }
        Client c = DatagramEdges.bound(16384);
        c.x.end(0);
        c.x.peer(49152, 55, 7000);
        Edges.due("of CHANNEL DATA", c.x.attribute(0, 0), NONE);
        relay(c, 0, 1, 0, 56, 33, 18, 164, 66, 0, 0, 0, 0, 0, 0, 0, 0, 0, 0, 0, 0,
                0, 18, 0, 8, 0, 2, 1, 1, 1, 1, 1, 1, 0, 18, 0, 4, 0, 1, 1, 1, 0, 9, 0, 8, 0, 0, 4, 1, 0, 0, 0, 0,
                0, 20, 0, 8, 0, 1, 4, 1, 1, 1, 1, 1, 0, 19, 0, 8, 0, 1, 4, 1, 1, 1, 1, 1);
        Edges.due("ATTRIBUTES", c.x.sent(6), 5);
        for (int i = 0; i < 5; i++) {
            for (int what = 4; what <= 6; what++) {
                Edges.due("no ADDRESS, no ERROR: attribute(" + i + ", " + what + ")", c.x.attribute(i, what), 0);
            }
        }
        relay(c, 1, 17, 0, 16, 33, 18, 164, 66, 0, 0, 0, 0, 0, 0, 0, 0, 0, 0, 0, 0,
                0, 9, 0, 4, 0, 0, 0, 0, 0, 9, 0, 4, 9, 9, 6, 99);
        Edges.due("ERROR 0", c.x.attribute(0, 6), 0);
        Edges.due("ERROR 699", c.x.attribute(1, 6), 699);
    }

    // ---- promise 24

    private static void allocationAtAll() {
        Edges.promise(24, "Of ALLOCATION k what 0 its client's IP, 1 PORT, 2 the USER's number, 3 its PORT, 4 "
                + "seconds left, 5 PERMISSIONS, 6 CHANNELS that are there.");
        RelayHouse x = new RelayHouse();
        for (int n = 0; n < 8; n++) {
            x.user('a' + n, 'p');
        }
        for (int k = 0; k < 8; k++) {
            int ip = k == 0 ? 0 : k == 1 ? -1 : k == 2 ? LEAST : MOST;
            Client c = new Client(x, ip, k == 0 ? 65535 : k).as("" + (char) ('h' - k), "p");
            c.allocate(1, 3600 - k);
            int[] due = {ip, c.port, 7 - k, 49152 + k, 3600 - k, 0, 0};
            for (int what = 0; what <= 6; what++) {
                Edges.due("allocation(" + k + ", " + what + ")", x.allocation(k, what), due[what]);
            }
        }
        Edges.due("PERMISSIONS at first, at most", permissions(0) + permissions(1) + permissions(16), 17);
        Client c = DatagramEdges.bound(16384);
        Edges.due("CHANNELS", c.x.allocation(0, 6), 1);
        c.x.tick(299);
        Edges.due("PERMISSIONS, a second ahead", c.x.allocation(0, 5), 1);
        c.x.tick(1);
        Edges.due("PERMISSIONS that are there", c.x.allocation(0, 5), 0);
        c.x.tick(299);
        Edges.due("CHANNELS, a second ahead", c.x.allocation(0, 6), 1);
        c.x.tick(1);
        Edges.due("CHANNELS that are there", c.x.allocation(0, 6), 0);
        c.x.tick(2999);
        Edges.due("its last second", c.x.allocation(0, 4), 1);
    }

    private static int permissions(int n) {
        Client c = Client.known();
        c.allocate(1);
        int[] ips = new int[n];
        Arrays.setAll(ips, i -> i);
        c.permit(ips);
        return c.x.allocation(0, 5);
    }

    private static void allocationNone() {
        Edges.promise(24, "NONE without it, or for another what.");
        for (int k : new int[] {-1, 2, 7, 8, 9, LEAST, MOST}) {
            for (int what = -1; what <= 7; what++) {
                Edges.due("allocation(" + k + ", " + what + ")", Edges.busy().allocation(k, what), NONE);
            }
        }
        for (int what : new int[] {-1, 7, 8, LEAST, MOST}) {
            Edges.refused("allocation(0, " + what + ")", x -> x.allocation(0, what));
            Edges.refused("allocation(7, " + what + ")", x -> x.allocation(7, what));
        }
        RelayHouse x = Edges.busy();
        x.tick(949);
        Edges.due("its last second", x.allocation(0, 4), 1);
        x.tick(1);
        for (int what = 0; what <= 6; what++) {
            Edges.due("over: allocation(0, " + what + ")", x.allocation(0, what), NONE);
        }
    }

    // ---- promises 25 and 26

    private static void permission() {
        Edges.promise(25, "Seconds left of ALLOCATION k's PERMISSION for an IP; 0 without.");
        for (int ip : new int[] {0, -1, LEAST, MOST}) {
            Client c = Client.known();
            c.allocate(1);
            Edges.due("none yet", c.x.permission(0, ip), 0);
            c.permit(ip);
            Edges.due("for " + ip, c.x.permission(0, ip), 300);
            Edges.due("the IP above", c.x.permission(0, ip + 1), 0);
            Edges.due("the IP below", c.x.permission(0, ip - 1), 0);
            for (int k : new int[] {-1, 1, 7, 8, LEAST, MOST}) {
                Edges.due("of " + k, c.x.permission(k, ip), 0);
            }
            c.x.tick(299);
            Edges.due("the last second", c.x.permission(0, ip), 1);
            c.x.tick(1);
            Edges.due("over", c.x.permission(0, ip), 0);
            c.permit(ip);
            c.refresh(0);
            Edges.due("of one that is over", c.x.permission(0, ip), 0);
        }
    }

    private static void channel() {
        Edges.promise(26, "Seconds left of ALLOCATION k's CHANNEL of that number; 0 without.");
        for (int number : new int[] {16384, 20479}) {
            Client c = Client.known();
            c.allocate(1, 1000);
            Edges.due("none yet", c.x.channel(0, number), 0);
            c.bind(number, 5, 5);
            Edges.due("of " + number, c.x.channel(0, number), 600);
            for (int other : new int[] {number - 1, number + 1, 0, -1, number + 65536, LEAST, MOST}) {
                Edges.due("of " + other, c.x.channel(0, other), 0);
            }
            for (int k : new int[] {-1, 1, 7, 8, LEAST, MOST}) {
                Edges.due("of " + k, c.x.channel(k, number), 0);
            }
            c.x.tick(599);
            Edges.due("the last second", c.x.channel(0, number), 1);
            c.x.tick(1);
            Edges.due("over", c.x.channel(0, number), 0);
            c.bind(number, 5, 5);
            c.refresh(0);
            Edges.due("of one that is over", c.x.channel(0, number), 0);
        }
    }

    // ---- promise 27

    private static void counts(RelayHouse x, int... due) {
        for (int what = 0; what < due.length; what++) {
            Edges.due("count(" + what + ")", x.count(what), due[what]);
        }
    }

    private static void countAtAll() {
        Edges.promise(27, "0 TIME (its lower 31 bits), 1 USERS, 2 ALLOCATIONS that are there, 3 bytes of the TAPE, 4 "
                + "DATAGRAMS sent, 5 Data indications among them, 6 those relayed to peers, 7 those from peers to "
                + "clients, 8 ERRORS sent, 9 datagram()s and peer()s by which nothing was SENT.");
        RelayHouse x = new RelayHouse();
        counts(x, 0, 0, 0, 0, 0, 0, 0, 0, 0, 0, NONE);
        Client c = DatagramEdges.bound(16384);
        counts(c.x, 0, 1, 1, 0, 2, 0, 0, 0, 0, 0, NONE);
        c.permit();
        c.x.peer(49152, 55, 7000);
        c.x.peer(49152, 55, 1);
        relay(c);
        c.x.peer(49152, 1, 1);
        c.x.datagram(1, 1);
        counts(c.x, 0, 1, 1, 0, 6, 1, 1, 2, 1, 2, NONE);
        c.x.peer(49152, 55, 0);
        c.x.datagram(1, 0);
        c.open(1, 1).number(4660, 0, 0);
        counts(c.x, 0, 1, 1, 24, 6, 1, 1, 2, 1, 2, NONE);
        c.go();
        // What is relayed is no ERROR of the server's, even if it looks like one.
        relay(c, 1, 17, 0, 0, 33, 18, 164, 66, 0, 0, 0, 0, 0, 0, 0, 0, 0, 0, 0, 0);
        c.x.tick(3599);
        counts(c.x, 3599, 1, 1, 0, 8, 1, 2, 2, 2, 2, NONE);
        c.x.tick(1);
        counts(c.x, 3600, 1, 0, 0, 8, 1, 2, 2, 2, 2, NONE);
    }

    private static void countOfOthers() {
        Edges.promise(27, "NONE for others.");
        for (int what : new int[] {-1, 10, 11, LEAST, MOST}) {
            Edges.refused("count(" + what + ")", x -> x.count(what));
            Edges.due("count(" + what + ") of a new one", new RelayHouse().count(what), NONE);
        }
    }
}
