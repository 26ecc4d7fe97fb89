import java.util.Arrays;

/** The boundary cases of promises 19 and 20: what is brought to peers and from them. */
final class RelayEdges {
    private static final int NONE = Edges.NONE;
    private static final int LEAST = Edges.LEAST;
    private static final int MOST = Edges.MOST;

    private RelayEdges() {
    }

    static void run() {
        channelData();
        send();
        steps();
        fromPeers();
        peerPortRefused();
        fromPeersOrNot();
        noBytesMore();
        fullTape();
        idsOfIndications();
        mostCalls();
    }

    // ---- to peers

    private static int channelData(Client c, int number) {
        c.write(number >> 8, number & 255, 0, 2, 8, 9);
        return c.x.datagram(c.ip, c.port);
    }

    private static void channelData() {
        Edges.term(19, "CHANNEL DATA: if the client has an ALLOCATION with that CHANNEL, and a PERMISSION for its "
                + "peer: so many bytes are sent to the peer, from the ALLOCATION's PORT; else nothing.");
        Edges.idle("with all", x -> channelData(Edges.guest(x), 16384), 1);
        Edges.idle("without ALLOCATION", x -> channelData(new Client(x, Client.IP, Client.PORT + 1), 16384), 0);
        Edges.idle("without that CHANNEL", x -> channelData(Edges.guest(x), 16385), 0);
        Edges.idle("another's CHANNEL", x -> channelData(Edges.other(x), 16384), 0);
        Client c = DatagramEdges.bound(16384);
        c.x.tick(299);
        Edges.due("a second ahead of its PERMISSION's end", channelData(c, 16384), 1);
        Edges.sent("its bytes", c.x, 8, 9);
        Edges.due("to IP", c.x.sent(1), 55);
        Edges.due("to PORT", c.x.sent(2), 7000);
        Edges.due("from PORT", c.x.sent(3), 49152);
        c.x.tick(1);
        Edges.due("without PERMISSION", channelData(c, 16384), 0);
        c.permit(55);
        Edges.due("with PERMISSION again", channelData(c, 16384), 1);
        c.x.tick(299);
        Edges.due("a second ahead of its end", channelData(c, 16384), 1);
        c.x.tick(1);
        c.permit(55);
        Edges.due("when it is over", channelData(c, 16384), 0);
        c.bind(16384, 55, 7000);
        c.write(64, 0, 0, 0);
        Edges.due("no bytes", c.x.datagram(c.ip, c.port), 1);
        Edges.due("bytes SENT", c.x.sent(0), 0);
        Edges.due("to PORT", c.x.sent(2), 7000);
        for (int k = 1; k <= 7; k++) {
            c.x.part(8);
            c.at(k).allocate(1);
        }
        c.at(7).bind(16384, 5, 5);
        Edges.due("of the last ALLOCATION", channelData(c.at(7), 16384), 1);
        Edges.due("from PORT", c.x.sent(3), 49159);
    }

    private static int send(Client c, int ip, int port) {
        c.x.message(Client.SEND | 16, 1, 2, 3);
        c.peer(ip, port).number(19, 2, 0x0809);
        return c.x.datagram(c.ip, c.port);
    }

    private static void send() {
        Edges.term(19, "A Send: the DATA is sent to the PEER from the ALLOCATION's PORT.");
        for (int ip : new int[] {0, -1, LEAST, MOST}) {
            for (int port : new int[] {0, 1, 65535}) {
                Client c = Client.known();
                c.allocate(1);
                c.permit(ip);
                Edges.due("a Send", send(c, ip, port), 1);
                Edges.sent("its DATA", c.x, 8, 9);
                Edges.due("to IP", c.x.sent(1), ip);
                Edges.due("to PORT", c.x.sent(2), port);
                Edges.due("from PORT", c.x.sent(3), 49152);
                Edges.due("an IP next to it", send(c, ip + 1, port), 0);
            }
        }
        Client c = Client.known();
        c.allocate(1);
        c.permit(5);
        c.x.tick(299);
        Edges.due("a second ahead of the PERMISSION's end", send(c, 5, 5), 1);
        c.x.tick(1);
        Edges.due("without PERMISSION", send(c, 5, 5), 0);
        c.permit(5);
        c.x.tick(299);
        Edges.due("a second ahead of the ALLOCATION's end", send(c, 5, 5), 1);
        c.x.tick(1);
        Edges.due("without ALLOCATION", send(c, 5, 5), 0);
        Client d = Client.known();
        d.allocate(1);
        d.permit(5);
        d.x.forbid(5, 32);
        Edges.due("FORBIDDEN when it has its PERMISSION", send(d, 5, 5), 1);
    }

    private static void steps() {
        Edges.term(19, "What is refused (NONE) changes nothing; each step (datagram(), peer()) uses up the TAPE, and "
                + "SENT is what it sent.");
        for (int n : new int[] {0, 1, 20, 400}) {
            RelayHouse x = Edges.withTape(n);
            Edges.due("datagram of " + n, x.datagram(1, 1), 0);
            Edges.due("the TAPE is used up", x.count(3), 0);
            Edges.due("none of it is left", x.tape(0), NONE);
            Edges.due("what was SENT before is gone", x.sent(0), 0);
            RelayHouse y = Edges.withTape(n);
            Edges.due("peer of " + n, y.peer(49152, 77, 1), 0);
            Edges.due("the TAPE is used up", y.count(3), 0);
            Edges.due("what was SENT before is gone", y.sent(0), 0);
            Edges.due("nor is there an ATTRIBUTE", y.attribute(0, 0), NONE);
            RelayHouse z = Edges.withTape(n);
            Edges.due("peer of " + n, z.peer(49152, 1, 1), 1);
            Edges.due("the TAPE is used up", z.count(3), 0);
            Edges.due("it is SENT", z.attribute(1, 1), n);
        }
    }

    // ---- promise 20

    private static void fromPeers() {
        Edges.promise(20, "The TAPE comes from a peer to a relayed PORT: likewise.");
        for (int port : new int[] {1, 2, 65534, 65535}) {
            RelayHouse x = Edges.busy();
            Edges.due("from PORT " + port, x.peer(49152, 1, port), 1);
            Edges.due("the TAPE is used up", x.count(3), 0);
            Edges.due("PEER's PORT", x.attribute(0, 4), port);
            RelayHouse y = Edges.busy();
            Edges.due("without PERMISSION, from PORT " + port, y.peer(49152, 77, port), 0);
            Edges.due("the TAPE is used up", y.count(3), 0);
        }
        for (int relayed : new int[] {0, -1, 1, 3478, 49151, 49154, 65535, 65536, 49152 + 65536, LEAST, MOST}) {
            RelayHouse x = Edges.busy();
            int before = x.count(9);
            Edges.due("to PORT " + relayed + ", which none has", x.peer(relayed, 1, 1), 0);
            Edges.due("the TAPE is used up", x.count(3), 0);
            Edges.due("counted", x.count(9), before + 1);
        }
    }

    private static void peerPortRefused() {
        Edges.term(20, "What is refused (NONE) changes nothing;");
        for (int port : new int[] {0, -1, 65536, LEAST, MOST}) {
            Edges.refused("from PORT " + port, x -> x.peer(49152, 1, port));
            Edges.refused("from PORT " + port + " to one that none has", x -> x.peer(1, 1, port));
        }
    }

    private static void fromPeersOrNot() {
        Edges.term(20, "A DATAGRAM from a peer to a PORT: if an ALLOCATION has it, and there is a PERMISSION for the "
                + "IP: to its client, from the SERVER's PORT: CHANNEL DATA, if that peer's IP and PORT have a "
                + "CHANNEL (no bytes more); else a Data indication (METHOD 7): PEER, DATA;");
        Client c = DatagramEdges.bound(20479);
        Edges.due("that IP and PORT", c.x.peer(49152, 55, 7000), 1);
        Edges.sent("CHANNEL DATA", c.x, 79, 255, 0, 0);
        Edges.due("that IP, the PORT below", c.x.peer(49152, 55, 6999), 1);
        Edges.due("Data", c.x.sent(4) << 4 | c.x.sent(5), 7 << 4 | 1);
        Edges.due("that IP, the PORT above", c.x.peer(49152, 55, 7001), 1);
        Edges.due("Data", c.x.sent(4), 7);
        Edges.due("the IP below", c.x.peer(49152, 54, 7000), 0);
        Edges.due("the IP above", c.x.peer(49152, 56, 7000), 0);
        c.permit(54);
        Edges.due("another IP of that PORT", c.x.peer(49152, 54, 7000), 1);
        Edges.due("Data", c.x.sent(4), 7);
        Edges.due("the PORT above", c.x.peer(49153, 55, 7000), 0);
        Edges.due("the PORT below", c.x.peer(49151, 55, 7000), 0);
        c.x.tick(299);
        Edges.due("a second ahead of the PERMISSION's end", c.x.peer(49152, 55, 7000), 1);
        c.x.tick(1);
        Edges.due("without PERMISSION", c.x.peer(49152, 55, 7000), 0);
        c.permit(55);
        c.x.tick(299);
        Edges.due("a second ahead of the CHANNEL's end", c.x.peer(49152, 55, 7000), 1);
        Edges.due("CHANNEL DATA", c.x.sent(0), 4);
        c.x.tick(1);
        c.permit(55);
        Edges.due("when the CHANNEL is over", c.x.peer(49152, 55, 7000), 1);
        Edges.due("Data", c.x.sent(4), 7);
        Edges.due("to IP", c.x.sent(1), c.ip);
        Edges.due("to PORT", c.x.sent(2), c.port);
        Edges.due("from PORT", c.x.sent(3), 3478);
    }

    private static void noBytesMore() {
        Edges.term(20, "CHANNEL DATA, if that peer's IP and PORT have a CHANNEL (no bytes more);");
        for (int n : new int[] {0, 1, 2, 3, 4, 5, 255, 256, 399, 400}) {
            Client c = DatagramEdges.bound(16384);
            Edges.fill(c.x, n);
            int last = c.x.tape(n - 1);
            c.x.peer(49152, 55, 7000);
            Edges.due("CHANNEL DATA of " + n, c.x.sent(0), 4 + n);
            Edges.due("its size", c.x.octet(2) << 8 | c.x.octet(3), n);
            Edges.due("its last byte", c.x.octet(3 + n), n == 0 ? 0 : last);
            Edges.due("none behind", c.x.octet(4 + n), NONE);
            Edges.fill(c.x, n);
            c.x.peer(49152, 55, 7001);
            Edges.due("Data of " + n, c.x.sent(0), 36 + (n + 3) / 4 * 4);
            Edges.due("LENGTH", c.x.octet(2) << 8 | c.x.octet(3), 16 + (n + 3) / 4 * 4);
            Edges.due("DATA's size", c.x.attribute(1, 1), n);
            for (int i = n; i % 4 != 0; i++) {
                Edges.due("byte " + i + " up to a multiple of four", c.x.octet(36 + i), 0);
            }
        }
    }

    private static void fullTape() {
        Edges.term(20, "DATAGRAMS have at most 400 bytes when they come;");
        Client c = DatagramEdges.bound(16384);
        int[] full = new int[400];
        Arrays.setAll(full, i -> i * 7 + 1 & 255);
        c.write(full);
        c.x.peer(49152, 55, 7001);
        Edges.due("Data of 400", c.x.sent(0), 436);
        Edges.due("METHOD", c.x.sent(4), 7);
        Edges.due("ATTRIBUTES", c.x.sent(6), 2);
        Edges.due("DATA's size", c.x.attribute(1, 1), 400);
        Edges.due("where it begins", c.x.attribute(1, 2), 36);
        for (int i = 0; i < 400; i += 3) {
            Edges.due("byte " + i, c.x.octet(36 + i), full[i]);
        }
        Edges.due("none behind", c.x.octet(436), NONE);
    }

    // ---- numbers that grow

    private static void idsOfIndications() {
        Edges.term(20, "its ID is as a number how many such were sent ahead. Else nothing.");
        Client c = Client.known();
        c.open(Client.ALLOCATE, 1).number(25, 4, Client.UDP).credentials().sign().x.datagram(c.ip, c.port);
        c.open(Client.BIND, 1).number(12, 4, 16384 << 16).peer(55, 7000).credentials().sign().x.datagram(c.ip, c.port);
        for (int n = 0; n <= 257; n++) {
            c.x.peer(49152, 55, 1);
            if (n <= 1 || n >= 254) {
                Edges.due("number " + n, c.x.octet(18) << 8 | c.x.octet(19), n);
                for (int i = 8; i < 18; i++) {
                    Edges.due("its upper bytes", c.x.octet(i), 0);
                }
            }
        }
        c.x.peer(49152, 55, 7000);
        c.x.peer(49152, 56, 1);
        c.x.peer(49152, 55, 0);
        c.x.peer(49152, 55, 1);
        Edges.due("CHANNEL DATA, nothing, a refused one don't count", c.x.octet(18) << 8 | c.x.octet(19), 258);
        Edges.due("Data indications", c.x.count(5), 259);
    }

    private static void mostCalls() {
        Edges.term(20, "An object is used for at most 512 calls after it has been made; what later calls answer is free.");
        RelayHouse x = new RelayHouse();
        for (int i = 1; i <= 511; i++) {
            Edges.due("tick " + i, x.tick(10000), 0);
        }
        Edges.due("call 512: TIME", x.count(0), 5110000);
        RelayHouse y = new RelayHouse();
        for (int i = 1; i <= 511; i++) {
            Edges.due("empty datagram " + i, y.datagram(1, 1), 0);
        }
        Edges.due("call 512: those by which nothing was SENT", y.count(9), 511);
        RelayHouse z = new RelayHouse();
        for (int i = 1; i <= 255; i++) {
            z.message(1, i, i, i);
            Edges.due("Binding " + i, z.datagram(i, i), 1);
        }
        Edges.due("call 511: those sent", z.count(4), 255);
        Edges.due("call 512: the last of them", z.octet(19), 255);
    }
}
