import java.util.Arrays;

/** The boundary cases of promise 19 in the terms' part I: what a datagram is, and what of it counts. */
final class DatagramEdges {
    private static final int NONE = Edges.NONE;
    private static final int SEND = Client.SEND | 16;
    private static final int[] KNOWN = {6, 9, 10, 12, 13, 18, 19, 20, 21, 22, 25, 28, 32};

    private DatagramEdges() {
    }

    static void run() {
        mostBytes();
        whichItIs();
        upperBits();
        length();
        cookie();
        padding();
        methodsAndClasses();
        channelNumbers();
        channelSizes();
        addresses();
        otherAddresses();
        wordSizes();
        otherSizes();
        sizesWithoutUse();
        dataOfAnySize();
        whatIsNotLookedAt();
        integritySize();
        integrityLength();
        fingerprintSize();
        fingerprintBits();
        behindIntegrity();
        severalOfAKind();
        strange();
    }

    // ---- the MESSAGE

    private static void mostBytes() {
        Edges.term(19, "DATAGRAMS have at most 400 bytes when they come; numbers in them have the highest byte first.");
        for (int n : new int[] {20, 24, 276, 280, 396, 400}) {
            RelayHouse x = new RelayHouse();
            x.message(1, 1, 2, 3);
            for (int i = 24; i <= n; i += 4) {
                x.number(40000, 0, 0);
            }
            Edges.due("a MESSAGE of " + n, x.datagram(1, 1), 1);
        }
        Client c = Client.known();
        c.open(Client.ALLOCATE, 1).number(25, 4, Client.UDP).credentials();
        while (c.x.count(3) < 364) {
            c.number(40000, 0, 0);
        }
        Edges.due("a signed MESSAGE of 400", c.sign().go(), 0);
        Edges.holds("its answer is signed", c.isSealed(3));
    }

    private static void whichItIs() {
        Edges.term(19, "A DATAGRAM from a client: the first of these that it is:");
        Client c = bound(16384);
        c.write(64, 0, 0, 16, 33, 18, 164, 66, 0, 0, 0, 0, 0, 0, 0, 0, 0, 0, 0, 0);
        Edges.due("CHANNEL DATA that goes on as a MESSAGE would", c.x.datagram(c.ip, c.port), 1);
        Edges.due("to the peer", c.x.sent(1), 55);
        Edges.due("bytes", c.x.sent(0), 16);
        c.write(63, 255, 0, 0, 33, 18, 164, 66, 0, 0, 0, 0, 0, 0, 0, 0, 0, 0, 0, 0);
        Edges.due("a MESSAGE of the highest TYPE, an error", c.x.datagram(c.ip, c.port), 0);
        c.write(62, 239, 0, 0, 33, 18, 164, 66, 0, 0, 0, 0, 0, 0, 0, 0, 0, 0, 0, 0);
        Edges.due("a request of the highest TYPE", c.x.datagram(c.ip, c.port), 1);
        Edges.due("is answered", c.x.sent(1), c.ip);
    }

    /** A Binding request with an ATTRIBUTE of 3 bytes and one of none, altered at one byte. */
    private static int altered(int at, int mask) {
        RelayHouse x = new RelayHouse();
        x.message(1, 1, 2, 3);
        x.number(19, 3, 0);
        x.number(40000, 0, 0);
        x.alter(at, mask);
        return x.datagram(1, 1);
    }

    private static void upperBits() {
        Edges.term(19, "A MESSAGE: TYPE (2 bytes, the upper two bits 0)");
        Edges.due("the upper bit 1", altered(0, 128), 0);
        Edges.due("the second bit 1", altered(0, 64), 0);
        Edges.due("both", altered(0, 192), 0);
        Edges.due("the third bit 1", altered(0, 32), 1);
    }

    /** A Binding request of so many bytes that says another LENGTH. */
    private static int shaped(int length, int... behind) {
        RelayHouse x = new RelayHouse();
        int[] head = {0, 1, length >> 8, length & 255, 33, 18, 164, 66, 0, 0, 0, 0, 0, 0, 0, 0, 0, 0, 0, 0};
        Client.write(x, head);
        Client.append(x, behind);
        return x.datagram(1, 1);
    }

    private static void length() {
        Edges.term(19, "LENGTH is what stands behind the first 20 bytes, all of it whole ATTRIBUTES.");
        for (int n = 0; n < 20; n++) {
            RelayHouse x = new RelayHouse();
            x.message(1, 1, 2, 3);
            x.end(n);
            Edges.due("the first " + n + " of 20", x.datagram(1, 1), 0);
        }
        Edges.due("20 and LENGTH 0", shaped(0), 1);
        for (int length : new int[] {1, 4, 256, 65532, 65535}) {
            Edges.due("20 and LENGTH " + length, shaped(length), 0);
        }
        Edges.due("24 and LENGTH 4", shaped(4, 128, 0, 0, 0), 1);
        for (int length : new int[] {0, 3, 5, 8, 260}) {
            Edges.due("24 and LENGTH " + length, shaped(length, 128, 0, 0, 0), 0);
        }
        for (int n = 1; n <= 3; n++) {
            Edges.due("a head's first " + n, shaped(n, new int[n]), 0);
            Edges.due("4 and a head's first " + n, shaped(4 + n, Arrays.copyOf(new int[] {128}, 4 + n)), 0);
        }
        Edges.due("28, size 4", shaped(8, 128, 0, 0, 4, 1, 2, 3, 4), 1);
        Edges.due("28, size 5", shaped(8, 128, 0, 0, 5, 1, 2, 3, 4), 0);
        Edges.due("28, size 0 and a whole one", shaped(8, 128, 0, 0, 0, 128, 0, 0, 0), 1);
        Edges.due("28, size 0 and one of 1", shaped(8, 128, 0, 0, 0, 128, 0, 0, 1), 0);
        Edges.due("28, size 260", shaped(8, 128, 0, 1, 4, 1, 2, 3, 4), 0);
        Edges.due("28, size 65535", shaped(8, 128, 0, 255, 255, 1, 2, 3, 4), 0);
        Edges.due("28, size 65533", shaped(8, 128, 0, 255, 253, 1, 2, 3, 4), 0);
        for (int n = 1; n <= 3; n++) {
            int[] bytes = Arrays.copyOf(new int[] {128, 0, 0, n, 1, 2, 3}, 4 + n);
            Edges.due("a last one of " + n + " without the bytes up to four", shaped(4 + n, bytes), 0);
        }
    }

    private static void cookie() {
        Edges.term(19, "LENGTH (2), 33 18 164 66, ID (12)");
        for (int at = 4; at < 8; at++) {
            Edges.due("byte " + at + ", its lowest bit", altered(at, 1), 0);
            Edges.due("byte " + at + ", its highest bit", altered(at, 128), 0);
        }
        for (int at = 8; at < 20; at++) {
            Edges.due("byte " + at + " is the ID's", altered(at, 255), 1);
        }
    }

    private static void padding() {
        Edges.term(19, "then ATTRIBUTES: kind (2), size (2), so many bytes, and up to three more, whatever they are, "
                + "to a multiple of four.");
        for (int size = 0; size <= 9; size++) {
            int[] bytes = new int[(size + 3) / 4 * 4];
            Arrays.fill(bytes, 255);
            Client c = new Client(new RelayHouse(), 1, 1);
            c.open(1, 1).raw(40000, size, bytes).number(4660, 0, 0);
            Edges.due("size " + size, c.go(), 420);
            Edges.due("the next one is found", c.x.attribute(1, 3), 4660);
        }
    }

    private static void methodsAndClasses() {
        Edges.term(19, "TYPE: METHOD (12 bits) and CLASS (0 request, 1 indication, 2 success, 3 error): from the "
                + "lowest bit on: four of METHOD, the lower one of CLASS, three of METHOD, the upper one of CLASS, "
                + "five of METHOD.");
        int[][] types = {{0, 0}, {1, 1}, {2, 2}, {4, 4}, {8, 8}, {15, 15}, {32, 16}, {64, 32}, {128, 64}, {224, 112},
            {512, 128}, {1024, 256}, {2048, 512}, {4096, 1024}, {8192, 2048}, {15872, 3968}, {16111, 4095}};
        for (int[] one : types) {
            Edges.due("TYPE " + one[0], methodOf(one[0]), one[1]);
            Edges.due("an indication", methodOf(one[0] | 16), 0);
            Edges.due("a success", methodOf(one[0] | 256), 0);
            Edges.due("an error", methodOf(one[0] | 272), 0);
        }
    }

    private static int methodOf(int type) {
        RelayHouse x = new RelayHouse();
        x.message(type, 1, 2, 3);
        Edges.due("is SENT", x.datagram(1, 1), (type & 272) == 0 ? 1 : 0);
        Edges.due("ERROR", x.attribute(0, 6), (type & 272) != 0 ? NONE : type == 1 ? 0 : type == 8 || type == 4 ? 401 : 400);
        Edges.due("CLASS", x.sent(5), (type & 272) != 0 ? 0 : type == 1 ? 2 : 3);
        return x.sent(4);
    }

    // ---- CHANNEL DATA

    static Client bound(int number) {
        Client c = Client.known();
        c.allocate(1, 3600);
        c.bind(number, 55, 7000);
        return c;
    }

    private static void channelNumbers() {
        Edges.term(19, "CHANNEL DATA: a number 16384 .. 20479 (2)");
        for (int number : new int[] {16383, 16384, 16385, 20478, 20479, 20480, 32768, 65535}) {
            boolean fine = number >= 16384 && number <= 20479;
            Client c = bound(number);
            Edges.due("CHANNEL " + number, c.x.channel(0, number), fine ? 600 : 0);
            c.permit(55);
            c.write(number >> 8, number & 255, 0, 1, 9);
            Edges.due("number " + number, c.x.datagram(c.ip, c.port), fine ? 1 : 0);
        }
    }

    private static void channelSizes() {
        Edges.term(19, "size (2), so many bytes, perhaps up to three more.");
        for (int size : new int[] {0, 1, 3, 4, 5, 255, 256, 257}) {
            for (int more = -2; more <= 5; more++) {
                int n = 4 + size + more;
                boolean fine = more >= 0 && more <= 3;
                int[] bytes = Arrays.copyOf(new int[] {64, 1, size >> 8, size & 255, 77}, n);
                Client c = bound(16385);
                c.write(bytes);
                Edges.due("size " + size + " and " + more + " more", c.x.datagram(c.ip, c.port), fine ? 1 : 0);
                Edges.due("bytes SENT", c.x.sent(0), fine ? size : 0);
                Edges.due("the first of them", c.x.octet(0), !fine || size == 0 ? NONE : 77);
            }
        }
        for (int size : new int[] {392, 393, 396, 397, 65535}) {
            int[] bytes = new int[400];
            bytes[0] = 64;
            bytes[1] = 1;
            bytes[2] = size >> 8;
            bytes[3] = size & 255;
            if (size + 3 < 400) {
                bytes[size + 3] = 5;
            }
            Client c = bound(16385);
            c.write(bytes);
            Edges.due("size " + size + " in 400", c.x.datagram(c.ip, c.port), size == 393 || size == 396 ? 1 : 0);
            Edges.due("its last byte", c.x.octet(size - 1), size == 393 || size == 396 ? 5 : NONE);
        }
    }

    // ---- sizes

    private static void addresses() {
        Edges.term(19, "An ADDRESS in an ATTRIBUTE has 8 bytes: 0, 1, PORT exclusive or 8466, IP exclusive or "
                + "554869826.");
        for (int ip : new int[] {0, 1, -1, Edges.LEAST, Edges.MOST, 554869826}) {
            for (int port : new int[] {1, 8466, 65535}) {
                Client c = new Client(new RelayHouse(), ip, port);
                c.open(1, 1).go();
                Edges.due("MAPPED's PORT", c.x.octet(26) << 8 | c.x.octet(27), port ^ 8466);
                for (int i = 0; i < 4; i++) {
                    Edges.due("MAPPED's IP, byte " + i, c.x.octet(28 + i), (ip ^ 554869826) >>> 24 - 8 * i & 255);
                }
                Edges.due("its first bytes", c.x.octet(24) << 8 | c.x.octet(25), 1);
                Client d = Client.known();
                d.allocate(1);
                Edges.due("a PEER of " + ip, d.bind(16384, ip, port), 0);
                Edges.due("its PERMISSION", d.x.permission(0, ip), 300);
                Edges.due("its CHANNEL's end", d.x.peer(49152, ip, port), 1);
                Edges.due("is found", d.x.sent(0), 4);
            }
        }
    }

    private static void otherAddresses() {
        Edges.term(19, "(The first byte is not looked at; another second one, or another size: the ATTRIBUTE counts "
                + "as not there.)");
        int[][] firsts = {{0, 1, 0}, {1, 1, 0}, {255, 1, 0}, {0, 0, 400}, {0, 2, 400}, {0, 255, 400}, {1, 0, 400}};
        for (int[] one : firsts) {
            Client c = allocated();
            c.open(Client.PERMIT, 1).raw(18, 8, one[0], one[1], 33, 18, 33, 18, 164, 71);
            Edges.due("PEER begins with " + one[0] + ", " + one[1], c.signedGo(), one[2]);
            Edges.due("the PERMISSION", c.x.permission(0, 5), one[2] == 0 ? 300 : 0);
        }
        for (int size : new int[] {0, 1, 4, 7, 8, 9, 12, 20}) {
            int due = size == 8 ? 0 : 400;
            Client c = allocated();
            c.open(Client.PERMIT, 1).raw(18, size, peerBytes(size));
            Edges.due("PEER of " + size + " in CreatePermission", c.signedGo(), due);
            c.open(Client.BIND, 1).number(12, 4, 16384 << 16).raw(18, size, peerBytes(size));
            Edges.due("PEER of " + size + " in ChannelBind", c.signedGo(), due);
            c.permit(5);
            c.x.message(SEND, 1, 2, 3);
            c.raw(18, size, peerBytes(size)).number(19, 1, 7);
            Edges.due("PEER of " + size + " in a Send", c.go(), size == 8 ? 0 : NONE);
            Client d = allocated();
            d.open(Client.PERMIT, 1).raw(18, size, peerBytes(size)).peer(6, 6);
            Edges.due("PEER of " + size + " ahead of one", d.signedGo(), 0);
            Edges.due("PERMISSIONS", d.x.allocation(0, 5), size == 8 ? 2 : 1);
        }
    }

    private static int[] peerBytes(int size) {
        return Arrays.copyOf(Arrays.copyOf(new int[] {0, 1, 33, 18, 33, 18, 164, 71}, Math.min(8, size)), size);
    }

    private static Client allocated() {
        Client c = Client.known();
        c.allocate(1);
        return c;
    }

    /** An Allocate of "abcdefgh" in REALM "ABCDEFGH" with NONCE 0x0102.., in which one kind has another size. */
    private static int sized(int kind, int size) {
        Client c = new Client(new RelayHouse(), 1, 1).as("abcdefgh", "p");
        c.x.user(Client.word("abcdefgh"), 'p');
        c.x.realm(Client.word("ABCDEFGH"));
        c.x.fresh(0x0102030405060708L);
        c.open(Client.ALLOCATE, 1).number(25, 4, Client.UDP);
        c.raw(6, kind == 6 ? size : 8, letters('a', kind == 6 ? size : 8));
        c.raw(20, kind == 20 ? size : 8, letters('A', kind == 20 ? size : 8));
        c.raw(21, kind == 21 ? size : 8, letters(1, kind == 21 ? size : 8));
        return c.sign().go();
    }

    private static int[] letters(int first, int n) {
        int[] bytes = new int[n];
        for (int i = 0; i < n; i++) {
            bytes[i] = first + i;
        }
        return bytes;
    }

    private static void wordSizes() {
        Edges.term(19, "KINDS with their sizes: 6 USERNAME (1 .. 8)");
        for (int size : new int[] {0, 1, 7, 8, 9, 12, 16}) {
            Edges.due("USERNAME of " + size, sized(6, size), size == 0 || size > 8 ? 400 : size == 8 ? 0 : 401);
        }
        Edges.term(19, "20 REALM (1 .. 8)");
        for (int size : new int[] {0, 1, 7, 8, 9, 12, 16}) {
            Edges.due("REALM of " + size, sized(20, size), size == 0 || size > 8 ? 400 : size == 8 ? 0 : 401);
        }
        Edges.term(19, "21 NONCE (8)");
        for (int size : new int[] {0, 1, 7, 8, 9, 12, 16}) {
            Edges.due("NONCE of " + size, sized(21, size), size == 8 ? 0 : 400);
        }
    }

    private static void otherSizes() {
        Edges.term(19, "So do others of another size than told.");
        for (int size : new int[] {0, 1, 3, 4, 5, 8}) {
            transportOf(size);
        }
        Edges.term(19, "12 CHANNEL (4: number, 0, 0), 13 LIFETIME (4), 18 PEER (ADDRESS)");
        for (int size : new int[] {0, 1, 3, 4, 5, 8}) {
            channelOf(size);
            lifetimeOf(size);
        }
    }

    private static void transportOf(int size) {
        Client c = Client.known();
        c.open(Client.ALLOCATE, 1).raw(25, size, Arrays.copyOf(new int[] {17}, size));
        Edges.due("TRANSPORT of " + size, c.signedGo(), size == 4 ? 0 : 400);
        Client d = Client.known();
        d.open(Client.ALLOCATE, 1).raw(25, size, Arrays.copyOf(new int[] {6}, size)).number(25, 4, Client.UDP);
        Edges.due("TRANSPORT 6 of " + size + " ahead of 17", d.signedGo(), size == 4 ? 442 : 0);
    }

    private static void lifetimeOf(int size) {
        Client c = allocated();
        c.open(Client.REFRESH, 1).raw(13, size, Arrays.copyOf(new int[] {0, 0, 3, 232}, size));
        Edges.due("LIFETIME of " + size, c.signedGo(), 0);
        Edges.due("the one answered", c.x.attribute(0, 3), size == 4 ? 1000 : 600);
        c.open(Client.REFRESH, 1).raw(13, size, new int[size]);
        Edges.due("LIFETIME 0 of " + size, c.signedGo(), 0);
        Edges.due("ALLOCATIONS then", c.x.count(2), size == 4 ? 0 : 1);
    }

    private static void channelOf(int size) {
        Client c = allocated();
        c.open(Client.BIND, 1).raw(12, size, Arrays.copyOf(new int[] {64}, size)).peer(5, 5);
        Edges.due("CHANNEL of " + size, c.signedGo(), size == 4 ? 0 : 400);
        Edges.due("CHANNELS then", c.x.allocation(0, 6), size == 4 ? 1 : 0);
    }

    // The server has no use for these, but they aren't STRANGE.
    private static void sizesWithoutUse() {
        Edges.term(19, "9 ERROR (4: 0, 0, hundreds, rest), 10 UNKNOWN (2 for each kind)");
        for (int kind : new int[] {9, 10, 22, 32}) {
            for (int size : new int[] {0, 1, 2, 3, 4, 5, 7, 8, 9}) {
                Client c = allocated();
                c.open(Client.REFRESH, 1).raw(kind, size, new int[size]);
                Edges.due("kind " + kind + " of " + size, c.signedGo(), 0);
            }
        }
    }

    private static void dataOfAnySize() {
        Edges.term(19, "19 DATA (any)");
        for (int size : new int[] {0, 1, 2, 3, 4, 5, 255, 256, 340}) {
            Client c = allocated();
            c.permit(5);
            c.x.message(SEND, 1, 2, 3);
            int[] bytes = new int[size];
            Arrays.fill(bytes, 200);
            c.raw(19, size, bytes).peer(5, 50);
            Edges.due("DATA of " + size, c.x.datagram(c.ip, c.port), 1);
            Edges.due("bytes SENT", c.x.sent(0), size);
            Edges.due("the last", c.x.octet(size - 1), size == 0 ? NONE : 200);
            Edges.due("none behind", c.x.octet(size), NONE);
        }
        // 20, a PEER's 12, a head's 4: so many are left.
        Client c = allocated();
        c.permit(5);
        c.x.message(SEND, 1, 2, 3);
        c.peer(5, 50);
        int[] all = new int[400];
        for (int i = 0; i < 32; i++) {
            all[i] = c.x.tape(i);
        }
        int[] head = {0, 19, 1, 108};
        System.arraycopy(head, 0, all, 32, 4);
        all[2] = 1;
        all[3] = 124;
        all[399] = 99;
        c.write(all);
        Edges.due("a DATAGRAM of 400", c.x.count(3), 400);
        Edges.due("DATA of 364", c.x.datagram(c.ip, c.port), 1);
        Edges.due("bytes SENT", c.x.sent(0), 364);
        Edges.due("the last", c.x.octet(363), 99);
    }

    private static void whatIsNotLookedAt() {
        Edges.term(19, "25 TRANSPORT (4: number, 0, 0, 0; the others are not looked at, as CHANNEL's last two)");
        for (int number : new int[] {0, 16, 17, 18, 145, 255}) {
            for (int rest : new int[] {0, 1, 0xffffff, 0x110000}) {
                Client c = Client.known();
                int answer = c.open(Client.ALLOCATE, 1).number(25, 4, number << 24 | rest).signedGo();
                Edges.due("TRANSPORT " + number + " and " + rest, answer, number == 17 ? 0 : 442);
            }
        }
        for (int rest : new int[] {0, 1, 32768, 65535}) {
            Client c = allocated();
            c.open(Client.BIND, 1).number(12, 4, 16384 << 16 | rest).peer(5, 5);
            Edges.due("CHANNEL and " + rest, c.signedGo(), 0);
            Edges.due("its number", c.x.channel(0, 16384), 600);
        }
    }

    // ---- INTEGRITY and FINGERPRINT

    private static void integritySize() {
        Edges.term(19, "INTEGRITY (kind 28, 32 bytes)");
        for (int size : new int[] {0, 28, 29, 31, 32, 33, 36}) {
            Client c = Client.known();
            c.open(Client.ALLOCATE, 1).number(25, 4, Client.UDP).credentials().sign();
            int head = c.x.count(3) - 36;
            c.x.end(head + 4 + Math.min(32, (size + 3) / 4 * 4));
            c.number(40000, 0, 0);
            c.number(40000, 0, 0);
            // Mask 0 is refused, and so 32 bytes stay 32.
            c.x.alter(head + 3, 32 ^ size);
            Edges.due("INTEGRITY of " + size, c.go(), size == 32 ? 0 : 401);
            c.open(Client.ALLOCATE, 1).number(25, 4, Client.UDP).raw(28, size, new int[size]).credentials();
            Edges.due("one of " + size + " ahead of a right one", c.sign().go(), size == 32 ? 400 : 0);
        }
    }

    private static void integrityLength() {
        Edges.term(19, "of all bytes ahead of it, where LENGTH is as if the MESSAGE ended with it.");
        for (int more = 0; more <= 3; more++) {
            Client c = Client.known();
            c.open(Client.ALLOCATE, 1).number(25, 4, Client.UDP).credentials().sign();
            for (int i = 0; i < more; i++) {
                c.x.nonce(40000, i);
            }
            c.x.finger();
            Edges.due(more + " and a FINGERPRINT behind it", c.go(), 0);
        }
        // The ID, TRANSPORT, and the bytes up to four behind USERNAME and REALM.
        for (int at : new int[] {8, 19, 24, 27, 34, 35, 41, 43}) {
            Client c = Client.known();
            c.open(Client.ALLOCATE, 1).number(25, 4, Client.UDP).credentials().sign();
            c.x.alter(at, 1);
            Edges.due("byte " + at + " ahead of it turned", c.go(), 401);
        }
        for (int i = 0; i < 32; i++) {
            Client c = Client.known();
            c.open(Client.ALLOCATE, 1).number(25, 4, Client.UDP).credentials().sign();
            c.x.alter(60 + i, 1 << i % 8);
            Edges.due("byte " + i + " of INTEGRITY turned", c.go(), 401);
        }
    }

    private static void fingerprintSize() {
        Edges.term(19, "FINGERPRINT (kind 32808, 4 bytes, the last ATTRIBUTE)");
        for (int size : new int[] {0, 1, 3, 4, 5, 8}) {
            Client c = new Client(new RelayHouse(), 1, 1);
            c.open(1, 1).raw(32808, size, new int[size]).number(40000, 0, 0);
            Edges.due("one of " + size + ", not the last", c.go(), size == 4 ? NONE : 0);
            Edges.due("and in the answer", c.x.sent(6), size == 4 ? 0 : 1);
            c.open(1, 1).raw(32808, size, new int[size]).x.finger();
            Edges.due("one of " + size + " ahead of a right one", c.go(), size == 4 ? NONE : 0);
            Edges.due("and in the answer", c.x.sent(6), size == 4 ? 0 : 2);
        }
        Client c = new Client(new RelayHouse(), 1, 1);
        c.open(1, 1).x.finger();
        Edges.due("a right one at the end", c.go(), 0);
        Edges.holds("and in the answer", c.isFingered(1));
        c.open(1, 1).x.finger();
        c.x.finger();
        Edges.due("two right ones", c.go(), NONE);
        c.open(1, 1).x.finger();
        c.number(40000, 0, 0);
        Edges.due("a right one and another kind behind it", c.go(), NONE);
        c.open(1, 1).x.finger();
        c.number(32808, 3, 0);
        Edges.due("a right one and one of 3 bytes behind it", c.go(), NONE);
        for (int kind : new int[] {32807, 32809}) {
            c.open(1, 1).number(kind, 4, 0);
            Edges.due("kind " + kind + " is none", c.go(), 0);
            Edges.due("nor in the answer", c.x.sent(6), 1);
        }
    }

    private static void fingerprintBits() {
        Edges.term(19, "of all bytes ahead of it, with LENGTH as it is, exclusive or 1398035790.");
        for (int bit = 0; bit < 32; bit++) {
            Client c = new Client(new RelayHouse(), 1, 1);
            c.open(1, 1).x.finger();
            c.x.alter(24 + bit / 8, 1 << bit % 8);
            Edges.due("bit " + bit + " turned", c.go(), NONE);
        }
        for (int at = 8; at < 20; at++) {
            Client c = new Client(new RelayHouse(), 1, 1);
            c.open(1, 1).x.finger();
            c.x.alter(at, 1);
            Edges.due("byte " + at + " ahead of it turned", c.go(), NONE);
        }
        for (int more = 0; more <= 93; more += 31) {
            Client c = new Client(new RelayHouse(), 1, 1);
            c.open(1, 1);
            for (int i = 0; i < more; i++) {
                c.number(40000 + i, 0, 0);
            }
            c.x.finger();
            Edges.due("behind " + more + " ATTRIBUTES", c.go(), 0);
            Edges.holds("and in the answer", c.isFingered(1));
        }
    }

    // ---- what counts

    private static void behindIntegrity() {
        Edges.term(19, "Of ATTRIBUTES behind an INTEGRITY a FINGERPRINT alone counts;");
        Client c = Client.known();
        Edges.due("TRANSPORT", c.open(3, 1).credentials().sign().number(25, 4, Client.UDP).go(), 400);
        Edges.due("STRANGE", c.open(3, 1).number(25, 4, Client.UDP).credentials().sign().number(4660, 0, 0).go(), 0);
        Edges.due("LIFETIME", c.open(4, 1).credentials().sign().number(13, 4, 0).go(), 0);
        Edges.due("it is still there", c.x.allocation(0, 4), 600);
        Edges.due("PEER", c.open(8, 1).credentials().sign().peer(5, 5).go(), 400);
        Edges.due("PEER, behind another", c.open(8, 1).peer(6, 6).credentials().sign().peer(5, 5).go(), 0);
        Edges.due("its PERMISSION", c.x.permission(0, 5), 0);
        Edges.due("CHANNEL", c.open(9, 1).peer(5, 5).credentials().sign().number(12, 4, 16384 << 16).go(), 400);
        for (int last = 0; last < 3; last++) {
            c.open(4, 1);
            c.x.text(last == 0 ? 40000 : 6, Client.word("an"), 0);
            c.x.text(last == 1 ? 40000 : 20, 'r', 0);
            c.x.nonce(last == 2 ? 40000 : 21, 0);
            Edges.due("the one of three " + last, c.sign().credentials().go(), 400);
        }
        c.x.message(SEND, 1, 2, 3);
        Edges.due("DATA of a Send", c.peer(6, 6).sign().number(19, 0, 0).go(), NONE);
        c.x.message(SEND, 1, 2, 3);
        Edges.due("STRANGE of a Send", c.peer(6, 6).number(19, 0, 0).sign().number(4660, 0, 0).go(), 0);
        Edges.due("STRANGE of a Binding", c.open(1, 1).sign().number(4660, 0, 0).go(), 0);
        Edges.due("STRANGE ahead of it", c.open(1, 1).number(4660, 0, 0).sign().go(), 420);
        c.open(4, 1).credentials().sign().x.finger();
        Edges.due("FINGERPRINT", c.go(), 0);
        Edges.holds("and in the answer", c.isFingered(2));
        c.open(4, 1).credentials().sign().x.finger();
        c.x.alter(c.x.count(3) - 1, 1);
        Edges.due("a wrong FINGERPRINT", c.go(), NONE);
        c.open(4, 1).credentials().sign().x.finger();
        c.number(40000, 0, 0);
        Edges.due("a FINGERPRINT that isn't the last", c.go(), NONE);
    }

    private static void severalOfAKind() {
        Edges.term(19, "of several of one kind the first one counts, but of peers in CreatePermission all.");
        Client c = Client.known();
        c.x.user('b', 'p');
        c.open(3, 1).number(25, 4, Client.UDP).number(25, 4, 0).number(13, 4, 700).number(13, 4, 800).credentials();
        c.x.text(6, 'b', 0);
        c.x.text(20, 'q', 0);
        c.x.nonce(21, 1);
        Edges.due("the first of each", c.sign().go(), 0);
        Edges.due("USER", c.x.allocation(0, 2), 0);
        Edges.due("LIFETIME", c.x.allocation(0, 4), 700);
        Edges.due("TRANSPORT 0 ahead", c.at(1).open(3, 1).number(25, 4, 0).number(25, 4, Client.UDP).signedGo(), 442);
        Edges.due("LIFETIME 0 ahead", c.open(4, 1).number(13, 4, 0).number(13, 4, 900).signedGo(), 0);
        Edges.due("it is over", c.x.count(2), 0);
        c.allocate(1);
        c.open(9, 1).number(12, 4, 16384 << 16).number(12, 4, 0).peer(5, 50).peer(6, 60);
        Edges.due("CHANNEL and PEER", c.signedGo(), 0);
        Edges.due("the first PEER alone", c.x.permission(0, 5) + c.x.permission(0, 6), 300);
        Edges.due("CHANNEL 0 ahead", c.open(9, 1).number(12, 4, 0).number(12, 4, 16385 << 16).peer(6, 60).signedGo(), 400);
        c.x.message(SEND, 1, 2, 3);
        Edges.due("a Send", c.peer(5, 50).peer(6, 60).number(19, 1, 1).number(19, 1, 2).go(), 0);
        Edges.due("its PEER", c.x.sent(1), 5);
        Edges.sent("its DATA", c.x, 1);
        c.x.message(SEND, 1, 2, 3);
        Edges.due("a PEER without PERMISSION ahead", c.peer(6, 60).peer(5, 50).number(19, 1, 1).go(), NONE);
        Edges.due("PEERS in CreatePermission", c.permit(7, 8, 9), 0);
        Edges.due("all of them", c.x.permission(0, 7) + c.x.permission(0, 8) + c.x.permission(0, 9), 900);
        c.open(4, 1).credentials();
        c.x.sign('x', 'x');
        Edges.due("a wrong INTEGRITY ahead of a right one", c.sign().go(), 401);
        c.open(4, 1).credentials().sign();
        c.x.sign('x', 'x');
        Edges.due("a right one ahead of a wrong one", c.go(), 0);
    }

    private static boolean isKnown(int kind) {
        return Arrays.binarySearch(KNOWN, kind) >= 0;
    }

    private static void strange() {
        Edges.term(19, "Another kind below 32768 that comes is STRANGE.");
        for (int kind = 0; kind <= 40; kind++) {
            Edges.due("kind " + kind, binding(kind), isKnown(kind) ? 0 : 420);
        }
        for (int kind : new int[] {255, 256, 262, 274, 288, 4660, 16384, 32766, 32767}) {
            Edges.due("kind " + kind, binding(kind), 420);
        }
        for (int kind : new int[] {32768, 32769, 32774, 32800, 32807, 32809, 65534, 65535}) {
            Edges.due("kind " + kind, binding(kind), 0);
        }
    }

    /** A Binding request with one ATTRIBUTE of any size. */
    private static int binding(int kind) {
        Client c = new Client(new RelayHouse(), 1, 1);
        for (int size : new int[] {0, 1, 4}) {
            int answer = c.open(1, 1).number(kind, size, 0).go();
            if (answer != 0) {
                Edges.due("UNKNOWN", c.x.attribute(1, 3), kind);
                return answer;
            }
        }
        return 0;
    }
}
