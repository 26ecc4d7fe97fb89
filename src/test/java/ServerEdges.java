import java.util.Arrays;

/** The boundary cases of promise 19 in the terms' part II: what the server does with requests. */
final class ServerEdges {
    private static final int NONE = Edges.NONE;
    private static final int LEAST = Edges.LEAST;
    private static final int MOST = Edges.MOST;
    private static final int[] SIGNED = {Client.ALLOCATE, Client.REFRESH, Client.PERMIT, Client.BIND};

    private ServerEdges() {
    }

    static void run() {
        tapeComes();
        portRefused();
        nothing();
        binding();
        order();
        otherMethods();
        allocate();
        parts();
        noneIsFree();
        lifetimes();
        sameId();
        toldByAllocate();
        eightAllocations();
        lowest();
        refresh();
        refreshByZero();
        createPermission();
        sixteenPermissions();
        permissionTime();
        eachHasItsOwn();
        channelBind();
        eightChannels();
        channelTime();
        behindTheOthers();
        unknown();
        bytesUpToFour();
        answers();
    }

    // ---- promise 19

    private static void tapeComes() {
        Edges.promise(19, "The TAPE comes from a client: 1 if something is SENT, else 0.");
        RelayHouse x = new RelayHouse();
        Edges.due("an empty one", x.datagram(1, 1), 0);
        Edges.due("counted", x.count(9), 1);
        x.message(1, 1, 2, 3);
        Edges.due("a Binding", x.datagram(1, 1), 1);
        Edges.due("counted", x.count(4), 1);
        Edges.due("the TAPE is used up", x.count(3), 0);
        Edges.due("it does not come twice", x.datagram(1, 1), 0);
        Edges.due("nothing is SENT then", x.sent(0), 0);
        Edges.fill(x, 400);
        Edges.due("a full one, no MESSAGE", x.datagram(1, 1), 0);
        Edges.due("the TAPE is used up", x.count(3), 0);
        Edges.due("counted", x.count(9), 3);
    }

    private static void portRefused() {
        Edges.promise(19, "NONE: PORT not 1 .. 65535 (the TAPE stays).");
        for (int port : new int[] {0, -1, 65536, LEAST, MOST}) {
            Edges.refused("PORT " + port, x -> x.datagram(1, port));
            Edges.refused("PORT " + port + ", no TAPE", () -> Edges.withTape(0), x -> x.datagram(1, port));
        }
        for (int port : new int[] {1, 2, 65534, 65535}) {
            RelayHouse x = new RelayHouse();
            x.message(1, 1, 2, 3);
            Edges.due("PORT " + port, x.datagram(1, port), 1);
            Edges.due("is answered", x.sent(2), port);
        }
    }

    private static void nothing() {
        Edges.term(19, "No MESSAGE; a FINGERPRINT that is wrong, or not last; a success, an error; an indication but "
                + "Send (METHOD 6); a Send without PEER, or DATA, with something STRANGE, without ALLOCATION, "
                + "without PERMISSION: nothing.");
        Edges.idle("an empty TAPE", x -> silent(Edges.guest(x), 0), 0);
        Edges.idle("no MESSAGE", x -> silent(Edges.guest(x), 1), 0);
        Edges.idle("a wrong FINGERPRINT", x -> silent(Edges.guest(x), 2), 0);
        Edges.idle("a FINGERPRINT that isn't last", x -> silent(Edges.guest(x), 3), 0);
        for (int type : new int[] {1, 3, 4, 6, 7, 8, 9}) {
            Edges.idle("a success of METHOD " + type, x -> typed(Edges.guest(x), type | 256), 0);
            Edges.idle("an error of METHOD " + type, x -> typed(Edges.guest(x), type | 272), 0);
            Edges.idle("an indication of METHOD " + type, x -> typed(Edges.guest(x), type | 16), type == 6 ? 1 : 0);
        }
        Edges.idle("a Send", x -> send(Edges.guest(x), 1, true, 0), 1);
        Edges.idle("without PEER", x -> send(Edges.guest(x), NONE, true, 0), 0);
        Edges.idle("without DATA", x -> send(Edges.guest(x), 1, false, 0), 0);
        Edges.idle("with something STRANGE", x -> send(Edges.guest(x), 1, true, 32767), 0);
        Edges.idle("with a kind of 32768", x -> send(Edges.guest(x), 1, true, 32768), 1);
        Edges.idle("without ALLOCATION", x -> send(new Client(x, Client.IP, Client.PORT + 1), 1, true, 0), 0);
        Edges.idle("without ALLOCATION", x -> send(new Client(x, Client.IP + 1, Client.PORT), 1, true, 0), 0);
        Edges.idle("without PERMISSION", x -> send(Edges.guest(x), 12, true, 0), 0);
        Edges.idle("with another's PERMISSION", x -> send(Edges.other(x), 1, true, 0), 0);
    }

    private static int step(Client c) {
        int nothingBefore = c.x.count(9);
        int sentBefore = c.x.count(4);
        int answer = c.x.datagram(c.ip, c.port);
        Edges.due("the TAPE is used up", c.x.count(3), 0);
        Edges.due("those by which nothing was SENT", c.x.count(9), nothingBefore + 1 - answer);
        Edges.due("those that were sent", c.x.count(4), sentBefore + answer);
        if (answer == 0) {
            for (int what = 0; what <= 6; what++) {
                Edges.due("sent(" + what + ")", c.x.sent(what), 0);
            }
            Edges.due("octet(0)", c.x.octet(0), NONE);
            Edges.due("attribute(0, 0)", c.x.attribute(0, 0), NONE);
        }
        return answer;
    }

    private static int silent(Client c, int why) {
        c.open(Client.REFRESH, 1).number(13, 4, 0).credentials().sign();
        if (why == 0) {
            c.x.end(0);
        }
        if (why == 1) {
            c.x.alter(4, 1);
        }
        if (why >= 2) {
            c.x.finger();
        }
        if (why == 2) {
            c.x.alter(c.x.count(3) - 1, 1);
        }
        if (why == 3) {
            c.number(40000, 0, 0);
        }
        return step(c);
    }

    private static int typed(Client c, int type) {
        c.x.message(type, 1, 2, 3);
        c.number(25, 4, Client.UDP).number(13, 4, 0).number(12, 4, 16385 << 16).peer(1, 1).number(19, 1, 1);
        c.credentials().sign();
        return step(c);
    }

    private static int send(Client c, int ip, boolean data, int kind) {
        c.x.message(Client.SEND | 16, 1, 2, 3);
        if (ip != NONE) {
            c.peer(ip, 10);
        }
        if (data) {
            c.number(19, 2, 1);
        }
        if (kind != 0) {
            c.number(kind, 0, 0);
        }
        return step(c);
    }

    private static void binding() {
        Edges.term(19, "A request: METHOD 1 Binding: 420, if something is STRANGE; else MAPPED.");
        for (int kind : new int[] {0, 5, 7, 32767}) {
            Edges.idle("with kind " + kind, x -> Edges.guest(x).open(1, 1).number(kind, 0, 0).go(), 420);
        }
        Edges.idle("with kind 32768", x -> Edges.guest(x).open(1, 1).number(32768, 0, 0).go(), 0);
        Edges.idle("without ATTRIBUTES", x -> Edges.guest(x).open(1, 1).go(), 0);
        Client c = Client.known();
        c.open(1, 1).go();
        Edges.due("MAPPED alone", c.x.sent(6), 1);
        Edges.due("its kind", c.x.attribute(0, 0), 32);
        Edges.due("a signed one", c.open(1, 1).signedGo(), 0);
        Edges.due("isn't answered so", c.x.sent(6), 1);
    }

    // Each has all the faults of those behind it.
    private static void order() {
        Edges.term(19, "METHODS 3 Allocate, 4 Refresh, 8 CreatePermission, 9 ChannelBind, in this order: 401 without "
                + "INTEGRITY; 400 without USERNAME, REALM, NONCE; 438 another NONCE; 401 an unknown USER, another "
                + "REALM, a wrong INTEGRITY; 420; then (signed from here on) as told.");
        for (int method : SIGNED) {
            faulty(method, 0, 401, 3);
            faulty(method, 1, 400, 1);
            faulty(method, 2, 400, 1);
            faulty(method, 3, 400, 1);
            faulty(method, 4, 438, 3);
            faulty(method, 5, 401, 3);
            faulty(method, 6, 401, 3);
            faulty(method, 7, 401, 3);
            faulty(method, 8, 420, 2);
            faulty(method, 9, method == Client.ALLOCATE ? 400 : 437, 2);
        }
    }

    private static int fault(Client c, int method, int level) {
        c.open(method, 1);
        if (level < 9) {
            c.number(4660, 0, 0);
        }
        if (level != 1) {
            c.x.text(6, Client.word(level < 6 ? "xx" : "an"), 0);
        }
        if (level != 2) {
            c.x.text(20, Client.word(level < 7 ? "q" : "ex"), 0);
        }
        if (level != 3) {
            c.x.nonce(21, level < 5 ? 4 : 5);
        }
        if (level > 0) {
            c.x.sign(Client.word("an"), Client.word(level < 8 ? "p2" : "p1"));
        }
        return c.go();
    }

    private static void faulty(int method, int level, int error, int attributes) {
        String call = "METHOD " + method + ", fault " + level;
        Edges.idle(call, x -> fault(stranger(x), method, level), error);
        Client c = stranger(Edges.busy());
        fault(c, method, level);
        Edges.due(call + ": ATTRIBUTES", c.x.sent(6), attributes);
        Edges.due(call + ": CLASS", c.x.sent(5), 3);
        Edges.due(call + ": the first", c.x.attribute(0, 0), 9);
        if (error == 401 || error == 438) {
            Edges.due(call + ": REALM", c.x.attribute(1, 0) << 16 | c.x.attribute(1, 3), 20 << 16 | Client.word("ex"));
            Edges.due(call + ": NONCE", c.x.attribute(2, 0) << 8 | c.x.octet(c.x.attribute(2, 2) + 7), 21 << 8 | 5);
        }
        Edges.due(call + ": signed", c.isSealed(attributes - 1) ? 1 : 0, level == 9 ? 1 : 0);
    }

    /** One without ALLOCATION, who knows a USER. */
    private static Client stranger(RelayHouse x) {
        Client c = new Client(x, 1, 1);
        c.realm = "ex";
        c.nonce = 5;
        return c;
    }

    private static void otherMethods() {
        Edges.term(19, "Other METHODS: 400.");
        for (int method : new int[] {0, 2, 5, 6, 7, 10, 11, 15}) {
            Edges.idle("METHOD " + method,
                    x -> Edges.guest(x).open(method, 1).number(4660, 0, 0).number(13, 4, 0).signedGo(), 400);
            Client c = Edges.guest(Edges.busy());
            c.open(method, 1).signedGo();
            Edges.due("ERROR alone", c.x.sent(6), 1);
        }
    }

    // ---- Allocate

    private static void allocate() {
        Edges.term(19, "Allocate: if the client has an ALLOCATION: that of the same ID: as if made just now, but nothing "
                + "changes (its LIFETIME is what is left); else 437. 400 without TRANSPORT; 442 not 17;");
        Edges.idle("another ID, no TRANSPORT", x -> Edges.guest(x).open(3, 2).signedGo(), 437);
        Edges.idle("no TRANSPORT, no part", ServerEdges::partless, x -> stranger(x).open(3, 2).signedGo(), 400);
        for (int number : new int[] {0, 16, 18, 255}) {
            Edges.idle("TRANSPORT " + number + ", no part", ServerEdges::partless,
                    x -> stranger(x).open(3, 2).number(25, 4, number << 24).signedGo(), 442);
        }
        Edges.idle("TRANSPORT 17, no part", ServerEdges::partless, x -> stranger(x).allocate(2), 486);
        Client c = Client.known();
        Edges.due("TRANSPORT 17", c.allocate(1), 0);
        Edges.due("another client, the same ID", c.at(1).allocate(1), 0);
        Edges.due("is another ALLOCATION", c.x.count(2), 2);
    }

    /** A busy house in which no USER may have another ALLOCATION. */
    private static RelayHouse partless() {
        RelayHouse x = Edges.busy();
        x.part(0);
        return x;
    }

    private static void parts() {
        Edges.term(19, "486 the USER has as many ALLOCATIONS as its part (2 at first)");
        Client c = Client.known();
        c.x.user('b', 'b');
        Edges.due("the first", c.at(1).allocate(1), 0);
        Edges.due("the second", c.at(2).allocate(1), 0);
        Edges.due("a third", c.at(3).allocate(1), 486);
        Edges.holds("signed", c.isSealed(1));
        Edges.due("there are two", c.x.count(2), 2);
        Edges.due("another USER's", c.at(3).as("b", "b").allocate(1), 0);
        Edges.due("that of the same ID", c.at(2).allocate(1), 0);
        c.at(2).refresh(0);
        Edges.due("when one is over", c.at(4).allocate(1), 0);
        Edges.due("a third", c.at(5).allocate(1), 486);
        c.x.tick(600);
        Edges.due("when all are over", c.at(5).allocate(1), 0);
        Edges.due("a second", c.at(6).allocate(1), 0);
        Edges.due("a third", c.at(7).allocate(1), 486);
    }

    /** Two USERS, ALLOCATIONS of clients 1 .. n; the first USER has at most 7. */
    private static Client crowded(int n) {
        Client c = Client.known();
        c.x.user('b', 'b');
        c.x.part(7);
        for (int i = 1; i <= n; i++) {
            member(c, i, i).allocate(1);
        }
        return c;
    }

    /** One at a PORT who has the name of the i-th of eight. */
    private static Client member(Client c, int i, int port) {
        return i == 8 ? c.at(port).as("b", "b") : c.at(port);
    }

    private static void noneIsFree() {
        Edges.term(19, "508 none is free.");
        Edges.due("the 8th", crowded(7).at(9).as("b", "b").allocate(1), 0);
        Client c = crowded(8);
        Edges.due("there are 8", c.x.count(2), 8);
        Edges.due("a 9th", c.at(9).as("b", "b").allocate(1), 508);
        Edges.holds("signed", c.at(9).as("b", "b").isSealed(1));
        Edges.due("a 9th of the other: 486 is ahead", c.at(9).allocate(1), 486);
        Edges.due("there are 8", c.x.count(2), 8);
        Edges.due("the last one is as it was", c.x.allocation(7, 1), 8);
        Edges.due("the first one is as it was", c.x.allocation(0, 1), 1);
        c.at(1).refresh(0);
        Edges.due("when the first is over", c.at(9).as("b", "b").allocate(1), 0);
        Edges.due("it is there", c.x.allocation(0, 1), 9);
    }

    private static void lifetimes() {
        Edges.term(19, "LIFETIME: none told 600; else what is told, but 600 at least, 3600 at most.");
        int[][] told = {{0, 600}, {1, 600}, {599, 600}, {600, 600}, {601, 601}, {3599, 3599}, {3600, 3600}, {3601, 3600},
            {65536, 3600}, {MOST, 3600}, {LEAST, 3600}, {-600, 3600}, {-1, 3600}};
        for (int[] one : told) {
            Client c = Client.known();
            Edges.due("LIFETIME " + one[0], c.allocate(1, one[0]), 0);
            Edges.due("the one answered", c.x.attribute(1, 3), one[1]);
            livesFor(c.x, one[1]);
        }
        Client c = Client.known();
        c.allocate(1);
        Edges.due("none told", c.x.attribute(1, 3), 600);
        livesFor(c.x, 600);
    }

    private static void livesFor(RelayHouse x, int seconds) {
        Edges.due("seconds left", x.allocation(0, 4), seconds);
        Edges.due("a second ahead", x.tick(seconds - 1), 0);
        Edges.due("there is one", x.allocation(0, 4), 1);
        Edges.due("then", x.tick(1), 1);
        Edges.due("there is none", x.allocation(0, 4), NONE);
    }

    private static void sameId() {
        Edges.term(19, "that of the same ID: as if made just now, but nothing changes (its LIFETIME is what is "
                + "left); else 437.");
        Edges.idle("the same ID", x -> Edges.guest(x).open(3, 1).number(13, 4, 3600).signedGo(), 0);
        Edges.idle("TRANSPORT 6", x -> Edges.guest(x).open(3, 1).number(25, 4, 6 << 24).signedGo(), 0);
        Edges.idle("no part", ServerEdges::partless, x -> Edges.guest(x).open(3, 1).signedGo(), 0);
        for (int at = 8; at < 20; at++) {
            int byteAt = at;
            Edges.idle("another byte " + at + " of the ID", x -> turned(Edges.guest(x), byteAt), 437);
        }
        Client c = Client.known();
        c.allocate(1, 1000);
        c.x.tick(999);
        Edges.due("at its last second", c.allocate(1, 2000), 0);
        Edges.due("LIFETIME", c.x.attribute(1, 3), 1);
        Edges.due("RELAYED", c.x.attribute(0, 4), 49152);
        Edges.due("ATTRIBUTES", c.x.sent(6), 4);
        Edges.due("nothing changes", c.x.tick(1), 1);
    }

    private static int turned(Client c, int at) {
        c.open(3, 1);
        c.x.alter(at, 1);
        return c.signedGo();
    }

    private static void toldByAllocate() {
        Edges.term(19, "RELAYED (SERVER's IP), LIFETIME, MAPPED.");
        for (int ip : new int[] {0, -1, LEAST, MOST}) {
            for (int port : new int[] {1, 65535}) {
                Client c = new Client(Client.known().x, ip, port);
                Edges.due("Allocate", c.allocate(1), 0);
                Edges.due("the kinds", c.x.attribute(0, 0) << 16 | c.x.attribute(1, 0) << 8 | c.x.attribute(2, 0),
                        22 << 16 | 13 << 8 | 32);
                Edges.due("RELAYED's IP", c.x.attribute(0, 5), (int) 3232235777L);
                Edges.due("RELAYED's PORT", c.x.attribute(0, 4), 49152);
                Edges.due("MAPPED's IP", c.x.attribute(2, 5), ip);
                Edges.due("MAPPED's PORT", c.x.attribute(2, 4), port);
                Edges.holds("INTEGRITY is the last", c.x.sent(6) == 4 && c.isSealed(3));
            }
        }
    }

    private static void eightAllocations() {
        Edges.term(19, "ALLOCATIONS 0 .. 7: a client (IP, PORT), a USER, a PORT, the ID that made it");
        Client c = crowded(8);
        for (int k = 0; k <= 7; k++) {
            Edges.due("PORT of client " + k, c.x.allocation(k, 1), k + 1);
            Edges.due("USER of " + k, c.x.allocation(k, 2), k == 7 ? 1 : 0);
            Edges.due("PORT of " + k, c.x.allocation(k, 3), 49152 + k);
            Edges.due("the ID of " + k, member(c, k + 1, k + 1).allocate(1), 0);
            Edges.due("another ID", member(c, k + 1, k + 1).allocate(2), 437);
        }
        Edges.due("none at -1", c.x.allocation(-1, 1), NONE);
        Edges.due("none at 8", c.x.allocation(8, 1), NONE);
    }

    private static void lowest() {
        Edges.term(19, "What is over is gone; a new ALLOCATION is the lowest that is free, its PORT the lowest from "
                + "49152 on that none has;");
        for (int gone = 1; gone <= 8; gone++) {
            Client c = crowded(8);
            member(c, gone, gone).refresh(0);
            Edges.due("it is gone", c.x.allocation(gone - 1, 3), NONE);
            member(c, gone, 100).allocate(5);
            Edges.due("number " + (gone - 1) + " is free", c.x.allocation(gone - 1, 1), 100);
            Edges.due("its PORT", c.x.allocation(gone - 1, 3), 49151 + gone);
            Edges.due("the one answered", c.x.attribute(0, 4), 49151 + gone);
        }
        Client c = crowded(8);
        c.at(6).refresh(0);
        c.at(3).refresh(0);
        c.at(4).refresh(0);
        for (int k : new int[] {2, 3, 5}) {
            c.at(100 + k).allocate(1);
            Edges.due("the lowest that is free", c.x.allocation(k, 1), 100 + k);
            Edges.due("the lowest PORT", c.x.allocation(k, 3), 49152 + k);
        }
    }

    // ---- Refresh

    private static void refresh() {
        Edges.term(19, "Refresh: 437 without ALLOCATION; 441 of another USER;");
        Edges.idle("without ALLOCATION", x -> stranger(x).refresh(0), 437);
        Edges.idle("another PORT's", x -> asClient(x, Client.IP, Client.PORT + 1).refresh(0), 437);
        Edges.idle("another IP's", x -> asClient(x, Client.IP + 1, Client.PORT).refresh(0), 437);
        Edges.idle("of another USER", x -> Edges.guest(x).as("b", "q2").refresh(0), 441);
        Edges.term(19, "else as with Allocate, from now on, LIFETIME.");
        int[][] told = {{1, 600}, {599, 600}, {600, 600}, {601, 601}, {3599, 3599}, {3600, 3600}, {3601, 3600}, {MOST, 3600},
            {LEAST, 3600}, {-1, 3600}};
        for (int[] one : told) {
            Client c = Client.known();
            c.allocate(1);
            c.x.tick(599);
            Edges.due("LIFETIME " + one[0], c.refresh(one[0]), 0);
            Edges.due("the one answered", c.x.attribute(0, 3), one[1]);
            Edges.due("LIFETIME, INTEGRITY", c.x.sent(6), 2);
            livesFor(c.x, one[1]);
        }
        Client c = Client.known();
        c.allocate(1, 3600);
        Edges.due("none told", c.open(4, 1).signedGo(), 0);
        Edges.due("the one answered", c.x.attribute(0, 3), 600);
        livesFor(c.x, 600);
    }

    private static Client asClient(RelayHouse x, int ip, int port) {
        Client c = new Client(x, ip, port);
        c.realm = "ex";
        c.nonce = 5;
        return c;
    }

    private static void refreshByZero() {
        Edges.term(19, "LIFETIME 0: it is over now, and LIFETIME 0;");
        Client c = Client.known();
        c.allocate(1, 3600);
        c.at(1).allocate(1);
        c.bind(16384, 5, 5);
        Edges.due("Refresh", c.refresh(0), 0);
        Edges.due("LIFETIME", c.x.attribute(0, 0) << 8 | c.x.attribute(0, 3), 13 << 8);
        Edges.due("its size", c.x.attribute(0, 1), 4);
        Edges.holds("signed", c.isSealed(1));
        Edges.due("it is over", c.x.allocation(0, 4), NONE);
        Edges.due("the other stays", c.x.allocation(1, 4), 600);
        Edges.due("its PERMISSION", c.x.permission(0, 5), 0);
        Edges.due("its CHANNEL", c.x.channel(0, 16384), 0);
        Edges.due("from a peer", c.x.peer(49152, 5, 5), 0);
        c.write(64, 0, 0, 0);
        Edges.due("CHANNEL DATA", c.go(), NONE);
        Edges.due("again", c.refresh(0), 437);
        Edges.due("by a tick none is over", c.x.tick(0), 0);
        Edges.due("the same ID makes a new one", c.allocate(1), 0);
        Edges.due("with nothing of the old one", c.x.allocation(0, 5) + c.x.allocation(0, 6), 0);
    }

    // ---- CreatePermission

    private static void createPermission() {
        Edges.term(19, "CreatePermission: 437, 441; 400 without PEER; 403 an IP that is FORBIDDEN (none is at first);");
        Edges.idle("without ALLOCATION", x -> stranger(x).permit(0x0b000000), 437);
        Edges.idle("of another USER", x -> Edges.guest(x).as("b", "q2").permit(0x0b000000), 441);
        Edges.idle("another USER, no PEER", x -> Edges.guest(x).as("b", "q2").permit(), 441);
        Edges.idle("without PEER", x -> Edges.guest(x).permit(), 400);
        Edges.idle("FORBIDDEN", x -> Edges.guest(x).permit(0x0b000000), 403);
        Edges.idle("the first is FORBIDDEN", x -> Edges.guest(x).permit(0x0bffffff, 1, 4), 403);
        Edges.idle("the last is FORBIDDEN", x -> Edges.guest(x).permit(1, 4, 0x0b000000), 403);
        Edges.due("the one below", Edges.guest(Edges.busy()).permit(0x0affffff), 0);
        Edges.due("the one above", Edges.guest(Edges.busy()).permit(0x0c000000), 0);
        int[] many = range(100, 20);
        many[19] = 0x0b000000;
        Edges.idle("FORBIDDEN, and too many", x -> Edges.guest(x).permit(many), 403);
    }

    private static int[] range(int first, int n) {
        int[] ips = new int[n];
        for (int i = 0; i < n; i++) {
            ips[i] = first + i;
        }
        return ips;
    }

    /** A busy house whose ALLOCATION 0 has n PERMISSIONS, for 1 .. n. */
    private static RelayHouse permitting(int n) {
        RelayHouse x = Edges.busy();
        if (n > 3) {
            Edges.guest(x).permit(range(4, n - 3));
        }
        x.tick(20);
        return x;
    }

    private static void sixteenPermissions() {
        Edges.term(19, "508 they would be more than 16: nothing is done; each IP told has a PERMISSION for 300 from "
                + "now on.");
        for (int n = 1; n <= 22; n++) {
            Client c = Client.known();
            c.allocate(1);
            Edges.due(n + " at once", c.permit(range(1, n)), n <= 16 ? 0 : 508);
            Edges.due("PERMISSIONS", c.x.allocation(0, 5), n <= 16 ? n : 0);
            Edges.due("the first", c.x.permission(0, 1), n <= 16 ? 300 : 0);
            Edges.due("the last", c.x.permission(0, n), n <= 16 ? 300 : 0);
        }
        Edges.due("the 16th", Edges.guest(permitting(15)).permit(16), 0);
        Edges.due("the 15th, the 16th", Edges.guest(permitting(14)).permit(15, 16), 0);
        Edges.idle("a 17th", () -> permitting(16), x -> Edges.guest(x).permit(17), 508);
        Edges.idle("the 16th and a 17th", () -> permitting(15), x -> Edges.guest(x).permit(16, 17), 508);
        Edges.idle("a 17th behind those that there are", () -> permitting(16), x -> Edges.guest(x).permit(1, 16, 17), 508);
        Edges.idle("a 17th ahead of one that there is", () -> permitting(16), x -> Edges.guest(x).permit(17, 1), 508);
        Client c = Edges.guest(permitting(16));
        Edges.due("those that there are", c.permit(1, 8, 16), 0);
        Edges.due("have 300 again", c.x.permission(0, 1) + c.x.permission(0, 8) + c.x.permission(0, 16), 900);
        Edges.due("there are 16", c.x.allocation(0, 5), 16);
        Client d = Edges.guest(permitting(15));
        Edges.due("the 16th, told three times", d.permit(16, 16, 1, 16), 0);
        Edges.due("there are 16", d.x.allocation(0, 5), 16);
        Edges.due("an IP of another PORT", d.open(8, 1).peer(16, 1).peer(16, 2).peer(16, 65535).signedGo(), 0);
        Edges.due("there are 16", d.x.allocation(0, 5), 16);
        Edges.due("another ALLOCATION has its own", Edges.other(d.x).permit(range(1, 16)), 0);
    }

    private static void permissionTime() {
        Edges.term(19, "each IP told has a PERMISSION for 300 from now on.");
        Client c = Client.known();
        c.allocate(1, 3600);
        c.permit(1, 2);
        c.x.tick(299);
        Edges.due("a second ahead", c.x.permission(0, 1), 1);
        Edges.due("from a peer", c.x.peer(49152, 1, 1), 1);
        c.permit(2);
        c.x.tick(1);
        Edges.due("then", c.x.permission(0, 1), 0);
        Edges.due("from a peer", c.x.peer(49152, 1, 1), 0);
        Edges.due("the one told again", c.x.permission(0, 2), 299);
        Edges.due("there is one", c.x.allocation(0, 5), 1);
        c.permit(range(10, 15));
        Edges.due("the 16th", c.x.allocation(0, 5), 16);
        c.x.tick(299);
        Edges.due("one is over: room for one", c.permit(1), 0);
        Edges.due("not for two", c.permit(3), 508);
        c.x.tick(1);
        Edges.due("fifteen are over", c.x.allocation(0, 5), 1);
        Edges.due("room for fifteen", c.permit(range(10, 15)), 0);
        Edges.due("not for one more", c.permit(3), 508);
    }

    private static void eachHasItsOwn() {
        Edges.term(19, "up to 16 PERMISSIONS (an IP, till when), up to 8 CHANNELS (number, peer's IP and PORT, till "
                + "when).");
        Client c = Client.known();
        c.allocate(1);
        c.at(1).allocate(1);
        for (int i = 0; i < 8; i++) {
            Edges.due("CHANNEL " + i, c.bind(20472 + i, i, i), 0);
        }
        Edges.due("PERMISSIONS 9 to 16", c.permit(range(8, 8)), 0);
        Edges.due("the other has none", c.x.allocation(1, 5) + c.x.allocation(1, 6), 0);
        Edges.due("a 17th", c.permit(16), 508);
        Edges.due("a 9th", c.bind(16384, 0, 9), 508);
        Edges.due("the other has room", c.at(1).permit(range(100, 16)), 0);
        Edges.due("for both", c.at(1).bind(20479, 100, 1), 0);
        Edges.due("PERMISSIONS of both", c.x.allocation(0, 5) << 8 | c.x.allocation(1, 5), 16 << 8 | 16);
        Edges.due("CHANNELS of both", c.x.allocation(0, 6) << 8 | c.x.allocation(1, 6), 8 << 8 | 1);
    }

    // ---- ChannelBind

    private static void channelBind() {
        Edges.term(19, "ChannelBind: 437, 441; 400 without CHANNEL, PEER, a number not 16384 .. 20479, a number that "
                + "another peer has, a peer that has another number; 403;");
        Edges.idle("without ALLOCATION", x -> stranger(x).bind(16383, 1, 1), 437);
        Edges.idle("of another USER", x -> Edges.guest(x).as("b", "q2").bind(16383, 1, 1), 441);
        Edges.idle("without CHANNEL", x -> Edges.guest(x).open(9, 1).peer(0x0b000000, 1).signedGo(), 400);
        Edges.idle("without PEER", x -> Edges.guest(x).open(9, 1).number(12, 4, 16385 << 16).signedGo(), 400);
        for (int number : new int[] {0, 1, 16383, 20480, 32768, 65535}) {
            Edges.idle("number " + number, x -> Edges.guest(x).bind(number, 0x0b000000, 1), 400);
        }
        for (int number : new int[] {16385, 20478, 20479}) {
            Edges.due("number " + number, Edges.guest(Edges.busy()).bind(number, 1, 1), 0);
        }
        // Number 16384 is that of IP 3, PORT 33.
        Edges.idle("a number that another PORT has", x -> Edges.guest(x).bind(16384, 3, 34), 400);
        Edges.idle("a number that another IP has", x -> Edges.guest(x).bind(16384, 4, 33), 400);
        Edges.idle("that of one who is FORBIDDEN", x -> Edges.guest(x).bind(16384, 0x0b000000, 33), 400);
        Edges.idle("a peer that has another number", x -> Edges.guest(x).bind(16385, 3, 33), 400);
        Edges.due("another PORT of its IP", Edges.guest(Edges.busy()).bind(16385, 3, 34), 0);
        Edges.due("another IP of its PORT", Edges.guest(Edges.busy()).bind(16385, 4, 33), 0);
        Edges.due("the same number and peer", Edges.guest(Edges.busy()).bind(16384, 3, 33), 0);
        Edges.due("another ALLOCATION's number", Edges.other(Edges.busy()).bind(16384, 4, 44), 0);
        Edges.idle("FORBIDDEN", x -> Edges.guest(x).bind(16385, 0x0b000000, 1), 403);
        Edges.idle("the last that is FORBIDDEN", x -> Edges.guest(x).bind(16385, 0x0bffffff, 1), 403);
    }

    /** A busy house whose ALLOCATION 0 has n CHANNELS. */
    private static RelayHouse binding(int n) {
        RelayHouse x = Edges.busy();
        for (int i = 1; i < n; i++) {
            Edges.guest(x).bind(16384 + i, 3, 33 + i);
        }
        return x;
    }

    private static void eightChannels() {
        Edges.term(19, "508 a 9th CHANNEL, a 17th PERMISSION;");
        Client c = Edges.guest(binding(7));
        Edges.due("the 8th", c.bind(16400, 3, 400), 0);
        Edges.due("there are 8", c.x.allocation(0, 6), 8);
        Edges.idle("a 9th", () -> binding(8), x -> Edges.guest(x).bind(16400, 3, 400), 508);
        Edges.idle("a 9th, of an IP without PERMISSION", () -> binding(8), x -> Edges.guest(x).bind(16400, 9, 400), 508);
        Edges.idle("403 is ahead", () -> binding(8), x -> Edges.guest(x).bind(16400, 0x0b000000, 400), 403);
        Edges.idle("400 is ahead", () -> binding(8), x -> Edges.guest(x).bind(16384, 9, 400), 400);
        for (int i = 0; i < 8; i++) {
            Client d = Edges.guest(binding(8));
            d.x.tick(10);
            Edges.due("number " + i + " of 8 again", d.bind(16384 + i, 3, 33 + i), 0);
            Edges.due("its seconds", d.x.channel(0, 16384 + i), 600);
            Edges.due("there are 8", d.x.allocation(0, 6), 8);
        }
        Edges.due("the 16th PERMISSION", Edges.guest(permitting(15)).bind(16400, 16, 1), 0);
        Edges.idle("a 17th PERMISSION", () -> permitting(16), x -> Edges.guest(x).bind(16400, 17, 1), 508);
        Client d = Edges.guest(permitting(16));
        Edges.due("an IP that has one", d.bind(16400, 16, 1), 0);
        Edges.due("there are 16", d.x.allocation(0, 5), 16);
        Edges.due("its PERMISSION's seconds", d.x.permission(0, 16), 300);
    }

    private static void channelTime() {
        Edges.term(19, "the CHANNEL is there for 600 from now on, and the IP's PERMISSION for 300.");
        Client c = Client.known();
        c.allocate(1, 3600);
        c.bind(16384, 5, 50);
        Edges.due("CHANNEL", c.x.channel(0, 16384), 600);
        Edges.due("PERMISSION", c.x.permission(0, 5), 300);
        c.x.tick(299);
        Edges.due("PERMISSION", c.x.permission(0, 5), 1);
        c.x.tick(1);
        Edges.due("PERMISSION", c.x.permission(0, 5), 0);
        Edges.due("CHANNEL", c.x.channel(0, 16384), 300);
        c.x.tick(299);
        Edges.due("a second ahead", c.x.channel(0, 16384), 1);
        Edges.due("its number is taken", c.bind(16384, 6, 60), 400);
        Edges.due("its peer is taken", c.bind(16385, 5, 50), 400);
        c.x.tick(1);
        Edges.due("then", c.x.channel(0, 16384), 0);
        Edges.due("there is none", c.x.allocation(0, 6), 0);
        Edges.due("its number is free", c.bind(16384, 6, 60), 0);
        Edges.due("its peer is free", c.bind(16385, 5, 50), 0);
        Client full = Edges.guest(binding(8));
        // The first of them was bound 50 ahead of the others.
        full.x.tick(549);
        Edges.due("a 9th, a second ahead", full.bind(16400, 9, 9), 508);
        full.x.tick(1);
        Edges.due("when one is over", full.bind(16400, 9, 9), 0);
    }

    // Of four, each choice of those that are renewed, and stay when the others are over.
    private static void behindTheOthers() {
        Edges.term(19, "new PERMISSIONS, CHANNELS come behind the others.");
        for (int renewed = 0; renewed < 16; renewed++) {
            Client c = Client.known();
            c.allocate(1, 3600);
            for (int i = 0; i < 4; i++) {
                c.bind(16384 + i, 10 + i, 100 + i);
            }
            c.x.tick(200);
            for (int i = 0; i < 4; i++) {
                if ((renewed >> i & 1) == 1) {
                    c.bind(16384 + i, 10 + i, 100 + i);
                }
            }
            Edges.due("none is new", c.x.allocation(0, 5) << 8 | c.x.allocation(0, 6), 4 << 8 | 4);
            c.x.tick(100);
            permissionsLeft(c, renewed, 200);
            c.x.tick(1);
            permissionsLeft(c, renewed, 199);
            c.x.tick(299);
            channelsLeft(c, renewed, 200);
            c.x.tick(1);
            channelsLeft(c, renewed, 199);
            int n = c.x.allocation(0, 6);
            Edges.due("a new one", c.bind(16400, 40, 400), 0);
            Edges.due("is one more", c.x.allocation(0, 6), n + 1);
            Edges.due("its seconds", c.x.channel(0, 16400), 600);
            for (int i = 0; i < 4; i++) {
                leadsToPeer(c, i, (renewed >> i & 1) == 1);
            }
        }
    }

    private static void permissionsLeft(Client c, int which, int seconds) {
        Edges.due("PERMISSIONS of " + which, c.x.allocation(0, 5), Integer.bitCount(which));
        for (int i = 0; i < 4; i++) {
            Edges.due("PERMISSION " + i + " of " + which, c.x.permission(0, 10 + i), (which >> i & 1) * seconds);
        }
    }

    private static void channelsLeft(Client c, int which, int seconds) {
        Edges.due("CHANNELS of " + which, c.x.allocation(0, 6), Integer.bitCount(which));
        for (int i = 0; i < 4; i++) {
            Edges.due("CHANNEL " + i + " of " + which, c.x.channel(0, 16384 + i), (which >> i & 1) * seconds);
        }
    }

    private static void leadsToPeer(Client c, int i, boolean is) {
        c.permit(10 + i);
        c.write(64, i, 0, 0);
        Edges.due("CHANNEL DATA by " + i, c.x.datagram(c.ip, c.port), is ? 1 : 0);
        Edges.due("to IP", c.x.sent(1), is ? 10 + i : 0);
        Edges.due("to PORT", c.x.sent(2), is ? 100 + i : 0);
        c.x.peer(49152, 10 + i, 100 + i);
        Edges.due("from the peer of " + i, c.x.sent(0), is ? 4 : 36);
    }

    // ---- answers

    private static void unknown() {
        Edges.term(19, "with 420 UNKNOWN (the STRANGE kinds in their order, at most 8, each once);");
        int[] kinds = {32767, 0, 5000, 1, 2, 3, 4, 5, 7, 8};
        for (int n = 1; n <= kinds.length; n++) {
            for (int times = 1; times <= 2; times++) {
                strangeKinds(Arrays.copyOf(kinds, n), times);
            }
        }
    }

    private static void strangeKinds(int[] kinds, int times) {
        Client c = new Client(new RelayHouse(), 1, 1);
        c.open(1, 1);
        for (int kind : kinds) {
            for (int i = 0; i < times; i++) {
                c.number(kind, i, 0).number(kinds[0], 0, 0).number(32768, 0, 0).number(6, 0, 0);
            }
        }
        int n = Math.min(8, kinds.length);
        Edges.due(kinds.length + " kinds, " + times + " of each", c.go(), 420);
        Edges.due("ERROR, UNKNOWN", c.x.sent(6), 2);
        Edges.due("UNKNOWN's size", c.x.attribute(1, 1), 2 * n);
        for (int i = 0; i < n; i++) {
            Edges.due("kind " + i, c.x.octet(32 + 2 * i) << 8 | c.x.octet(33 + 2 * i), kinds[i]);
        }
        Edges.due("all", c.x.sent(0), 32 + (2 * n + 3) / 4 * 4);
    }

    private static void bytesUpToFour() {
        Edges.term(19, "Bytes up to a multiple of four are 0.");
        String[] realms = {"1", "12", "123", "1234", "12345", "123456", "1234567", "12345678"};
        RelayHouse x = new RelayHouse();
        for (String realm : realms) {
            // What was SENT before has no byte 0 there.
            x.realm(Client.word("~~~~~~~~"));
            x.message(3, 1, 2, 3);
            x.datagram(1, 1);
            x.realm(Client.word(realm));
            x.message(3, 1, 2, 3);
            x.datagram(1, 1);
            int n = realm.length();
            Edges.due("REALM " + realm, x.attribute(1, 1), n);
            for (int i = n; i % 4 != 0; i++) {
                Edges.due("byte " + i, x.octet(x.attribute(1, 2) + i), 0);
            }
            Edges.due("NONCE behind it", x.attribute(2, 2), x.attribute(1, 2) + (n + 3) / 4 * 4 + 4);
        }
        RelayHouse y = new RelayHouse();
        y.realm(Client.word("~~~~~~~~"));
        y.fresh(-1);
        for (int n = 1; n <= 3; n++) {
            y.message(3, 1, 2, 3);
            y.datagram(1, 1);
            y.message(1, 1, 2, 3);
            for (int i = 0; i < n; i++) {
                y.number(30000 + i, 0, 0);
            }
            y.datagram(1, 1);
            Edges.due(n + " kinds", y.sent(0), n == 3 ? 40 : 36);
            Edges.due("the last two bytes", y.octet(y.sent(0) - 2) << 8 | y.octet(y.sent(0) - 1), n == 2 ? 30001 : 0);
        }
    }

    private static void answers() {
        Edges.term(19, "ANSWERS go to the client, from the SERVER's PORT: METHOD, CLASS 2 or 3, the same ID;");
        for (int id : new int[] {0, 1, -1, LEAST, MOST}) {
            RelayHouse x = new RelayHouse();
            x.message(1, id, ~id, id);
            x.datagram(id, 65535);
            Edges.due("to IP", x.sent(1), id);
            Edges.due("from PORT", x.sent(3), 3478);
            for (int i = 0; i < 12; i++) {
                Edges.due("ID's byte " + i, x.octet(8 + i), (i / 4 == 1 ? ~id : id) >>> 24 - i % 4 * 8 & 255);
            }
        }
        Edges.term(19, "with 401 and 438 REALM, NONCE behind ERROR;");
        for (long nonce : new long[] {0, 1, -1, Long.MIN_VALUE}) {
            Client c = Client.known();
            c.x.fresh(nonce);
            c.nonce = ~nonce;
            Edges.due("438", c.allocate(1), 438);
            holdsRealmAndNonce(c.x, nonce);
            Edges.due("401", c.open(3, 1).go(), 401);
            holdsRealmAndNonce(c.x, nonce);
        }
        Edges.term(19, "if signed INTEGRITY with that USER's KEY;");
        Client two = crowded(8);
        Edges.due("the other USER's 437", member(two, 8, 8).allocate(2), 437);
        Edges.holds("with its KEY", member(two, 8, 8).isSealed(1));
        Edges.due("441", member(two, 8, 1).refresh(0), 441);
        Edges.holds("with the asking one's KEY", member(two, 8, 1).isSealed(1));
        Edges.term(19, "at last a FINGERPRINT, if what came had one.");
        for (int method : new int[] {1, 2, 3, 4, 8, 9}) {
            Client c = Client.known();
            c.open(method, 1).credentials().sign().go();
            int without = c.x.sent(6);
            c.open(method, 1).credentials().sign().x.finger();
            c.go();
            Edges.due("METHOD " + method, c.x.sent(6), without + 1);
            Edges.holds("it is right, and last", c.isFingered(without));
        }
    }

    private static void holdsRealmAndNonce(RelayHouse x, long nonce) {
        Edges.due("ATTRIBUTES", x.sent(6), 3);
        Edges.due("REALM", x.attribute(1, 0) << 16 | x.attribute(1, 1) << 8 | x.attribute(1, 3), 20 << 16 | 1 << 8 | 'r');
        Edges.due("NONCE", x.attribute(2, 0) << 8 | x.attribute(2, 1), 21 << 8 | 8);
        for (int i = 0; i < 8; i++) {
            Edges.due("NONCE's byte " + i, x.octet(x.attribute(2, 2) + i), nonce >>> 56 - 8 * i & 255);
        }
    }
}
