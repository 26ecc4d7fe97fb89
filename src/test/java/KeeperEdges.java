import java.util.function.Supplier;

/** The boundary cases of promises 13 to 18: what the server's keeper sets. */
final class KeeperEdges {
    private static final int NONE = Edges.NONE;
    private static final int LEAST = Edges.LEAST;
    private static final int MOST = Edges.MOST;

    private KeeperEdges() {
    }

    static void run() {
        users();
        usersRefused();
        words();
        realm();
        realmRefused();
        fresh();
        part();
        partRefused();
        forbid();
        forbidRefused();
        tick();
        tickRefused();
        timeIsOver();
    }

    /** No byte at all, or one of those next to what is allowed, in each place of a word. */
    static long[] badWords() {
        int[] bytes = {1, 32, ':', 127, 128, 255};
        long[] words = new long[1 + 9 * bytes.length];
        for (int i = 0; i < bytes.length; i++) {
            words[1 + 9 * i] = bytes[i];
            for (int place = 0; place < 8; place++) {
                long rest = Client.word("abcdefgh") & ~(255L << 8 * place);
                words[2 + 9 * i + place] = rest | (long) bytes[i] << 8 * place;
            }
        }
        return words;
    }

    // ---- promise 13

    private static RelayHouse withUsers(int n) {
        RelayHouse x = Edges.busy();
        for (int i = 2; i < n; i++) {
            x.user('A' + i, 'p');
        }
        return x;
    }

    private static void users() {
        Edges.promise(13, "A USER, or another password for one of that name (its ALLOCATIONS stay): how many there "
                + "are.");
        RelayHouse x = new RelayHouse();
        for (int n = 1; n <= 8; n++) {
            Edges.due("USER " + n, x.user('A' + n, 'p'), n);
            Edges.due("count(1)", x.count(1), n);
        }
        Edges.due("another password for the first of 8", x.user('B', 'q'), 8);
        Edges.due("another password for the last of 8", x.user('I', 'q'), 8);
        x.part(8);
        for (int n = 1; n <= 8; n++) {
            Client c = new Client(x, 1, n).as("" + (char) ('A' + n), n == 1 || n == 8 ? "q" : "p");
            Edges.due("Allocate of USER " + n, c.allocate(1), 0);
            Edges.due("its number", x.allocation(n - 1, 2), n - 1);
        }
        Edges.due("the old password", new Client(x, 1, 1).as("B", "p").refresh(0), 401);
        x.user('B', 'r');
        Edges.due("the ALLOCATIONS stay", x.count(2), 8);
        Edges.due("the USER stays", new Client(x, 1, 1).as("B", "r").refresh(600), 0);
    }

    private static void usersRefused() {
        Edges.promise(13, "NONE: not as told, a 9th.");
        for (long word : badWords()) {
            Edges.refused("name " + word, x -> x.user(word, 'p'));
            Edges.refused("password " + word, x -> x.user('z', word));
            Edges.refused("another password " + word, x -> x.user(Client.word("an"), word));
        }
        Edges.due("the 8th", withUsers(7).user('9', 'p'), 8);
        Edges.refused("a 9th", () -> withUsers(8), x -> x.user('9', 'p'));
    }

    private static void words() {
        Edges.term(13, "Up to 8 USERS: name and password of 1 .. 8 bytes (longs, the bytes that aren't 0, the "
                + "highest first; no byte but 33 .. 126, and no \":\"; one is another one's if these bytes are)");
        for (String word : Edges.GOOD_WORDS) {
            Edges.due("named " + word, allocateAs(word, "p", "r"), 0);
            Edges.due("with password " + word, allocateAs("n", word, "r"), 0);
        }
        RelayHouse x = new RelayHouse();
        Edges.due("ab", x.user(Client.word("ab"), 'p'), 1);
        Edges.due("the same bytes, others 0 between", x.user(0x6100000000000062L, 'q'), 1);
        Edges.due("the same bytes, others 0 behind", x.user(0x6162000000000000L, 'q'), 1);
        Edges.due("other bytes", x.user(Client.word("ba"), 'q'), 2);
        Edges.due("fewer bytes", x.user('a', 'q'), 3);
        Edges.due("more bytes", x.user(Client.word("abb"), 'q'), 4);
        Client c = new Client(new RelayHouse(), 1, 1).as("ab", "cd");
        c.x.user(0x0000610000006200L, 0x6300000000000064L);
        Edges.due("bytes 0 are none when it comes", c.allocate(1), 0);
        int[][] others = {{'a'}, {'b'}, {'a', 'c'}, {'b', 'b'}, {'b', 'a'}, {0, 0},
            {0, 'a', 'b'}, {'a', 0, 'b'}, {'a', 'b', 0}};
        for (int[] name : others) {
            Edges.due("others that come", told(name, 'a', 'b'), 401);
            Edges.due("others that come as REALM", told(new int[] {'a', 'b'}, name), 401);
        }
        Edges.due("these that come", told(new int[] {'a', 'b'}, 'a', 'b'), 0);
    }

    /** An Allocate by USER "ab" in REALM "ab", who tells other bytes. */
    private static int told(int[] name, int... realm) {
        Client c = new Client(new RelayHouse(), 1, 1).as("ab", "p");
        c.x.user(Client.word("ab"), 'p');
        c.x.realm(Client.word("ab"));
        c.open(Client.ALLOCATE, 1).number(25, 4, Client.UDP).raw(6, name.length, name).raw(20, realm.length, realm);
        c.x.nonce(21, 0);
        return c.sign().go();
    }

    private static int allocateAs(String name, String password, String realm) {
        Client c = new Client(new RelayHouse(), 1, 1).as(name, password);
        Edges.due("user", c.x.user(Client.word(name), Client.word(password)), 1);
        Edges.due("realm", c.x.realm(Client.word(realm)), 1);
        c.realm = realm;
        int answer = c.allocate(1);
        Edges.holds("the answer is signed", c.isSealed(3));
        return answer;
    }

    // ---- promise 14

    private static void realm() {
        Edges.promise(14, "REALM; how many USERS there are.");
        RelayHouse x = new RelayHouse();
        Edges.due("with none", x.realm('a'), 0);
        x.user('a', 'a');
        Edges.due("with one", x.realm('b'), 1);
        Edges.due("with 8", withUsers(8).realm('b'), 8);
        for (String word : Edges.GOOD_WORDS) {
            Edges.due("REALM " + word, allocateAs("n", "p", word), 0);
        }
    }

    private static void realmRefused() {
        Edges.promise(14, "NONE: not as told.");
        for (long word : badWords()) {
            Edges.refused("realm " + word, x -> x.realm(word));
        }
    }

    // ---- promise 15

    private static void fresh() {
        Edges.promise(15, "NONCE becomes v: 0.");
        for (long v : new long[] {0, 1, -1, Long.MIN_VALUE, Long.MAX_VALUE, 0x80000000L, 0xffffffffL, 1L << 32}) {
            Client c = Client.known();
            c.x.fresh(~v);
            Edges.due("fresh(" + v + ")", c.x.fresh(v), 0);
            c.nonce = v;
            Edges.due("with it", c.allocate(1), 0);
            for (int bit = 0; bit < 64; bit += 9) {
                c.nonce = v ^ 1L << bit;
                Edges.due("with bit " + bit + " of it turned", c.refresh(600), 438);
            }
        }
    }

    // ---- promise 16

    private static void part() {
        Edges.promise(16, "How many ALLOCATIONS each USER may have, 0 .. 8: what it was;");
        RelayHouse x = new RelayHouse();
        int was = 2;
        for (int n : new int[] {0, 8, 1, 7, 7, 0}) {
            Edges.due("part(" + n + ")", x.part(n), was);
            was = n;
        }
        for (int n = 0; n <= 8; n++) {
            Client c = Client.known();
            c.x.user('b', 'b');
            c.x.part(n);
            for (int i = 1; i <= n; i++) {
                Edges.due("part " + n + ", ALLOCATION " + i, c.at(i).allocate(1), 0);
            }
            Edges.due("part " + n + ", one more", c.at(9).allocate(1), 486);
            Edges.due("part " + n + ", another USER's", c.at(9).as("b", "b").allocate(1), n == 0 ? 486 : n == 8 ? 508 : 0);
        }
        Client c = Client.known();
        c.allocate(1);
        c.at(1).allocate(1);
        c.x.part(1);
        Edges.due("fewer than there are: they stay", c.x.count(2), 2);
        Edges.due("fewer than there are", c.at(2).allocate(1), 486);
        c.refresh(0);
        Edges.due("as many as there are", c.at(2).allocate(1), 486);
        c.at(1).refresh(0);
        Edges.due("one fewer", c.at(2).allocate(1), 0);
    }

    private static void partRefused() {
        Edges.promise(16, "NONE.");
        for (int n : new int[] {-1, 9, LEAST, MOST}) {
            Edges.refused("part(" + n + ")", x -> x.part(n));
        }
    }

    // ---- promise 17

    private static int asked(int ip, int bits, int peer) {
        Client c = Client.known();
        c.allocate(1);
        c.x.forbid(ip, bits);
        int answer = c.permit(peer);
        Edges.due("ChannelBind likewise", c.bind(16384, peer, 1), answer);
        return answer;
    }

    private static void forbid() {
        Edges.promise(17, "IPs whose upper bits (0 .. 32) are those of ip are FORBIDDEN: how many such there are;");
        for (int ip : new int[] {0x5a5a5a5a, 0, -1, LEAST}) {
            for (int bits = 0; bits <= 32; bits++) {
                Edges.due("the same as " + ip + " in " + bits, asked(ip, bits, ip), 403);
                if (bits < 32) {
                    Edges.due("the same in " + bits + " alone", asked(ip, bits, ip ^ 1 << 31 - bits), 403);
                    Edges.due("all others are other", asked(ip, bits, ip ^ (int) (0xffffffffL >>> bits)), 403);
                }
                if (bits > 0) {
                    Edges.due("the last of " + bits + " is another", asked(ip, bits, ip ^ 1 << 32 - bits), 0);
                    Edges.due("the first of " + bits + " is another", asked(ip, bits, ip ^ 1 << 31), 0);
                }
            }
        }
        RelayHouse x = new RelayHouse();
        for (int n = 1; n <= 4; n++) {
            Edges.due("number " + n, x.forbid(n, n == 4 ? 0 : 32), n);
        }
    }

    private static RelayHouse withFour() {
        RelayHouse x = Edges.busy();
        x.forbid(0x0d000000, 8);
        x.forbid(0x0e000000, 8);
        x.forbid(0x0f000000, 8);
        return x;
    }

    private static void forbidRefused() {
        Edges.promise(17, "NONE for other bits, a 5th.");
        for (int bits : new int[] {-1, 33, 64, LEAST, MOST}) {
            Edges.refused("bits " + bits, x -> x.forbid(12, bits));
        }
        Edges.refused("a 5th", KeeperEdges::withFour, x -> x.forbid(12, 32));
        Edges.refused("a 5th, of all", KeeperEdges::withFour, x -> x.forbid(0, 0));
        Edges.due("the first of four stays", Edges.guest(withFour()).permit(0x0b000001), 403);
        Edges.due("the last of four is one", Edges.guest(withFour()).permit(0x0f000001), 403);
    }

    // ---- promise 18

    private static void tick() {
        Edges.promise(18, "TIME grows by n (0 .. 10,000): how many ALLOCATIONS are over by it;");
        RelayHouse x = new RelayHouse();
        Edges.due("tick(0)", x.tick(0), 0);
        Edges.due("TIME", x.count(0), 0);
        Edges.due("tick(1)", x.tick(1), 0);
        Edges.due("TIME", x.count(0), 1);
        Edges.due("tick(9999)", x.tick(9999), 0);
        Edges.due("tick(10000)", x.tick(10000), 0);
        Edges.due("TIME", x.count(0), 20000);
        for (int n = 0; n <= 8; n++) {
            Client c = Client.known();
            c.x.part(8);
            for (int i = 1; i <= 8; i++) {
                c.at(i).allocate(1, i <= n ? 600 : 601);
            }
            Edges.due("a second ahead", c.x.tick(599), 0);
            Edges.due("none is over by it", c.x.tick(0), 0);
            Edges.due(n + " of 8", c.x.tick(1), n);
            Edges.due("they were over already", c.x.tick(0), 0);
            Edges.due("the others", c.x.tick(10000), 8 - n);
            Edges.due("none is left", c.x.tick(10000), 0);
        }
        Client c = Client.known();
        c.allocate(1);
        c.refresh(0);
        Edges.due("one that a Refresh ended", c.x.tick(10000), 0);
    }

    private static void tickRefused() {
        Edges.promise(18, "NONE.");
        for (int n : new int[] {-1, 10001, LEAST, MOST}) {
            Edges.refused("tick(" + n + ")", x -> x.tick(n));
        }
    }

    private static void timeIsOver() {
        Edges.term(18, "till when it is there (not then any more)");
        Supplier<Client> late = () -> {
            Client c = Client.known();
            c.allocate(1);
            c.x.tick(590);
            c.bind(16384, 5, 50);
            c.x.tick(9);
            return c;
        };
        Client c = late.get();
        Edges.due("a second ahead: seconds left", c.x.allocation(0, 4), 1);
        Edges.due("its PERMISSION", c.x.permission(0, 5), 291);
        Edges.due("its CHANNEL", c.x.channel(0, 16384), 591);
        Edges.due("from a peer", c.x.peer(49152, 5, 50), 1);
        Edges.due("Refresh", late.get().refresh(600), 0);
        Edges.due("Allocate of another ID", late.get().allocate(2), 437);
        c.x.tick(1);
        Edges.due("then: no ALLOCATION", c.x.count(2), 0);
        Edges.due("nor what it was", c.x.allocation(0, 4), NONE);
        Edges.due("its PERMISSION", c.x.permission(0, 5), 0);
        Edges.due("its CHANNEL", c.x.channel(0, 16384), 0);
        Edges.due("from a peer", c.x.peer(49152, 5, 50), 0);
        c.write(64, 0, 0, 0);
        Edges.due("CHANNEL DATA", c.go(), NONE);
        c.x.message(Client.SEND | 16, 1, 2, 3);
        Edges.due("Send", c.peer(5, 50).number(19, 0, 0).go(), NONE);
        Edges.due("Refresh", c.refresh(600), 437);
        Edges.due("CreatePermission", c.permit(5), 437);
        Edges.due("ChannelBind", c.bind(16384, 5, 50), 437);
        Edges.due("Allocate of the same ID makes a new one", c.allocate(1), 0);
        Edges.due("its seconds", c.x.allocation(0, 4), 600);
        Edges.due("without the PERMISSION", c.x.permission(0, 5), 0);
        Edges.due("without the CHANNEL", c.x.channel(0, 16384), 0);
    }
}
