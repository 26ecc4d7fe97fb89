import java.util.Map;
import java.util.Random;
import java.util.TreeMap;

/** Runs of random calls, each with the model's answer; the seeds are told, so that each run can be had again. */
public final class ModelTest {
    private static final int RUNS = 12000;
    // For so many calls the document speaks of an object. No move makes more than the rest.
    private static final int MOST_CALLS = 512;
    private static final int LAST_MOVE = 440;
    private static final int LOOKS_BEHIND_A_MOVE = 3;
    private static final int[] LIMITS = {
        Integer.MIN_VALUE, -1, 0, 1, 4, 5, 7, 8, 9, 10, 19, 20, 32, 33, 255, 256, 399, 400, 401, 10000, 10001, 16383, 16384,
        20479, 20480, 49152, 65535, 65536, Integer.MAX_VALUE
    };
    private static final String[] WORDS = {"an", "b", "cee", "r", "p1", "12345678", "~"};
    private static final String[] MUST_BE_SEEN = {
        "1 fine", "1 420", "other 400", "3 fine", "3 400", "3 401", "3 420", "3 437", "3 438", "3 442", "3 486", "3 508",
        "4 fine", "4 401", "4 420", "4 437", "4 441", "8 fine", "8 400", "8 403", "8 437", "8 441", "8 508",
        "9 fine", "9 400", "9 403", "9 437", "9 441", "9 508", "send", "data indication", "channel data to peer",
        "channel data from peer", "wrong fingerprint", "allocated already"
    };

    private static final Map<String, Integer> seen = new TreeMap<>();
    private static Random random;
    private static RelayHouse x;
    private static Model m;
    private static int run;
    private static int calls;
    private static long nonce;
    private static String realm;
    private static Map<String, String> known;

    public static void main(String[] args) {
        for (run = 1; run <= RUNS; run++) {
            random = new Random(run);
            x = new RelayHouse();
            m = new Model(seen);
            nonce = 0;
            realm = "r";
            known = new TreeMap<>();
            calls = 0;
            begin();
            while (calls < LAST_MOVE) {
                move();
            }
            Checks.due("run " + run + ": room for looks", calls < MOST_CALLS ? 1 : 0, 1);
            while (calls < MOST_CALLS) {
                look();
            }
        }
        for (String one : MUST_BE_SEEN) {
            Checks.due("seen: " + one, seen.containsKey(one) ? 1 : 0, 1);
        }
        System.out.println(seen);
        Checks.close();
    }

    private static void both(String call, int got, int want) {
        calls++;
        Checks.due("run " + run + ": " + call, got, want);
    }

    private static boolean chance(int percent) {
        return random.nextInt(100) < percent;
    }

    private static String anyWord() {
        return WORDS[random.nextInt(WORDS.length)];
    }

    // One client of one USER comes so often that it meets the limits of its ALLOCATION.
    private static boolean isLonely() {
        return run % 4 == 0;
    }

    // Clients of two USERS come from so many PORTS that none is free for some of them.
    private static boolean isCrowded() {
        return run % 5 == 1 && !isLonely();
    }

    // A run is short, so that most begin with what else would take many moves.
    private static void begin() {
        if (chance(90)) {
            enter(anyName(), anyWord());
        }
        if (isCrowded()) {
            enter("b", anyWord());
            both("part(8)", x.part(8), m.part(8));
        }
        int first = isCrowded() ? 12 : random.nextInt(4);
        for (int i = 0; i < first && !known.isEmpty(); i++) {
            open(3, i);
            number(25, 4, 17 << 24);
            credentials();
            step();
        }
    }

    private static String anyName() {
        return isLonely() ? "an" : isCrowded() ? WORDS[random.nextInt(2)] : anyWord();
    }

    private static void enter(String name, String password) {
        int got = x.user(Client.word(name), Client.word(password));
        both("user", got, m.user(Client.word(name), Client.word(password)));
        if (got != RelayHouse.NONE) {
            known.put(name, password);
        }
    }

    private static int anyIp() {
        return chance(95) ? 0x0a000000 + random.nextInt(run % 3 == 0 ? 24 : 6) : random.nextInt();
    }

    private static int anyPort() {
        return chance(95) ? 1 + random.nextInt(run % 3 == 1 ? 12 : 3)
                : chance(60) ? random.nextInt(65536) : random.nextInt();
    }

    private static int clientIp() {
        return 0x0b000000 + random.nextInt(isLonely() ? 1 : 2);
    }

    private static int clientPort() {
        return 1 + random.nextInt(isLonely() ? 1 : isCrowded() ? 12 : run % 2 == 0 ? 2 : 6);
    }

    private static int anyNumber() {
        return chance(90) ? 16384 + random.nextInt(run % 3 == 1 ? 12 : 4)
                : chance(50) ? 20479 + random.nextInt(2) : random.nextInt(65536);
    }

    private static void move() {
        int dice = random.nextInt(100);
        if (chance(5)) {
            wild(anyLimit(), anyLimit(), anyLimit());
        } else if (dice < 14) {
            setting();
        } else if (dice < 70) {
            request();
        } else if (dice < 78) {
            raw();
        } else if (dice < 84) {
            channelData();
            step();
        } else if (dice < 92) {
            raw();
            fromPeer();
        } else if (dice < 97) {
            sendIndication();
            step();
        } else {
            int n = chance(isLonely() ? 97 : 70) ? random.nextInt(320) : random.nextInt(10100) - 50;
            both("tick(" + n + ")", x.tick(n), m.tick(n));
        }
        for (int i = 0; i < LOOKS_BEHIND_A_MOVE; i++) {
            look();
        }
    }

    private static void setting() {
        switch (random.nextInt(8)) {
            case 0:
            case 1:
            case 2:
                enter(anyName(), anyWord());
                break;
            case 3: {
                long name = chance(30) ? Client.word(isLonely() ? "an" : anyWord()) : random.nextLong();
                long password = chance(70) ? Client.word(anyWord()) : random.nextInt(300);
                both("user", x.user(name, password), m.user(name, password));
                break;
            }
            case 4: {
                String word = chance(70) ? realm : anyWord();
                both("realm", x.realm(Client.word(word)), m.realm(Client.word(word)));
                realm = word;
                break;
            }
            case 5: {
                nonce = chance(70) ? nonce : random.nextLong();
                both("fresh", x.fresh(nonce), m.fresh(nonce));
                break;
            }
            case 6: {
                int n = isCrowded() ? 8 : chance(80) ? 2 + random.nextInt(7) : random.nextInt(12) - 2;
                both("part(" + n + ")", x.part(n), m.part(n));
                break;
            }
            default: {
                int ip = anyIp();
                int bits = chance(90) ? 28 + random.nextInt(6) : random.nextInt(40) - 4;
                if (chance(15)) {
                    both("forbid(" + ip + ", " + bits + ")", x.forbid(ip, bits), m.forbid(ip, bits));
                }
            }
        }
    }

    private static void open(int type, int id) {
        both("message(" + type + ")", x.message(type, 1, 2, id), m.message(type, 1, 2, id));
    }

    private static void number(int kind, int size, int v) {
        both("number(" + kind + ", " + size + ")", x.number(kind, size, v), m.number(kind, size, v));
    }

    private static void text(int kind, long a, long b) {
        both("text(" + kind + ")", x.text(kind, a, b), m.text(kind, a, b));
    }

    private static void nonce(int kind, long v) {
        both("nonce(" + kind + ")", x.nonce(kind, v), m.nonce(kind, v));
    }

    private static void address(int kind, int ip, int port) {
        both("address(" + kind + ")", x.address(kind, ip, port), m.address(kind, ip, port));
    }

    private static void finger() {
        both("finger", x.finger(), m.finger());
    }

    private static void oddAttribute() {
        int[] kinds = {6, 9, 10, 12, 13, 18, 19, 20, 21, 22, 25, 28, 32, 32808, 4660, 0, 32767, 32768, 65535};
        int kind = kinds[random.nextInt(kinds.length)];
        switch (random.nextInt(4)) {
            case 0:
                number(kind, random.nextInt(5), random.nextInt());
                break;
            case 1:
                text(kind, random.nextLong() & random.nextLong(), chance(50) ? 0 : 7);
                break;
            case 2:
                nonce(kind, random.nextLong() & 0x00ff_ffff_ffff_ffffL);
                break;
            default:
                address(kind, anyIp(), anyPort());
        }
    }

    private static void own(int method) {
        if (method == 3 && chance(95)) {
            number(25, 4, chance(95) ? 17 << 24 | random.nextInt(9) : 6 << 24);
        }
        if ((method == 3 || method == 4) && chance(50)) {
            number(13, 4, chance(80) ? random.nextInt(5000) : chance(50) ? 0 : random.nextInt());
        }
        if (method == 8) {
            int n = run % 3 == 0 ? random.nextInt(20) : chance(90) ? 1 + random.nextInt(2) : 0;
            for (int i = 0; i < n; i++) {
                address(18, anyIp(), anyPort());
            }
        }
        if (method == 9) {
            if (chance(95)) {
                number(12, 4, anyNumber() << 16 | random.nextInt(3));
            }
            if (chance(95)) {
                address(18, anyIp(), anyPort());
            }
        }
    }

    private static void request() {
        int[] methods = {1, 2, 3, 3, 3, 3, 4, 4, 8, 8, 8, 9, 9, 9, 9};
        int method = isCrowded() && chance(60) ? 3 : methods[random.nextInt(methods.length)];
        open(chance(97) ? method : random.nextInt(16384), random.nextInt(3));
        own(method);
        if (chance(8)) {
            oddAttribute();
        }
        if (method != 1 || chance(10)) {
            credentials();
        }
        if (chance(8)) {
            oddAttribute();
        }
        if (chance(30)) {
            finger();
        }
        if (chance(2)) {
            oddAttribute();
        }
        if (chance(4)) {
            alter();
        }
        step();
    }

    private static void credentials() {
        String name = chance(95) && !known.isEmpty()
                ? known.keySet().toArray(new String[0])[random.nextInt(known.size())] : anyWord();
        String password = chance(97) && known.containsKey(name) ? known.get(name) : anyWord();
        if (chance(98)) {
            text(6, Client.word(name), 0);
        }
        if (chance(98)) {
            text(20, Client.word(chance(97) ? realm : anyWord()), 0);
        }
        if (chance(98)) {
            nonce(21, chance(97) ? nonce : random.nextLong());
        }
        if (chance(97)) {
            both("sign", x.sign(Client.word(name), Client.word(password)), m.sign(Client.word(name), Client.word(password)));
        } else {
            long word = random.nextLong();
            both("sign", x.sign(word, 'a'), m.sign(word, 'a'));
        }
    }

    private static void alter() {
        int i = chance(90) ? random.nextInt(m.count(3) + 1) : random.nextInt();
        int mask = chance(90) ? 1 << random.nextInt(8) : random.nextInt(600) - 200;
        both("alter(" + i + ", " + mask + ")", x.alter(i, mask), m.alter(i, mask));
    }

    private static void raw() {
        if (chance(40)) {
            both("end(0)", x.end(0), m.end(0));
        }
        int n = chance(95) ? random.nextInt(3) : random.nextInt(25);
        for (int i = 0; i < n; i++) {
            int a = random.nextInt();
            both("feed", x.feed(a, i, ~a, run, -1), m.feed(a, i, ~a, run, -1));
        }
        int end = random.nextInt(m.count(3) + 3) - 1;
        both("end(" + end + ")", x.end(end), m.end(end));
        if (chance(20)) {
            oddAttribute();
        }
    }

    private static void channelData() {
        int size = chance(95) ? random.nextInt(17) : random.nextInt(65536);
        int number = anyNumber();
        int word = number << 16 | size;
        both("end(0)", x.end(0), m.end(0));
        both("feed", x.feed(word, 1, 2, 3, 4), m.feed(word, 1, 2, 3, 4));
        int end = chance(90) ? Math.min(20, 4 + size + random.nextInt(4)) : random.nextInt(21);
        both("end(" + end + ")", x.end(end), m.end(end));
    }

    private static void sendIndication() {
        open(6 | 16, random.nextInt());
        if (chance(97)) {
            address(18, anyIp(), chance(80) ? anyPort() : 0);
        }
        if (chance(97)) {
            text(19, random.nextLong(), random.nextLong());
        }
        if (chance(5)) {
            oddAttribute();
        }
        if (chance(20)) {
            finger();
        }
    }

    private static void step() {
        int ip = clientIp();
        int port = chance(99) ? clientPort() : random.nextInt(70000) - 2000;
        both("datagram(" + ip + ", " + port + ")", x.datagram(ip, port), m.datagram(ip, port));
    }

    private static void fromPeer() {
        int relayed = chance(95) ? 49152 + random.nextInt(isLonely() ? 1 : 4) : random.nextInt();
        int ip = anyIp();
        int port = anyPort();
        both("peer(" + relayed + ", " + ip + ", " + port + ")", x.peer(relayed, ip, port), m.peer(relayed, ip, port));
    }

    private static int anyLimit() {
        return LIMITS[random.nextInt(LIMITS.length)];
    }

    // Each call of the face, with arguments at the limits.
    private static void wild(int a, int b, int c) {
        String with = "(" + a + ", " + b + ", " + c + ")";
        long word = (long) a << 32 | b;
        switch (random.nextInt(26)) {
            case 0 -> both("feed" + with, x.feed(a, b, c, b, a), m.feed(a, b, c, b, a));
            case 1 -> both("end" + with, x.end(a), m.end(a));
            case 2 -> both("message" + with, x.message(a, b, c, b), m.message(a, b, c, b));
            case 3 -> number(a, b, c);
            case 4 -> text(a, word, c);
            case 5 -> nonce(a, word);
            case 6 -> address(a, b, c);
            case 7 -> both("sign" + with, x.sign(word, c), m.sign(word, c));
            case 8 -> both("tape" + with, x.tape(a), m.tape(a));
            case 9 -> both("alter" + with, x.alter(a, b), m.alter(a, b));
            case 10 -> both("part" + with, x.part(a), m.part(a));
            case 11 -> both("datagram" + with, x.datagram(a, b), m.datagram(a, b));
            case 12 -> both("peer" + with, x.peer(a, b, c), m.peer(a, b, c));
            case 13 -> both("octet" + with, x.octet(a), m.octet(a));
            case 14 -> both("attribute" + with, x.attribute(a, b), m.attribute(a, b));
            case 15 -> both("allocation" + with, x.allocation(a, b), m.allocation(a, b));
            case 16 -> both("permission" + with, x.permission(a, b), m.permission(a, b));
            case 17 -> both("channel" + with, x.channel(a, b), m.channel(a, b));
            case 18 -> finger();
            case 19 -> both("user" + with, x.user(word, c), m.user(word, c));
            case 20 -> both("realm" + with, x.realm(word), m.realm(word));
            case 21 -> {
                nonce = word;
                both("fresh" + with, x.fresh(word), m.fresh(word));
            }
            case 22 -> both("forbid" + with, x.forbid(a, b), m.forbid(a, b));
            case 23 -> both("tick" + with, x.tick(a), m.tick(a));
            case 24 -> both("sent" + with, x.sent(a), m.sent(a));
            default -> both("count" + with, x.count(a), m.count(a));
        }
    }

    private static void look() {
        int what = random.nextInt(10) - 1;
        int k = random.nextInt(10) - 1;
        switch (random.nextInt(8)) {
            case 0:
                what = random.nextInt(12) - 1;
                both("count(" + what + ")", x.count(what), m.count(what));
                break;
            case 1:
                both("sent(" + what + ")", x.sent(what), m.sent(what));
                break;
            case 2: {
                int i = random.nextInt(m.sent(0) + 2) - 1;
                both("octet(" + i + ")", x.octet(i), m.octet(i));
                break;
            }
            case 3: {
                int i = random.nextInt(m.count(3) + 2) - 1;
                both("tape(" + i + ")", x.tape(i), m.tape(i));
                break;
            }
            case 4: {
                int i = random.nextInt(m.sent(6) + 2) - 1;
                both("attribute(" + i + ", " + what + ")", x.attribute(i, what), m.attribute(i, what));
                break;
            }
            case 5:
                both("allocation(" + k + ", " + what + ")", x.allocation(k, what), m.allocation(k, what));
                break;
            case 6: {
                int ip = 0x0a000000 + random.nextInt(24);
                both("permission(" + k + ", " + ip + ")", x.permission(k, ip), m.permission(k, ip));
                break;
            }
            default: {
                int number = 16384 + random.nextInt(12);
                both("channel(" + k + ", " + number + ")", x.channel(k, number), m.channel(k, number));
            }
        }
    }
}
