import java.util.Arrays;

/** Promises 1 to 12: a new object, and the desk. */
public final class DeskTest {
    private static final int NONE = RelayHouse.NONE;

    public static void main(String[] args) {
        newObject();
        feed();
        end();
        message();
        number();
        text();
        nonce();
        address();
        sign();
        finger();
        tape();
        alter();
        roomAndShape();
        Checks.close();
    }

    private static void newObject() {
        RelayHouse x = new RelayHouse();
        for (int what = 0; what <= 9; what++) {
            Checks.due("new: count(" + what + ")", x.count(what), 0);
        }
        for (int what = 0; what <= 6; what++) {
            Checks.due("new: sent(" + what + ")", x.sent(what), 0);
            Checks.due("new: attribute(0, " + what + ")", x.attribute(0, what), NONE);
            for (int k = 0; k < 8; k++) {
                Checks.due("new: allocation(" + k + ", " + what + ")", x.allocation(k, what), NONE);
            }
        }
        Checks.due("new: octet(0)", x.octet(0), NONE);
        Checks.due("new: tape(0)", x.tape(0), NONE);
        Checks.due("new: permission(0, 0)", x.permission(0, 0), 0);
        Checks.due("new: channel(0, 0)", x.channel(0, 0), 0);
    }

    private static void bytes(String call, RelayHouse x, int from, int... want) {
        for (int i = 0; i < want.length; i++) {
            Checks.due(call + ": tape(" + (from + i) + ")", x.tape(from + i), want[i]);
        }
    }

    private static void feed() {
        RelayHouse x = new RelayHouse();
        Checks.due("feed", x.feed(0x01020304, -1, 0x80000000, 0, 0xfedcba98), 20);
        bytes("feed", x, 0, 1, 2, 3, 4, 255, 255, 255, 255, 128, 0, 0, 0, 0, 0, 0, 0, 254, 220, 186, 152, NONE);
        for (int n = 40; n <= 400; n += 20) {
            Checks.due("feed up to " + n, x.feed(1, 2, 3, 4, 5), n);
        }
        Checks.due("feed beyond 400", x.feed(1, 2, 3, 4, 5), NONE);
        Checks.due("and nothing changes", x.count(3), 400);
        Checks.due("end(381)", x.end(381), 381);
        Checks.due("feed to 401", x.feed(1, 2, 3, 4, 5), NONE);
        Checks.due("end(380)", x.end(380), 380);
        Checks.due("feed to 400", x.feed(1, 2, 3, 4, 5), 400);
    }

    private static void end() {
        RelayHouse x = new RelayHouse();
        Checks.due("end(0) of an empty one", x.end(0), 0);
        Checks.due("end(1) of an empty one", x.end(1), NONE);
        x.feed(0x01020304, 0x05060708, 0, 0, 0x090a0b0c);
        Checks.due("end(21)", x.end(21), NONE);
        Checks.due("end(-1)", x.end(-1), NONE);
        Checks.due("end(20)", x.end(20), 20);
        Checks.due("end(6)", x.end(6), 6);
        bytes("end", x, 0, 1, 2, 3, 4, 5, 6, NONE);
        Checks.due("end(7) does not come back", x.end(7), NONE);
        Checks.due("feed behind 6", x.feed(0x0d0e0f10, 0, 0, 0, 0), 26);
        bytes("feed behind 6", x, 5, 6, 13, 14, 15, 16);
    }

    private static void message() {
        RelayHouse x = new RelayHouse();
        x.feed(9, 9, 9, 9, 9);
        x.feed(9, 9, 9, 9, 9);
        Checks.due("message(-1)", x.message(-1, 1, 2, 3), NONE);
        Checks.due("message(16384)", x.message(16384, 1, 2, 3), NONE);
        Checks.due("refused: the TAPE stays", x.count(3), 40);
        Checks.due("message(16383)", x.message(16383, 0x01020304, 0x85060708, -2), 20);
        bytes("message", x, 0, 63, 255, 0, 0, 33, 18, 164, 66, 1, 2, 3, 4, 133, 6, 7, 8, 255, 255, 255, 254, NONE);
        Checks.due("message(0)", x.message(0, 0, 0, 0), 20);
        bytes("message(0)", x, 0, 0, 0, 0, 0, 33);
    }

    private static void number() {
        RelayHouse x = new RelayHouse();
        Checks.due("number on nothing", x.number(1, 4, 1), NONE);
        x.message(1, 1, 2, 3);
        Checks.due("size 0", x.number(65535, 0, 7), 24);
        bytes("size 0", x, 20, 255, 255, 0, 0, NONE);
        bytes("size 0", x, 2, 0, 4);
        Checks.due("size 1", x.number(0, 1, 0x01020304), 32);
        bytes("size 1", x, 24, 0, 0, 0, 1, 4, 0, 0, 0, NONE);
        Checks.due("size 2", x.number(258, 2, 0x01020304), 40);
        bytes("size 2", x, 32, 1, 2, 0, 2, 3, 4, 0, 0, NONE);
        Checks.due("size 3", x.number(3, 3, 0x01020304), 48);
        bytes("size 3", x, 40, 0, 3, 0, 3, 2, 3, 4, 0, NONE);
        Checks.due("size 4", x.number(3, 4, -16909061), 56);
        bytes("size 4", x, 48, 0, 3, 0, 4, 254, 253, 252, 251, NONE);
        bytes("LENGTH", x, 2, 0, 36);
        Checks.due("kind -1", x.number(-1, 4, 1), NONE);
        Checks.due("kind 65536", x.number(65536, 4, 1), NONE);
        Checks.due("size -1", x.number(1, -1, 1), NONE);
        Checks.due("size 5", x.number(1, 5, 1), NONE);
        Checks.due("refused: the TAPE stays", x.count(3), 56);
        bytes("refused: LENGTH stays", x, 2, 0, 36);
        for (int n = 64; n <= 400; n += 8) {
            Checks.due("up to " + n, x.number(1, 4, 1), n);
        }
        bytes("LENGTH 380", x, 2, 1, 124);
    }

    private static void text() {
        RelayHouse x = new RelayHouse();
        x.message(1, 1, 2, 3);
        Checks.due("text", x.text(6, 0x6100620000630000L, 0x00ff000000000080L), 32);
        bytes("text", x, 20, 0, 6, 0, 5, 97, 98, 99, 255, 128, 0, 0, 0, NONE);
        Checks.due("text of none", x.text(7, 0, 0), 36);
        bytes("text of none", x, 32, 0, 7, 0, 0, NONE);
        Checks.due("text of 16", x.text(8, 0x0102030405060708L, -1L), 56);
        bytes("text of 16", x, 36, 0, 8, 0, 16, 1, 2, 3, 4, 5, 6, 7, 8, 255);
        bytes("LENGTH", x, 2, 0, 36);
        Checks.due("kind -1", x.text(-1, 1, 1), NONE);
        Checks.due("kind 65536", x.text(65536, 1, 1), NONE);
    }

    private static void nonce() {
        RelayHouse x = new RelayHouse();
        x.message(1, 1, 2, 3);
        Checks.due("nonce", x.nonce(21, 0x8000010203000405L), 32);
        bytes("nonce", x, 20, 0, 21, 0, 8, 128, 0, 1, 2, 3, 0, 4, 5, NONE);
        Checks.due("nonce 0", x.nonce(65535, 0), 44);
        bytes("nonce 0", x, 32, 255, 255, 0, 8, 0, 0, 0, 0, 0, 0, 0, 0, NONE);
        bytes("LENGTH", x, 2, 0, 24);
        Checks.due("kind -1", x.nonce(-1, 1), NONE);
        Checks.due("kind 65536", x.nonce(65536, 1), NONE);
    }

    private static void address() {
        RelayHouse x = new RelayHouse();
        x.message(1, 1, 2, 3);
        Checks.due("address", x.address(18, 0, 0), 32);
        bytes("address", x, 20, 0, 18, 0, 8, 0, 1, 33, 18, 33, 18, 164, 66, NONE);
        Checks.due("address of all bits", x.address(18, -1, 65535), 44);
        bytes("address of all bits", x, 36, 0, 1, 222, 237, 222, 237, 91, 189, NONE);
        Checks.due("PORT -1", x.address(18, 1, -1), NONE);
        Checks.due("PORT 65536", x.address(18, 1, 65536), NONE);
        Checks.due("kind -1", x.address(-1, 1, 1), NONE);
        Checks.due("kind 65536", x.address(65536, 1, 1), NONE);
        Checks.due("refused: the TAPE stays", x.count(3), 44);
    }

    private static void seal(RelayHouse x, String name, String realm, String password) {
        byte[] ahead = Client.tapeOf(x);
        int before = ahead.length;
        Checks.due("sign", x.sign(Client.word(name), Client.word(password)), before + 36);
        bytes("sign", x, before, 0, 28, 0, 32);
        Checks.due("LENGTH", x.tape(2) << 8 | x.tape(3), before + 36 - 20);
        byte[] due = Client.mac(ahead, name, realm, password);
        for (int i = 0; i < 32; i++) {
            Checks.due("INTEGRITY behind " + before + ", byte " + i, x.tape(before + 4 + i), due[i] & 255);
        }
    }

    private static void fill(RelayHouse x, int n) {
        for (int i = 0; i < n; i += 20) {
            x.feed(i * 97, -i, ~i, i << 24, n);
        }
        x.end(n);
    }

    private static void sign() {
        RelayHouse x = new RelayHouse();
        x.message(3, 1, 2, 3);
        seal(x, "an", "r", "p1");
        seal(x, "!~345678", "r", "a");
        x.realm(Client.word("realm.88"));
        seal(x, "a", "realm.88", "12345678");
        // Every length of text that SHA-256 may end with.
        for (int n = 20; n <= 364; n += 4) {
            RelayHouse y = new RelayHouse();
            y.realm(Client.word("realm.88"));
            fill(y, n);
            seal(y, "u", "realm.88", "w");
        }
        x = new RelayHouse();
        x.message(3, 1, 2, 3);
        long[] bad = {0, 32, 127, ':', 255, Client.word("a b"), Client.word("a:b"), -1L, 0x6100000000000001L};
        for (long word : bad) {
            Checks.due("sign as " + word, x.sign(word, 'a'), NONE);
            Checks.due("sign with " + word, x.sign('a', word), NONE);
        }
        Checks.due("refused: the TAPE stays", x.count(3), 20);
        x.sign(0x6100006200000000L, 0x0000630000000000L);
        byte[] spread = Client.tapeOf(x);
        x.message(3, 1, 2, 3);
        x.sign(Client.word("ab"), 'c');
        Checks.due("bytes 0 are none", Arrays.equals(spread, Client.tapeOf(x)) ? 1 : 0, 1);
        Checks.due("33 and 126 are fine", x.sign(33, 126), 92);
    }

    private static void finger() {
        Checks.due("finger on nothing", new RelayHouse().finger(), NONE);
        for (int n = 28; n <= 400; n += 12) {
            RelayHouse x = new RelayHouse();
            fill(x, n - 8);
            Checks.due("finger", x.finger(), n);
            bytes("finger", x, n - 8, 128, 40, 0, 4);
            int got = x.tape(n - 4) << 24 | x.tape(n - 3) << 16 | x.tape(n - 2) << 8 | x.tape(n - 1);
            Checks.due("FINGERPRINT at " + n, got, Client.crc(Arrays.copyOf(Client.tapeOf(x), n - 8)));
            Checks.due("LENGTH", x.tape(2) << 8 | x.tape(3), n - 20);
        }
    }

    private static void tape() {
        RelayHouse x = new RelayHouse();
        x.feed(-1, 0, 0, 0, 7);
        Checks.due("tape(0)", x.tape(0), 255);
        Checks.due("tape(19)", x.tape(19), 7);
        Checks.due("tape(20)", x.tape(20), NONE);
        Checks.due("tape(-1)", x.tape(-1), NONE);
        Checks.due("tape(least)", x.tape(Integer.MIN_VALUE), NONE);
        Checks.due("tape(most)", x.tape(Integer.MAX_VALUE), NONE);
    }

    private static void alter() {
        RelayHouse x = new RelayHouse();
        Checks.due("alter nothing", x.alter(0, 1), NONE);
        x.feed(0x0f000000, 0, 0, 0, 7);
        Checks.due("alter(0, 255)", x.alter(0, 255), 240);
        Checks.due("alter(0, 16)", x.alter(0, 16), 224);
        Checks.due("tape(0)", x.tape(0), 224);
        Checks.due("alter(19, 1)", x.alter(19, 1), 6);
        Checks.due("alter(20, 1)", x.alter(20, 1), NONE);
        Checks.due("alter(-1, 1)", x.alter(-1, 1), NONE);
        Checks.due("mask 0", x.alter(1, 0), NONE);
        Checks.due("mask 256", x.alter(1, 256), NONE);
        Checks.due("mask -1", x.alter(1, -1), NONE);
        Checks.due("refused: it stays", x.tape(1), 0);
    }

    private static int add(RelayHouse x, int which) {
        switch (which) {
            case 0: return x.number(1, 0, 0);
            case 1: return x.number(1, 1, 0);
            case 2: return x.text(1, 0x6162630000000000L, 0x6465L);
            case 3: return x.nonce(1, 1);
            case 4: return x.address(1, 1, 1);
            case 5: return x.sign('a', 'b');
            default: return x.finger();
        }
    }

    // Under which lengths an ATTRIBUTE comes behind the TAPE at all.
    private static void roomAndShape() {
        int[] takes = {4, 8, 12, 12, 12, 36, 8};
        for (int which = 0; which < takes.length; which++) {
            for (int n = 0; n <= 400; n++) {
                RelayHouse x = new RelayHouse();
                for (int i = 0; i < 20; i++) {
                    x.feed(0, 0, 0, 0, 0);
                }
                x.end(n);
                boolean fine = n >= 20 && n % 4 == 0 && n + takes[which] <= 400;
                Checks.due("ATTRIBUTE " + which + " behind " + n, add(x, which), fine ? n + takes[which] : NONE);
                Checks.due("bytes then", x.count(3), fine ? n + takes[which] : n);
                if (n >= 4) {
                    Checks.due("LENGTH then", x.tape(2) << 8 | x.tape(3), fine ? n + takes[which] - 20 : 0);
                }
            }
        }
    }
}
