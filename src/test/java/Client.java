import java.nio.charset.StandardCharsets;
import java.security.GeneralSecurityException;
import java.security.MessageDigest;
import java.util.Arrays;
import java.util.zip.CRC32;
import javax.crypto.Mac;
import javax.crypto.spec.SecretKeySpec;

/** A client of one RelayHouse that signs its requests, and reads the answers with the Java library. */
final class Client {
    static final int BINDING = 1;
    static final int ALLOCATE = 3;
    static final int REFRESH = 4;
    static final int SEND = 6;
    static final int PERMIT = 8;
    static final int BIND = 9;
    static final int UDP = 17 << 24;
    static final int IP = 167772161;
    static final int PORT = 5000;

    final RelayHouse x;
    final int ip;
    final int port;
    String name = "an";
    String password = "p1";
    String realm = "r";
    long nonce = 0;

    Client(RelayHouse x, int ip, int port) {
        this.x = x;
        this.ip = ip;
        this.port = port;
    }

    /** A client "an" of a new RelayHouse that knows it. */
    static Client known() {
        Client c = new Client(new RelayHouse(), IP, PORT);
        c.x.user(word("an"), word("p1"));
        return c;
    }

    /** Another one of the same name at the same RelayHouse. */
    Client at(int otherPort) {
        return new Client(x, ip, otherPort);
    }

    Client as(String otherName, String otherPassword) {
        name = otherName;
        password = otherPassword;
        return this;
    }

    static long word(String s) {
        long v = 0;
        for (int i = 0; i < s.length(); i++) {
            v = v << 8 | s.charAt(i);
        }
        return v;
    }

    Client open(int method, int id) {
        x.message(method, 11, 12, id);
        return this;
    }

    Client number(int kind, int size, int v) {
        x.number(kind, size, v);
        return this;
    }

    Client peer(int peerIp, int peerPort) {
        x.address(18, peerIp, peerPort);
        return this;
    }

    Client credentials() {
        x.text(6, word(name), 0);
        x.text(20, word(realm), 0);
        x.nonce(21, nonce);
        return this;
    }

    Client sign() {
        x.sign(word(name), word(password));
        return this;
    }

    /** 0 for a success, an ERROR's number, NONE if nothing is sent. */
    int go() {
        if (x.datagram(ip, port) != 1) {
            return RelayHouse.NONE;
        }
        return x.sent(5) == 3 ? x.attribute(0, 6) : 0;
    }

    int signedGo() {
        return credentials().sign().go();
    }

    int allocate(int id) {
        return open(ALLOCATE, id).number(25, 4, UDP).signedGo();
    }

    int allocate(int id, int lifetime) {
        return open(ALLOCATE, id).number(25, 4, UDP).number(13, 4, lifetime).signedGo();
    }

    int refresh(int lifetime) {
        return open(REFRESH, 77).number(13, 4, lifetime).signedGo();
    }

    int permit(int... ips) {
        open(PERMIT, 78);
        for (int peerIp : ips) {
            peer(peerIp, 9);
        }
        return signedGo();
    }

    int bind(int number, int peerIp, int peerPort) {
        return open(BIND, 79).number(12, 4, number << 16).peer(peerIp, peerPort).signedGo();
    }

    /** Bytes on the TAPE, whatever was there. */
    void write(int... bytes) {
        write(x, bytes);
    }

    static void write(RelayHouse x, int... bytes) {
        x.end(0);
        append(x, bytes);
    }

    /** Bytes behind the TAPE; there must be room for whole twenties. */
    static void append(RelayHouse x, int... bytes) {
        int before = x.count(3);
        int[] padded = Arrays.copyOf(bytes, (bytes.length + 19) / 20 * 20);
        for (int i = 0; i < padded.length; i += 20) {
            x.feed(quad(padded, i), quad(padded, i + 4), quad(padded, i + 8), quad(padded, i + 12), quad(padded, i + 16));
        }
        x.end(before + bytes.length);
    }

    /** An ATTRIBUTE of any size and bytes; LENGTH is as due when the desk has added another one behind it. */
    Client raw(int kind, int size, int... bytes) {
        int[] all = new int[4 + (size + 3) / 4 * 4];
        all[0] = kind >> 8;
        all[1] = kind & 255;
        all[2] = size >> 8;
        all[3] = size & 255;
        System.arraycopy(bytes, 0, all, 4, bytes.length);
        append(x, all);
        return this;
    }

    private static int quad(int[] b, int i) {
        return b[i] << 24 | b[i + 1] << 16 | b[i + 2] << 8 | b[i + 3];
    }

    static byte[] tapeOf(RelayHouse x) {
        byte[] b = new byte[x.count(3)];
        for (int i = 0; i < b.length; i++) {
            b[i] = (byte) x.tape(i);
        }
        return b;
    }

    static byte[] sentOf(RelayHouse x) {
        byte[] b = new byte[x.sent(0)];
        for (int i = 0; i < b.length; i++) {
            b[i] = (byte) x.octet(i);
        }
        return b;
    }

    static byte[] mac(byte[] ahead, String name, String realm, String password) {
        try {
            byte[] key = MessageDigest.getInstance("SHA-256")
                    .digest((name + ":" + realm + ":" + password).getBytes(StandardCharsets.ISO_8859_1));
            byte[] text = ahead.clone();
            int length = text.length + 36 - 20;
            text[2] = (byte) (length >> 8);
            text[3] = (byte) length;
            Mac mac = Mac.getInstance("HmacSHA256");
            mac.init(new SecretKeySpec(key, "HmacSHA256"));
            return mac.doFinal(text);
        } catch (GeneralSecurityException e) {
            throw new IllegalStateException(e);
        }
    }

    static int crc(byte[] ahead) {
        CRC32 crc = new CRC32();
        crc.update(ahead);
        return (int) crc.getValue() ^ 1398035790;
    }

    /** Whether ATTRIBUTE i of SENT is the INTEGRITY of this client. */
    boolean isSealed(int i) {
        int start = x.attribute(i, 2);
        if (x.attribute(i, 0) != 28 || x.attribute(i, 1) != 32) {
            return false;
        }
        byte[] sent = sentOf(x);
        byte[] due = mac(Arrays.copyOf(sent, start - 4), name, realm, password);
        return Arrays.equals(due, Arrays.copyOfRange(sent, start, start + 32));
    }

    /** Whether ATTRIBUTE i of SENT is a right FINGERPRINT, and the last. */
    boolean isFingered(int i) {
        int start = x.attribute(i, 2);
        return x.attribute(i, 0) == 32808 && start + 4 == x.sent(0)
                && x.attribute(i, 3) == crc(Arrays.copyOf(sentOf(x), start - 4));
    }
}
