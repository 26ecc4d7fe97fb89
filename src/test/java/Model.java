import java.io.ByteArrayOutputStream;
import java.nio.ByteBuffer;
import java.nio.charset.StandardCharsets;
import java.util.ArrayList;
import java.util.Arrays;
import java.util.LinkedHashMap;
import java.util.LinkedHashSet;
import java.util.List;
import java.util.Map;
import java.util.Set;

/** The document once more, with the Java library and nothing thrown away: what is over is passed by when asked for. */
final class Model {
    private static final int NONE = -1;
    private static final Map<Integer, int[]> SIZES = Map.ofEntries(
            Map.entry(6, new int[] {1, 8}), Map.entry(9, new int[] {4, 4}), Map.entry(10, new int[] {0, 65535}),
            Map.entry(12, new int[] {4, 4}), Map.entry(13, new int[] {4, 4}), Map.entry(18, new int[] {8, 8}),
            Map.entry(19, new int[] {0, 65535}), Map.entry(20, new int[] {1, 8}), Map.entry(21, new int[] {8, 8}),
            Map.entry(22, new int[] {8, 8}), Map.entry(25, new int[] {4, 4}), Map.entry(28, new int[] {32, 32}),
            Map.entry(32, new int[] {8, 8}), Map.entry(32808, new int[] {4, 4}));

    private record Part(int kind, byte[] value, int start) {
        boolean isSound() {
            int[] size = SIZES.get(kind);
            if (size != null && (value.length < size[0] || value.length > size[1])) {
                return false;
            }
            return !isAddressKind() || value[1] == 1;
        }

        boolean isAddressKind() {
            return kind == 18 || kind == 22 || kind == 32;
        }

        String word() {
            return new String(value, StandardCharsets.ISO_8859_1);
        }

        int port() {
            return (ByteBuffer.wrap(value).getShort(2) ^ 0x2112) & 0xffff;
        }

        int ip() {
            return ByteBuffer.wrap(value).getInt(4) ^ 0x2112A442;
        }
    }

    private record Peer(int ip, int port) {
    }

    private static final class Held {
        Peer client;
        String user;
        int port;
        byte[] id;
        long till;
        final Map<Integer, Long> permissions = new LinkedHashMap<>();
        final Map<Integer, Peer> channels = new LinkedHashMap<>();
        final Map<Integer, Long> channelTill = new LinkedHashMap<>();
    }

    private byte[] tape = {};
    private final Map<String, String> users = new LinkedHashMap<>();
    private String realm = "r";
    private long nonce = 0;
    private int part = 2;
    private final List<int[]> forbidden = new ArrayList<>();
    private long time = 0;
    private final Held[] held = new Held[8];
    private byte[] sent = null;
    private Peer to;
    private int from;
    private final int[] tally = new int[10];
    /** The steps by what came of them, so that a test can tell what it has been through. */
    final Map<String, Integer> seen;

    Model(Map<String, Integer> seen) {
        this.seen = seen;
    }

    // ---- bytes

    private static byte[] join(byte[]... rows) {
        ByteArrayOutputStream out = new ByteArrayOutputStream();
        for (byte[] row : rows) {
            out.writeBytes(row);
        }
        return out.toByteArray();
    }

    private static byte[] ints(int... values) {
        ByteBuffer b = ByteBuffer.allocate(4 * values.length);
        for (int v : values) {
            b.putInt(v);
        }
        return b.array();
    }

    private static byte[] shorts(int... values) {
        ByteBuffer b = ByteBuffer.allocate(2 * values.length);
        for (int v : values) {
            b.putShort((short) v);
        }
        return b.array();
    }

    private static byte[] longOf(long v) {
        return ByteBuffer.allocate(8).putLong(v).array();
    }

    private static byte[] wordOf(long v) {
        ByteArrayOutputStream out = new ByteArrayOutputStream();
        for (byte b : longOf(v)) {
            if (b != 0) {
                out.write(b);
            }
        }
        return out.toByteArray();
    }

    private static String text(long v) {
        return new String(wordOf(v), StandardCharsets.ISO_8859_1);
    }

    private static boolean isWord(long v) {
        return text(v).matches("[!-9;-~]{1,8}");
    }

    private static byte[] addressOf(int ip, int port) {
        return join(shorts(1, port ^ 8466), ints(ip ^ 554869826));
    }

    private static byte[] with(byte[] message, int kind, byte[] value) {
        byte[] all = join(message, shorts(kind, value.length), value, new byte[(4 - value.length % 4) % 4]);
        ByteBuffer.wrap(all).putShort(2, (short) (all.length - 20));
        return all;
    }

    private static byte[] fingered(byte[] message) {
        byte[] ahead = with(message, 32808, new byte[4]);
        return with(message, 32808, ints(Client.crc(Arrays.copyOf(ahead, message.length))));
    }

    private static byte[] head(int method, int rank, byte[] id) {
        int type = method & 15 | (rank & 1) << 4 | (method >> 4 & 7) << 5 | (rank >> 1) << 8 | (method >> 7) << 9;
        return join(shorts(type, 0), ints(554869826), id);
    }

    private static List<Part> parts(byte[] bytes) {
        ByteBuffer b = ByteBuffer.wrap(bytes);
        if (bytes.length < 20 || (bytes[0] & 0xc0) != 0 || (b.getShort(2) & 0xffff) != bytes.length - 20
                || b.getInt(4) != 554869826) {
            return null;
        }
        List<Part> parts = new ArrayList<>();
        b.position(20);
        while (b.remaining() > 0) {
            if (b.remaining() < 4) {
                return null;
            }
            int kind = b.getShort() & 0xffff;
            int size = b.getShort() & 0xffff;
            if (b.remaining() < (size + 3) / 4 * 4) {
                return null;
            }
            parts.add(new Part(kind, Arrays.copyOfRange(bytes, b.position(), b.position() + size), b.position()));
            b.position(b.position() + (size + 3) / 4 * 4);
        }
        return parts;
    }

    private static int methodOf(byte[] m) {
        int type = ByteBuffer.wrap(m).getShort(0);
        return type & 15 | (type >> 5 & 7) << 4 | (type >> 9 & 31) << 7;
    }

    private static int rankOf(byte[] m) {
        return m[1] >> 4 & 1 | (m[0] & 1) << 1;
    }

    // ---- the desk

    int feed(int a, int b, int c, int d, int e) {
        return tape.length + 20 > 400 ? NONE : set(join(tape, ints(a, b, c, d, e)));
    }

    private int set(byte[] bytes) {
        tape = bytes;
        return tape.length;
    }

    int end(int n) {
        return n < 0 || n > tape.length ? NONE : set(Arrays.copyOf(tape, n));
    }

    int message(int type, int a, int b, int c) {
        return type < 0 || type > 16383 ? NONE : set(join(shorts(type, 0), ints(554869826, a, b, c)));
    }

    private int add(int kind, byte[] value) {
        boolean bad = kind < 0 || kind > 65535 || tape.length < 20 || tape.length % 4 != 0;
        if (bad || with(tape, kind, value).length > 400) {
            return NONE;
        }
        return set(with(tape, kind, value));
    }

    int number(int kind, int size, int v) {
        return size < 0 || size > 4 ? NONE : add(kind, Arrays.copyOfRange(ints(v), 4 - size, 4));
    }

    int text(int kind, long a, long b) {
        return add(kind, join(wordOf(a), wordOf(b)));
    }

    int nonce(int kind, long v) {
        return add(kind, longOf(v));
    }

    int address(int kind, int ip, int port) {
        return port < 0 || port > 65535 ? NONE : add(kind, addressOf(ip, port));
    }

    int sign(long user, long password) {
        if (!isWord(user) || !isWord(password) || tape.length < 20) {
            return NONE;
        }
        return add(28, Client.mac(tape, text(user), realm, text(password)));
    }

    int finger() {
        int size = add(32808, new byte[4]);
        return size == NONE ? NONE : set(fingered(Arrays.copyOf(tape, size - 8)));
    }

    int tape(int i) {
        return i < 0 || i >= tape.length ? NONE : tape[i] & 255;
    }

    int alter(int i, int mask) {
        if (tape(i) == NONE || mask < 1 || mask > 255) {
            return NONE;
        }
        tape[i] ^= (byte) mask;
        return tape(i);
    }

    // ---- the server

    int user(long name, long password) {
        if (!isWord(name) || !isWord(password) || users.size() == 8 && !users.containsKey(text(name))) {
            return NONE;
        }
        users.put(text(name), text(password));
        return users.size();
    }

    int realm(long name) {
        if (!isWord(name)) {
            return NONE;
        }
        realm = text(name);
        return users.size();
    }

    int fresh(long v) {
        nonce = v;
        return 0;
    }

    int part(int n) {
        if (n < 0 || n > 8) {
            return NONE;
        }
        int was = part;
        part = n;
        return was;
    }

    int forbid(int ip, int bits) {
        if (bits < 0 || bits > 32 || forbidden.size() == 4) {
            return NONE;
        }
        forbidden.add(new int[] {ip, bits});
        return forbidden.size();
    }

    private boolean isForbidden(int ip) {
        return forbidden.stream().anyMatch(f -> (ip & 0xffffffffL) >> 32 - f[1] == (f[0] & 0xffffffffL) >> 32 - f[1]);
    }

    private Held there(int k) {
        return k >= 0 && k < 8 && held[k] != null && held[k].till > time ? held[k] : null;
    }

    private int countHeld() {
        int n = 0;
        for (int k = 0; k < 8; k++) {
            n += there(k) == null ? 0 : 1;
        }
        return n;
    }

    int tick(int n) {
        if (n < 0 || n > 10000) {
            return NONE;
        }
        int before = countHeld();
        time += n;
        return before - countHeld();
    }

    private Held ofClient(Peer client) {
        for (int k = 0; k < 8; k++) {
            if (there(k) != null && held[k].client.equals(client)) {
                return held[k];
            }
        }
        return null;
    }

    private Held ofPort(int port) {
        for (int k = 0; k < 8; k++) {
            if (there(k) != null && held[k].port == port) {
                return held[k];
            }
        }
        return null;
    }

    private boolean permits(Held h, int ip) {
        return h != null && h.permissions.getOrDefault(ip, 0L) > time;
    }

    private void send(byte[] bytes, Peer peer, int port, int tallied) {
        sent = bytes;
        to = peer;
        from = port;
        tally[4]++;
        if (tallied > 0) {
            tally[tallied]++;
        }
    }

    private int step(Runnable what) {
        sent = null;
        what.run();
        tape = new byte[0];
        if (sent == null) {
            tally[9]++;
        }
        return sent == null ? 0 : 1;
    }

    private void note(String what) {
        seen.merge(what, 1, Integer::sum);
    }

    int datagram(int ip, int port) {
        return port < 1 || port > 65535 ? NONE : step(() -> fromClient(new Peer(ip, port)));
    }

    int peer(int relayed, int ip, int port) {
        return port < 1 || port > 65535 ? NONE : step(() -> fromPeer(relayed, new Peer(ip, port)));
    }

    private Integer channelOf(Held h, Peer peer) {
        for (Map.Entry<Integer, Peer> one : h.channels.entrySet()) {
            if (one.getValue().equals(peer) && h.channelTill.get(one.getKey()) > time) {
                return one.getKey();
            }
        }
        return null;
    }

    private void fromPeer(int relayed, Peer peer) {
        Held h = ofPort(relayed);
        if (!permits(h, peer.ip)) {
            return;
        }
        Integer channel = channelOf(h, peer);
        if (channel != null) {
            note("channel data from peer");
            send(join(shorts(channel, tape.length), tape), h.client, 3478, 7);
        } else {
            note("data indication");
            byte[] data = head(7, 1, ints(0, 0, tally[5]++));
            send(with(with(data, 18, addressOf(peer.ip, peer.port)), 19, tape), h.client, 3478, 7);
        }
    }

    private void fromClient(Peer client) {
        Held h = ofClient(client);
        ByteBuffer b = ByteBuffer.wrap(tape);
        if (tape.length >= 4) {
            int number = b.getShort(0) & 0xffff;
            int size = b.getShort(2) & 0xffff;
            if (number >= 16384 && number <= 20479 && tape.length - 4 - size >= 0 && tape.length - 4 - size <= 3) {
                Peer peer = h == null || h.channelTill.getOrDefault(number, 0L) <= time ? null : h.channels.get(number);
                if (peer != null && permits(h, peer.ip)) {
                    note("channel data to peer");
                    send(Arrays.copyOfRange(tape, 4, 4 + size), peer, h.port, 6);
                }
                return;
            }
        }
        List<Part> all = parts(tape);
        if (all == null) {
            return;
        }
        Part finger = all.stream().filter(p -> p.kind == 32808 && p.isSound()).findFirst().orElse(null);
        if (finger != null) {
            boolean right = ByteBuffer.wrap(finger.value).getInt() == Client.crc(Arrays.copyOf(tape, finger.start - 4));
            if (!right || finger != all.get(all.size() - 1)) {
                note("wrong fingerprint");
                return;
            }
        }
        List<Part> counting = new ArrayList<>();
        for (Part p : all) {
            if (p.isSound()) {
                counting.add(p);
                if (p.kind == 28) {
                    break;
                }
            }
        }
        if (rankOf(tape) == 1 && methodOf(tape) == 6) {
            fromSend(h, counting);
        } else if (rankOf(tape) == 0) {
            answer(client, h, counting, finger != null);
        }
    }

    private static Part first(List<Part> parts, int kind) {
        return parts.stream().filter(p -> p.kind == kind).findFirst().orElse(null);
    }

    private static List<Integer> strange(List<Part> parts) {
        return parts.stream().map(Part::kind).filter(k -> k < 32768 && !SIZES.containsKey(k)).distinct().limit(8).toList();
    }

    private void fromSend(Held h, List<Part> parts) {
        Part peer = first(parts, 18);
        Part data = first(parts, 19);
        if (peer != null && data != null && strange(parts).isEmpty() && permits(h, peer.ip())) {
            note("send");
            send(data.value, new Peer(peer.ip(), peer.port()), h.port, 6);
        }
    }

    private static final class Refused extends RuntimeException {
        private static final long serialVersionUID = 1L;
        final int number;

        Refused(int number) {
            this.number = number;
        }
    }

    private static void refuse(boolean when, int number) {
        if (when) {
            throw new Refused(number);
        }
    }

    private void answer(Peer client, Held h, List<Part> parts, boolean finger) {
        int method = methodOf(tape);
        byte[] id = Arrays.copyOfRange(tape, 8, 20);
        String[] signer = {null};
        byte[] out;
        try {
            out = serve(method, client, h, parts, signer);
            note(method + " fine");
        } catch (Refused e) {
            note((Set.of(1, 3, 4, 8, 9).contains(method) ? method : "other") + " " + e.number);
            tally[8]++;
            out = with(head(method, 3, id), 9, new byte[] {0, 0, (byte) (e.number / 100), (byte) (e.number % 100)});
            if (e.number == 401 || e.number == 438) {
                out = with(with(out, 20, realm.getBytes(StandardCharsets.ISO_8859_1)), 21, longOf(nonce));
            }
            if (e.number == 420) {
                out = with(out, 10, shorts(strange(parts).stream().mapToInt(k -> k).toArray()));
            }
        }
        if (signer[0] != null) {
            out = with(out, 28, Client.mac(out, signer[0], realm, users.get(signer[0])));
        }
        send(finger ? fingered(out) : out, client, 3478, 0);
    }

    private byte[] serve(int method, Peer client, Held h, List<Part> parts, String[] signer) {
        byte[] id = Arrays.copyOfRange(tape, 8, 20);
        byte[] out = head(method, 2, id);
        refuse(!Set.of(1, 3, 4, 8, 9).contains(method), 400);
        if (method == 1) {
            refuse(!strange(parts).isEmpty(), 420);
            return with(out, 32, addressOf(client.ip, client.port));
        }
        String user = check(parts);
        signer[0] = user;
        if (method == 3) {
            Held got = allocate(client, h, parts, user, id);
            out = with(out, 22, addressOf((int) 3232235777L, got.port));
            out = with(out, 13, ints((int) (got.till - time)));
            return with(out, 32, addressOf(client.ip, client.port));
        }
        refuse(h == null, 437);
        refuse(!h.user.equals(user), 441);
        if (method == 4) {
            Part life = first(parts, 13);
            boolean over = life != null && ByteBuffer.wrap(life.value).getInt() == 0;
            h.till = time + (over ? 0 : lifetime(parts));
            return with(out, 13, ints((int) (h.till - time)));
        }
        if (method == 8) {
            createPermission(h, parts);
        } else {
            channelBind(h, parts);
        }
        return out;
    }

    private String check(List<Part> parts) {
        Part integrity = first(parts, 28);
        refuse(integrity == null, 401);
        Part name = first(parts, 6);
        Part place = first(parts, 20);
        Part once = first(parts, 21);
        refuse(name == null || place == null || once == null, 400);
        refuse(ByteBuffer.wrap(once.value).getLong() != nonce, 438);
        refuse(!users.containsKey(name.word()), 401);
        refuse(!place.word().equals(realm), 401);
        byte[] due = Client.mac(Arrays.copyOf(tape, integrity.start - 4), name.word(), realm, users.get(name.word()));
        refuse(!Arrays.equals(due, integrity.value), 401);
        refuse(!strange(parts).isEmpty(), 420);
        return name.word();
    }

    private static int lifetime(List<Part> parts) {
        Part life = first(parts, 13);
        long told = life == null ? 600 : ByteBuffer.wrap(life.value).getInt() & 0xffffffffL;
        return told < 600 ? 600 : told > 3600 ? 3600 : (int) told;
    }

    private Held allocate(Peer client, Held h, List<Part> parts, String user, byte[] id) {
        if (h != null) {
            refuse(!Arrays.equals(h.id, id), 437);
            note("allocated already");
            return h;
        }
        Part transport = first(parts, 25);
        refuse(transport == null, 400);
        refuse(transport.value[0] != 17, 442);
        int own = 0;
        int free = NONE;
        for (int k = 7; k >= 0; k--) {
            if (there(k) == null) {
                free = k;
            } else if (held[k].user.equals(user)) {
                own++;
            }
        }
        refuse(own >= part, 486);
        refuse(free == NONE, 508);
        Held made = new Held();
        made.client = client;
        made.user = user;
        made.id = id;
        made.port = 49152;
        while (ofPort(made.port) != null) {
            made.port++;
        }
        made.till = time + lifetime(parts);
        held[free] = made;
        return made;
    }

    private Set<Integer> livePermissions(Held h) {
        Set<Integer> live = new LinkedHashSet<>();
        h.permissions.forEach((ip, till) -> {
            if (till > time) {
                live.add(ip);
            }
        });
        return live;
    }

    private long liveChannels(Held h) {
        return h.channelTill.values().stream().filter(till -> till > time).count();
    }

    private void createPermission(Held h, List<Part> parts) {
        List<Integer> ips = parts.stream().filter(p -> p.kind == 18).map(Part::ip).toList();
        refuse(ips.isEmpty(), 400);
        refuse(ips.stream().anyMatch(this::isForbidden), 403);
        Set<Integer> live = livePermissions(h);
        live.addAll(ips);
        refuse(live.size() > 16, 508);
        ips.forEach(ip -> h.permissions.put(ip, time + 300));
    }

    private void channelBind(Held h, List<Part> parts) {
        Part channel = first(parts, 12);
        Part part18 = first(parts, 18);
        refuse(channel == null || part18 == null, 400);
        int number = ByteBuffer.wrap(channel.value).getShort() & 0xffff;
        Peer peer = new Peer(part18.ip(), part18.port());
        refuse(number < 16384 || number > 20479, 400);
        boolean bound = h.channelTill.getOrDefault(number, 0L) > time;
        refuse(bound && !h.channels.get(number).equals(peer), 400);
        Integer other = channelOf(h, peer);
        refuse(other != null && other != number, 400);
        refuse(isForbidden(peer.ip), 403);
        refuse(!bound && liveChannels(h) == 8, 508);
        refuse(!permits(h, peer.ip) && livePermissions(h).size() == 16, 508);
        h.channels.put(number, peer);
        h.channelTill.put(number, time + 600);
        h.permissions.put(peer.ip, time + 300);
    }

    // ---- what was SENT, what there is

    int sent(int what) {
        if (what < 0 || what > 6) {
            return NONE;
        }
        if (sent == null) {
            return 0;
        }
        List<Part> parts = parts(sent);
        int[] answers = {sent.length, to.ip, to.port, from, parts == null ? NONE : methodOf(sent),
            parts == null ? NONE : rankOf(sent), parts == null ? 0 : parts.size()};
        return answers[what];
    }

    int octet(int i) {
        return sent == null || i < 0 || i >= sent.length ? NONE : sent[i] & 255;
    }

    int attribute(int i, int what) {
        List<Part> parts = sent == null ? null : parts(sent);
        if (parts == null || i < 0 || i >= parts.size() || what < 0 || what > 6) {
            return NONE;
        }
        Part p = parts.get(i);
        boolean address = p.isAddressKind() && p.isSound();
        int number = 0;
        for (int j = 0; j < 4 && j < p.value.length; j++) {
            number = number << 8 | p.value[j] & 255;
        }
        int error = p.kind == 9 && p.isSound() ? (p.value[2] & 255) * 100 + (p.value[3] & 255) : 0;
        int[] answers = {p.kind, p.value.length, p.start, number, address ? p.port() : 0, address ? p.ip() : 0, error};
        return answers[what];
    }

    int allocation(int k, int what) {
        Held h = there(k);
        if (h == null || what < 0 || what > 6) {
            return NONE;
        }
        int[] answers = {h.client.ip, h.client.port, new ArrayList<>(users.keySet()).indexOf(h.user), h.port,
            (int) (h.till - time), livePermissions(h).size(), (int) liveChannels(h)};
        return answers[what];
    }

    int permission(int k, int ip) {
        Held h = there(k);
        return permits(h, ip) ? (int) (h.permissions.get(ip) - time) : 0;
    }

    int channel(int k, int number) {
        Held h = there(k);
        return h == null ? 0 : (int) Math.max(0, h.channelTill.getOrDefault(number, 0L) - time);
    }

    int count(int what) {
        switch (what) {
            case 0: return (int) time;
            case 1: return users.size();
            case 2: return countHeld();
            case 3: return tape.length;
            default: return what < 4 || what > 9 ? NONE : tally[what];
        }
    }
}
