import java.io.IOException;
import java.nio.file.Files;
import java.nio.file.Path;
import java.util.ArrayList;
import java.util.Arrays;
import java.util.Comparator;
import java.util.List;
import java.util.Map;
import java.util.TreeMap;
import java.util.function.Supplier;
import java.util.function.ToIntFunction;

/**
 * Checks of boundary cases: each stands under the promise and the sentence that it holds to. No object is used for more
 * than the 512 calls for which the document speaks, so that what is looked at much is made anew for each look.
 */
final class Edges {
    static final int NONE = RelayHouse.NONE;
    static final int LEAST = Integer.MIN_VALUE;
    static final int MOST = Integer.MAX_VALUE;
    static final int PROMISES = 27;

    /** Texts at the limits of what a name, a password or a REALM may be. */
    static final String[] GOOD_WORDS = {"!", "~", "9", ";", "a!", "~b", "!!!!!!!!", "~~~~~~~~", "1234567", "12345678"};

    private record Look(String name, ToIntFunction<RelayHouse> of) {
    }

    private static final Path DOCUMENT = Path.of("../shared/DOC.md");
    private static final Map<Integer, List<String>> named = new TreeMap<>();
    private static final List<String> namedTerms = new ArrayList<>();
    private static final List<List<Look>> deskLooks = deskLooks();
    private static final List<List<Look>> serverLooks = serverLooks();
    private static String document = "";
    private static String heading = "";

    private Edges() {
    }

    // ---- the sentences

    static void readDocument() throws IOException {
        if (Files.isReadable(DOCUMENT)) {
            document = Files.readString(DOCUMENT);
        } else {
            System.out.println(DOCUMENT + " is not here: the sentences are not looked up");
        }
    }

    /** What is checked from here on: a sentence of a promise. */
    static void promise(int number, String sentence) {
        name(number, sentence, sectionOf(number));
        named.computeIfAbsent(number, n -> new ArrayList<>()).add(sentence);
    }

    /** What is checked from here on: a sentence of the terms, which a promise uses. */
    static void term(int number, String sentence) {
        name(number, sentence, terms());
        namedTerms.add(sentence);
    }

    private static void name(int number, String sentence, String where) {
        heading = "promise " + number + ", \"" + sentence + "\": ";
        if (!document.isEmpty()) {
            holds("the sentence stands in the document", where.contains(sentence));
        }
    }

    private static String sectionOf(int number) {
        String next = number == PROMISES ? "## Not promised" : "## Promise " + (number + 1) + ":";
        return part("## Promise " + number + ":", next);
    }

    private static String part(String from, String to) {
        int start = document.indexOf(from);
        int end = document.indexOf(to);
        return start < 0 || end < start ? "" : document.substring(start, end);
    }

    /** What stands ahead of the promises, but for the face, which FaceTest holds to. */
    private static String terms() {
        return part("## What it is", "## Promise 1:").replaceAll("(?s)## The public face.*?(?=## Terms)", "");
    }

    /** Each sentence of the terms and of each promise has been named. */
    static void close() {
        for (int number = 1; number <= PROMISES; number++) {
            List<String> sentences = named.getOrDefault(number, List.of());
            heading = "promise " + number + ": ";
            holds("is named", !sentences.isEmpty());
            allNamed(sectionOf(number).replaceAll("## [^\n]*|`[^\n]*?`:", ""), sentences);
        }
        heading = "the terms: ";
        String marks = "## [^\n]*|==== I+\\.|```(text)?";
        allNamed(terms().replaceAll(marks, ""), namedTerms);
    }

    private static void allNamed(String text, List<String> sentences) {
        List<String> longestFirst = new ArrayList<>(sentences);
        longestFirst.sort(Comparator.comparingInt(String::length).reversed());
        String left = text;
        for (String sentence : longestFirst) {
            left = left.replace(sentence, "");
        }
        // Signs between two parts of a sentence that are named each for itself.
        left = left.replaceAll("[,;:]\\s", " ").strip();
        holds("no test names: " + left, left.isEmpty());
    }

    // ---- the checks

    static void due(String call, long got, long want) {
        Checks.due(heading + call, got, want);
    }

    static void holds(String what, boolean is) {
        Checks.due(heading + what, is ? 1 : 0, 1);
    }

    static void tape(String call, RelayHouse x, int from, int... want) {
        for (int i = 0; i < want.length; i++) {
            due(call + ": tape(" + (from + i) + ")", x.tape(from + i), want[i]);
        }
    }

    static void sent(String call, RelayHouse x, int... want) {
        due(call + ": bytes", x.sent(0), want.length);
        for (int i = 0; i < want.length; i++) {
            due(call + ": octet(" + i + ")", x.octet(i), want[i]);
        }
    }

    /** A call that is refused: it answers NONE, and nothing that can be seen is other than without it. */
    static void refused(String call, Supplier<RelayHouse> before, ToIntFunction<RelayHouse> made) {
        same(call, before, made, NONE, deskLooks);
        same(call, before, made, NONE, serverLooks);
    }

    static void refused(String call, ToIntFunction<RelayHouse> made) {
        refused(call, Edges::busy, made);
    }

    /** A datagram that changes nothing but what was SENT, whatever it is answered by. */
    static void idle(String call, Supplier<RelayHouse> before, ToIntFunction<RelayHouse> made, int due) {
        same(call, before, made, due, serverLooks);
    }

    static void idle(String call, ToIntFunction<RelayHouse> made, int due) {
        idle(call, Edges::busy, made, due);
    }

    private static void same(String call, Supplier<RelayHouse> before, ToIntFunction<RelayHouse> made, int due,
            List<List<Look>> looks) {
        for (List<Look> some : looks) {
            RelayHouse without = before.get();
            RelayHouse with = before.get();
            due(call, made.applyAsInt(with), due);
            for (Look one : some) {
                due(call + ", then " + one.name, one.of.applyAsInt(with), one.of.applyAsInt(without));
            }
        }
    }

    // ---- houses

    /** A house that has something of everything: USERS, ALLOCATIONS, PERMISSIONS, a CHANNEL, a TAPE, something SENT. */
    static RelayHouse busy() {
        Client c = Client.known();
        c.x.user(Client.word("b"), Client.word("q2"));
        c.x.realm(Client.word("ex"));
        c.x.fresh(5);
        c.x.part(3);
        c.x.forbid(0x0b000000, 8);
        guest(c).allocate(1, 1000);
        other(c.x).allocate(2);
        c.permit(1, 2);
        c.bind(16384, 3, 33);
        c.x.tick(50);
        c.write(1, 2, 3);
        c.x.peer(49152, 1, 11);
        c.open(Client.BINDING, 9).number(19, 3, -1);
        return c.x;
    }

    static RelayHouse withTape(int n) {
        RelayHouse x = busy();
        fill(x, n);
        return x;
    }

    /** The TAPE has n bytes, none of them 0. */
    static void fill(RelayHouse x, int n) {
        x.end(0);
        for (int i = 0; i < n; i += 20) {
            x.feed(0x01020304 + i, 0x11121314, 0x21222324, -1, 0x7fffff80);
        }
        x.end(n);
    }

    private static Client guest(Client c) {
        c.realm = "ex";
        c.nonce = 5;
        return c;
    }

    /** The one that has ALLOCATION 0 of a busy house. */
    static Client guest(RelayHouse x) {
        return guest(new Client(x, Client.IP, Client.PORT));
    }

    /** The one that has ALLOCATION 1 of a busy house. */
    static Client other(RelayHouse x) {
        return guest(new Client(x, 9, 9)).as("b", "q2");
    }

    // ---- what can be seen

    private static List<List<Look>> deskLooks() {
        List<List<Look>> all = new ArrayList<>();
        for (int from = 0; from <= 400; from += 201) {
            List<Look> bytes = new ArrayList<>();
            for (int k = from; k < from + 201; k++) {
                int i = k;
                bytes.add(new Look("tape(" + i + ")", x -> x.tape(i)));
            }
            all.add(bytes);
        }
        List<Look> told = new ArrayList<>();
        for (int w = 0; w <= 9; w++) {
            int what = w;
            told.add(new Look("count(" + what + ")", x -> x.count(what)));
            told.add(new Look("sent(" + what + ")", x -> x.sent(what)));
            for (int n = 0; n <= 3; n++) {
                int i = n;
                told.add(new Look("attribute(" + i + ", " + what + ")", x -> x.attribute(i, what)));
            }
        }
        told.add(new Look("SENT", x -> sum(x)));
        all.add(told);
        return all;
    }

    private static List<List<Look>> serverLooks() {
        List<List<Look>> all = new ArrayList<>();
        all.add(reports());
        // Each of these is a run of calls, so that each has a house of its own.
        alone(all, "REALM and NONCE of a 401", x -> answer(x, new Client(x, 77, 77).open(3, 1)));
        alone(all, "a Refresh", x -> answer(x, guest(x).open(4, 1).credentials().sign()));
        alone(all, "the other's Refresh", x -> answer(x, other(x).open(4, 1).credentials().sign()));
        alone(all, "Allocate of the same ID", x -> answer(x, guest(x).open(3, 1).credentials().sign()));
        alone(all, "a free IP", x -> guest(x).permit(12));
        alone(all, "a FORBIDDEN IP", x -> guest(x).permit(0x0b010203));
        alone(all, "ALLOCATIONS by part", x -> manyAllocations(x));
        alone(all, "part", x -> x.part(0));
        alone(all, "forbid", x -> x.forbid(0x0c000000, 9));
        alone(all, "USERS", x -> x.user('z', 'z'));
        alone(all, "tick", x -> x.tick(10000));
        alone(all, "Data", x -> fromPeer(x, 2, 5));
        alone(all, "CHANNEL DATA", x -> fromPeer(x, 3, 33));
        return all;
    }

    private static void alone(List<List<Look>> all, String name, ToIntFunction<RelayHouse> of) {
        all.add(List.of(new Look(name, of)));
    }

    private static List<Look> reports() {
        List<Look> list = new ArrayList<>();
        for (int w = 0; w <= 2; w++) {
            int what = w;
            list.add(new Look("count(" + what + ")", x -> x.count(what)));
        }
        for (int n = 0; n <= 8; n++) {
            int k = n;
            for (int w = 0; w <= 6; w++) {
                int what = w;
                list.add(new Look("allocation(" + k + ", " + what + ")", x -> x.allocation(k, what)));
            }
            for (int w = 0; w <= 20; w++) {
                int ip = w;
                list.add(new Look("permission(" + k + ", " + ip + ")", x -> x.permission(k, ip)));
            }
            for (int w = 0; w <= 9; w++) {
                int number = 16383 + w;
                list.add(new Look("channel(" + k + ", " + number + ")", x -> x.channel(k, number)));
            }
        }
        return list;
    }

    private static int sum(RelayHouse x) {
        return 31 * x.sent(1) + Arrays.hashCode(Client.sentOf(x));
    }

    private static int answer(RelayHouse x, Client c) {
        x.datagram(c.ip, c.port);
        return sum(x);
    }

    private static int fromPeer(RelayHouse x, int ip, int port) {
        Client.write(x, 4, 5, 6);
        x.peer(49152, ip, port);
        return sum(x);
    }

    private static int manyAllocations(RelayHouse x) {
        for (int port = 100; port < 109; port++) {
            guest(new Client(x, 1, port)).allocate(port);
        }
        return x.count(2);
    }
}
