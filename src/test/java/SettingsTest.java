/** Promises 13 to 18: what is told to the server by its keeper. */
public final class SettingsTest {
    private static final int NONE = RelayHouse.NONE;
    private static final long[] BAD_WORDS = {
        0, 1, 32, 127, 128, 255, ':', -1L, Client.word("a b"), Client.word("a:b"), 0x6100000000000020L, 0x7f00000000000061L
    };

    public static void main(String[] args) {
        user();
        realm();
        fresh();
        part();
        forbid();
        tick();
        Checks.close();
    }

    private static void user() {
        RelayHouse x = new RelayHouse();
        for (long word : BAD_WORDS) {
            Checks.due("user named " + word, x.user(word, 'a'), NONE);
            Checks.due("user with password " + word, x.user('a', word), NONE);
        }
        Checks.due("USERS", x.count(1), 0);
        Checks.due("user !", x.user(33, 126), 1);
        Checks.due("user ~", x.user(126, 33), 2);
        Checks.due("user of 8 bytes", x.user(Client.word("12345678"), Client.word("abcdefgh")), 3);
        Checks.due("the same one", x.user(33, 'b'), 3);
        Checks.due("user ab", x.user(Client.word("ab"), 'c'), 4);
        Checks.due("ab with bytes 0", x.user(0x6100000000006200L, 'd'), 4);
        Checks.due("user ba", x.user(Client.word("ba"), 'd'), 5);
        for (int n = 6; n <= 8; n++) {
            Checks.due("user " + n, x.user('0' + n, 'd'), n);
        }
        Checks.due("a 9th", x.user('9', 'd'), NONE);
        Checks.due("another password with 8", x.user('8', 'e'), 8);
        Checks.due("USERS", x.count(1), 8);

        Client c = Client.known();
        Checks.due("allocate", c.allocate(1), 0);
        c.x.user(0x61006e00L, Client.word("p2"));
        Checks.due("its ALLOCATIONS stay", c.x.allocation(0, 4), 600);
        Checks.due("the old password", c.refresh(700), 401);
        Checks.due("the new password", c.as("an", "p2").refresh(700), 0);
        Checks.due("signed with it", c.isSealed(1) ? 1 : 0, 1);
        Checks.due("the same USER", c.x.allocation(0, 2), 0);
    }

    private static void realm() {
        Client c = Client.known();
        for (long word : BAD_WORDS) {
            Checks.due("realm " + word, c.x.realm(word), NONE);
        }
        Checks.due("REALM is r still", c.allocate(1), 0);
        Checks.due("realm", c.x.realm(0x6500780000000000L), 1);
        Checks.due("REALM r", c.refresh(600), 401);
        Checks.due("the REALM told", c.x.attribute(1, 3), Client.word("ex"));
        Checks.due("its size", c.x.attribute(1, 1), 2);
        c.realm = "ex";
        Checks.due("REALM ex", c.refresh(600), 0);
        Checks.due("signed with it", c.isSealed(1) ? 1 : 0, 1);
        c.x.user('b', 'b');
        Checks.due("realm of 8 bytes", c.x.realm(Client.word("12345678")), 2);
        c.realm = "12345678";
        Checks.due("REALM of 8 bytes", c.refresh(600), 0);
        Checks.due("signed with it", c.isSealed(1) ? 1 : 0, 1);
        Checks.due("without USERS", new RelayHouse().realm('a'), 0);
    }

    private static void fresh() {
        Client c = Client.known();
        Checks.due("fresh", c.x.fresh(-2), 0);
        Checks.due("the old NONCE", c.allocate(1), 438);
        Checks.due("the NONCE told", c.x.attribute(2, 0), 21);
        Checks.due("its size", c.x.attribute(2, 1), 8);
        Checks.due("its first four bytes", c.x.attribute(2, 3), -1);
        Checks.due("its last byte", c.x.octet(c.x.attribute(2, 2) + 7), 254);
        c.nonce = -2;
        Checks.due("the new NONCE", c.allocate(1), 0);
        c.nonce = 0xfffffffeL;
        Checks.due("its lower half alone", c.refresh(600), 438);
        Checks.due("fresh(0)", c.x.fresh(0), 0);
        c.nonce = 0;
        Checks.due("NONCE 0", c.refresh(600), 0);
    }

    private static void part() {
        Client c = Client.known();
        Checks.due("part(-1)", c.x.part(-1), NONE);
        Checks.due("part(9)", c.x.part(9), NONE);
        Checks.due("two at first", c.allocate(1), 0);
        Checks.due("two at first", c.at(1).allocate(1), 0);
        Checks.due("not three", c.at(2).allocate(1), 486);
        Checks.due("part(3)", c.x.part(3), 2);
        Checks.due("three", c.at(2).allocate(1), 0);
        Checks.due("part(0)", c.x.part(0), 3);
        Checks.due("more than the part", c.at(3).allocate(1), 486);
        Checks.due("they stay", c.x.count(2), 3);
        Checks.due("part(8)", c.x.part(8), 0);
        for (int i = 3; i < 8; i++) {
            Checks.due("ALLOCATION " + i, c.at(i).allocate(1), 0);
        }
        Checks.due("486 ahead of 508", c.at(8).allocate(1), 486);
        Checks.due("part(8) again", c.x.part(8), 8);
        RelayHouse x = new RelayHouse();
        x.user(Client.word("an"), Client.word("p1"));
        x.part(0);
        Checks.due("none at all", new Client(x, 1, 1).allocate(1), 486);
    }

    private static int permitted(int ip, int bits, int asked) {
        Client c = Client.known();
        c.allocate(1);
        Checks.due("forbid(" + ip + ", " + bits + ")", c.x.forbid(ip, bits), 1);
        int answer = c.permit(asked);
        Checks.due("the PERMISSION then", c.x.permission(0, asked), answer == 0 ? 300 : 0);
        Checks.due("ChannelBind likewise", c.bind(16384, asked, 9), answer);
        return answer;
    }

    private static void forbid() {
        Checks.due("32 bits", permitted(0x0a000001, 32, 0x0a000001), 403);
        Checks.due("32 bits, another", permitted(0x0a000001, 32, 0x0a000000), 0);
        Checks.due("31 bits", permitted(0x0a000001, 31, 0x0a000000), 403);
        Checks.due("31 bits, another", permitted(0x0a000001, 31, 0x0a000002), 0);
        Checks.due("8 bits", permitted(0x0a123456, 8, 0x0aff0000), 403);
        Checks.due("8 bits, another", permitted(0x0a123456, 8, 0x0b123456), 0);
        Checks.due("1 bit", permitted(-1, 1, Integer.MIN_VALUE), 403);
        Checks.due("1 bit, another", permitted(-1, 1, Integer.MAX_VALUE), 0);
        Checks.due("no bit", permitted(5, 0, -7), 403);
        RelayHouse x = new RelayHouse();
        Checks.due("bits -1", x.forbid(1, -1), NONE);
        Checks.due("bits 33", x.forbid(1, 33), NONE);
        for (int n = 1; n <= 4; n++) {
            Checks.due("forbid " + n, x.forbid(n, 32), n);
        }
        Checks.due("a 5th", x.forbid(5, 32), NONE);
        x.user(Client.word("an"), Client.word("p1"));
        Client c = new Client(x, 9, 9);
        c.allocate(1);
        Checks.due("the first of four", c.permit(1), 403);
        Checks.due("the last of four", c.permit(4), 403);
        Checks.due("the refused one", c.permit(5), 0);
        Checks.due("one of several", c.permit(6, 7, 2, 8), 403);
        Checks.due("then none of them", c.x.allocation(0, 5), 1);
    }

    private static void tick() {
        Client c = Client.known();
        c.x.part(8);
        Checks.due("tick(-1)", c.x.tick(-1), NONE);
        Checks.due("tick(10001)", c.x.tick(10001), NONE);
        Checks.due("TIME", c.x.count(0), 0);
        Checks.due("tick(0)", c.x.tick(0), 0);
        Checks.due("tick(10000)", c.x.tick(10000), 0);
        Checks.due("TIME", c.x.count(0), 10000);
        c.allocate(1);
        c.at(1).allocate(1, 700);
        c.at(2).allocate(1, 600);
        c.at(3).allocate(1, 3600);
        Checks.due("tick(599)", c.x.tick(599), 0);
        Checks.due("tick(1)", c.x.tick(1), 2);
        Checks.due("tick(0)", c.x.tick(0), 0);
        Checks.due("the others", c.x.count(2), 2);
        Checks.due("the first is gone", c.x.allocation(0, 0), NONE);
        Checks.due("the second stays", c.x.allocation(1, 4), 100);
        c.at(1).refresh(0);
        Checks.due("one that was over counts no more", c.x.tick(10000), 1);
        Checks.due("none", c.x.count(2), 0);
        Checks.due("TIME", c.x.count(0), 20600);
    }
}
