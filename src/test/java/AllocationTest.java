/** Promise 19: Allocate, Refresh, CreatePermission, ChannelBind. */
public final class AllocationTest {
    private static final int NONE = RelayHouse.NONE;

    public static void main(String[] args) {
        allocateOrder();
        allocateAgain();
        lifetimes();
        slotsAndPorts();
        noneFree();
        refresh();
        permissions();
        permissionLimit();
        channels();
        channelLimits();
        clearedWithTheAllocation();
        Checks.close();
    }

    private static void allocateOrder() {
        Client c = Client.known();
        c.x.part(0);
        Checks.due("without TRANSPORT", c.open(3, 1).signedGo(), 400);
        Checks.due("TRANSPORT 6", c.open(3, 1).number(25, 4, 6 << 24).signedGo(), 442);
        Checks.due("TRANSPORT 17 elsewhere", c.open(3, 1).number(25, 4, 17).signedGo(), 442);
        Checks.due("no part", c.allocate(1), 486);
        Checks.due("signed", c.isSealed(1) ? 1 : 0, 1);
        c.x.part(1);
        Checks.due("a part", c.allocate(1), 0);
        Checks.due("ATTRIBUTES", c.x.sent(6), 4);
        Checks.due("437 ahead of 400", c.open(3, 2).signedGo(), 437);
        Checks.due("ERROR, INTEGRITY", c.x.sent(6), 2);
        Checks.due("another PORT is another client", c.at(1).allocate(1), 486);
        Checks.due("another IP is another client", new Client(c.x, 1, c.port).allocate(1), 486);
    }

    private static void allocateAgain() {
        Client c = Client.known();
        c.x.user('b', 'b');
        c.x.message(3, 1, 2, 3);
        c.number(25, 4, Client.UDP).number(13, 4, 1000);
        Checks.due("Allocate", c.signedGo(), 0);
        c.x.tick(400);
        c.x.message(3, 1, 2, 3);
        c.number(25, 4, Client.UDP).number(13, 4, 2000);
        Checks.due("the same ID", c.signedGo(), 0);
        Checks.due("PORT", c.x.attribute(0, 4), 49152);
        Checks.due("LIFETIME is what is left", c.x.attribute(1, 3), 600);
        Checks.due("MAPPED", c.x.attribute(2, 4), c.port);
        Checks.due("nothing changes", c.x.allocation(0, 4), 600);
        Checks.due("nor is there another", c.x.count(2), 1);
        c.x.message(3, 1, 2, 3);
        Checks.due("without TRANSPORT", c.signedGo(), 0);
        Checks.due("all ATTRIBUTES", c.x.sent(6), 4);
        int[][] others = {{0, 2, 3}, {1, 0, 3}, {1, 2, 0}};
        for (int[] id : others) {
            c.x.message(3, id[0], id[1], id[2]);
            Checks.due("another ID", c.number(25, 4, Client.UDP).signedGo(), 437);
        }
        c.x.message(3, 1, 2, 3);
        Checks.due("another USER with that ID", c.as("b", "b").signedGo(), 0);
        Checks.due("signed with its KEY", c.isSealed(3) ? 1 : 0, 1);
        Checks.due("the USER stays", c.x.allocation(0, 2), 0);
    }

    private static void lifetimes() {
        int[][] told = {{0, 600}, {1, 600}, {599, 600}, {600, 600}, {601, 601}, {3599, 3599}, {3600, 3600},
            {3601, 3600}, {Integer.MAX_VALUE, 3600}, {Integer.MIN_VALUE, 3600}, {-1, 3600}};
        for (int[] one : told) {
            Client c = Client.known();
            Checks.due("Allocate with LIFETIME " + one[0], c.allocate(1, one[0]), 0);
            Checks.due("LIFETIME", c.x.attribute(1, 3), one[1]);
            Checks.due("seconds left", c.x.allocation(0, 4), one[1]);
            if (one[0] != 0) {
                c.x.tick(100);
                Checks.due("Refresh with LIFETIME " + one[0], c.refresh(one[0]), 0);
                Checks.due("LIFETIME", c.x.attribute(0, 3), one[1]);
                Checks.due("seconds left", c.x.allocation(0, 4), one[1]);
            }
        }
        Client c = Client.known();
        Checks.due("no LIFETIME", c.allocate(1), 0);
        Checks.due("is 600", c.x.attribute(1, 3), 600);
    }

    private static void slotsAndPorts() {
        Client c = Client.known();
        c.x.part(8);
        for (int i = 0; i < 4; i++) {
            c.at(100 + i).allocate(1, i == 1 ? 600 : 3600);
            Checks.due("PORT of " + i, c.x.allocation(i, 3), 49152 + i);
        }
        c.at(102).refresh(0);
        c.x.tick(600);
        Checks.due("1 is gone", c.x.allocation(1, 0), NONE);
        Checks.due("2 is gone", c.x.allocation(2, 0), NONE);
        c.at(200).allocate(1);
        Checks.due("the lowest that is free", c.x.allocation(1, 1), 200);
        Checks.due("the lowest PORT", c.x.allocation(1, 3), 49153);
        c.at(100).refresh(0);
        c.at(201).allocate(1);
        Checks.due("the lowest that is free", c.x.allocation(0, 1), 201);
        Checks.due("the lowest PORT", c.x.allocation(0, 3), 49152);
        c.at(202).allocate(1);
        Checks.due("the next one", c.x.allocation(2, 1), 202);
        Checks.due("the next PORT", c.x.allocation(2, 3), 49154);
        c.at(203).allocate(1);
        Checks.due("behind all", c.x.allocation(4, 3), 49156);
        Checks.due("its answer", c.x.attribute(0, 4), 49156);
    }

    private static void noneFree() {
        Client c = Client.known();
        c.x.user('b', 'b');
        c.x.part(7);
        for (int i = 1; i <= 7; i++) {
            Checks.due("ALLOCATION " + i, c.at(i).allocate(1), 0);
        }
        Checks.due("of another USER", c.at(8).as("b", "b").allocate(1), 0);
        Checks.due("its number", c.x.allocation(7, 2), 1);
        Checks.due("none is free", c.at(9).as("b", "b").allocate(1), 508);
        Checks.due("486 ahead of it", c.at(9).allocate(1), 486);
        c.at(3).refresh(0);
        Checks.due("one is free", c.at(9).as("b", "b").allocate(1), 0);
        Checks.due("with that PORT", c.x.attribute(0, 4), 49154);
    }

    private static void refresh() {
        Client c = Client.known();
        c.x.user('b', 'b');
        Checks.due("without ALLOCATION", c.refresh(600), 437);
        c.allocate(1);
        Checks.due("from elsewhere", c.at(1).refresh(600), 437);
        Checks.due("of another USER", new Client(c.x, c.ip, c.port).as("b", "b").refresh(0), 441);
        Checks.due("it is still there", c.x.count(2), 1);
        c.x.tick(599);
        Checks.due("Refresh", c.open(4, 1).signedGo(), 0);
        Checks.due("LIFETIME alone, and INTEGRITY", c.x.sent(6), 2);
        Checks.due("kind", c.x.attribute(0, 0), 13);
        Checks.due("600 from now on", c.x.allocation(0, 4), 600);
        Checks.due("signed", c.isSealed(1) ? 1 : 0, 1);
        Checks.due("Refresh with 3000", c.refresh(3000), 0);
        Checks.due("shorter is fine", c.refresh(600), 0);
        Checks.due("seconds left", c.x.allocation(0, 4), 600);
        Checks.due("Refresh with 0", c.refresh(0), 0);
        Checks.due("LIFETIME 0", c.x.attribute(0, 3), 0);
        Checks.due("LIFETIME, INTEGRITY", c.x.sent(6), 2);
        Checks.due("it is over now", c.x.count(2), 0);
        Checks.due("again", c.refresh(0), 437);
        Checks.due("Allocate of the same ID makes a new one", c.allocate(1, 900), 0);
        Checks.due("seconds left", c.x.allocation(0, 4), 900);
    }

    private static void permissions() {
        Client c = Client.known();
        c.x.user('b', 'b');
        Checks.due("without ALLOCATION", c.open(8, 1).signedGo(), 437);
        c.allocate(1, 3600);
        Checks.due("of another USER", new Client(c.x, c.ip, c.port).as("b", "b").permit(1), 441);
        Checks.due("without PEER", c.permit(), 400);
        Checks.due("three", c.permit(1, -2, 3), 0);
        Checks.due("INTEGRITY alone", c.x.sent(6), 1);
        Checks.due("signed", c.isSealed(0) ? 1 : 0, 1);
        Checks.due("PERMISSIONS", c.x.allocation(0, 5), 3);
        Checks.due("for each", c.x.permission(0, -2), 300);
        Checks.due("no other", c.x.permission(0, 2), 0);
        c.x.tick(100);
        Checks.due("two again", c.permit(3, 4, 3, 4), 0);
        Checks.due("PERMISSIONS", c.x.allocation(0, 5), 4);
        Checks.due("an old one", c.x.permission(0, 1), 200);
        Checks.due("a renewed one", c.x.permission(0, 3), 300);
        c.x.tick(199);
        Checks.due("a second left", c.x.permission(0, 1), 1);
        c.x.tick(1);
        Checks.due("over", c.x.permission(0, 1), 0);
        Checks.due("PERMISSIONS", c.x.allocation(0, 5), 2);
        Checks.due("those that stay", c.x.permission(0, 3), 100);
        Checks.due("those that stay", c.x.permission(0, 4), 100);
        c.x.forbid(5, 32);
        Checks.due("FORBIDDEN ahead of 508", c.permit(5, 11, 12, 13, 14, 15, 16, 17, 18, 19, 20, 21, 22, 23, 24, 25), 403);
        c.x.forbid(3, 32);
        Checks.due("one that there is stays", c.x.permission(0, 3), 100);
        Checks.due("but isn't renewed", c.permit(6, 3), 403);
        Checks.due("a request ahead does not count", c.permit(6), 0);
    }

    private static void permissionLimit() {
        Client c = Client.known();
        c.allocate(1, 3600);
        Checks.due("ten", c.permit(1, 2, 3, 4, 5, 6, 7, 8, 9, 10), 0);
        c.x.tick(10);
        Checks.due("seven more", c.permit(1, 11, 12, 13, 14, 15, 16, 17), 508);
        Checks.due("signed", c.isSealed(1) ? 1 : 0, 1);
        Checks.due("nothing is done", c.x.allocation(0, 5), 10);
        Checks.due("nor renewed", c.x.permission(0, 1), 290);
        Checks.due("six more, some twice", c.permit(11, 12, 13, 14, 15, 16, 16, 15, 1, 2), 0);
        Checks.due("sixteen", c.x.allocation(0, 5), 16);
        Checks.due("a seventeenth", c.permit(17), 508);
        Checks.due("those that there are", c.permit(1, 16, 8), 0);
        Checks.due("seventeen at once", fresh().permit(1, 2, 3, 4, 5, 6, 7, 8, 9, 10, 11, 12, 13, 14, 15, 16, 17), 508);
        Checks.due("sixteen at once", fresh().permit(1, 2, 3, 4, 5, 6, 7, 8, 9, 10, 11, 12, 13, 14, 15, 16), 0);
        Checks.due("a 17th by ChannelBind", c.bind(16384, 17, 1), 508);
        Checks.due("no CHANNEL then", c.x.allocation(0, 6), 0);
        Checks.due("to one that there is", c.bind(16384, 16, 1), 0);
        c.x.tick(290);
        Checks.due("when some are over", c.x.allocation(0, 5), 9);
        Checks.due("there is room", c.permit(17, 18, 19, 20, 21, 22, 23), 0);
        Checks.due("sixteen", c.x.allocation(0, 5), 16);
    }

    private static Client fresh() {
        Client c = Client.known();
        c.allocate(1);
        return c;
    }

    private static void channels() {
        Client c = Client.known();
        c.x.user('b', 'b');
        Checks.due("without ALLOCATION", c.bind(16384, 1, 1), 437);
        c.allocate(1, 3600);
        Checks.due("of another USER", new Client(c.x, c.ip, c.port).as("b", "b").bind(16384, 1, 1), 441);
        Checks.due("without CHANNEL", c.open(9, 1).peer(1, 1).signedGo(), 400);
        Checks.due("without PEER", c.open(9, 1).number(12, 4, 16384 << 16).signedGo(), 400);
        for (int number : new int[] {0, 16383, 20480, 32768, 65535}) {
            Checks.due("number " + number, c.bind(number, 1, 1), 400);
        }
        Checks.due("the lowest", c.bind(16384, 1, 1), 0);
        Checks.due("INTEGRITY alone", c.x.sent(6), 1);
        Checks.due("signed", c.isSealed(0) ? 1 : 0, 1);
        Checks.due("the highest", c.bind(20479, 1, 65535), 0);
        Checks.due("one PERMISSION", c.x.allocation(0, 5), 1);
        c.x.forbid(9, 32);
        Checks.due("a number that another PORT has", c.bind(16384, 1, 2), 400);
        Checks.due("a number that another IP has", c.bind(16384, 9, 1), 400);
        Checks.due("a peer that has another number", c.bind(16385, 1, 1), 400);
        Checks.due("crosswise", c.bind(20479, 1, 1), 400);
        Checks.due("FORBIDDEN", c.bind(16385, 9, 1), 403);
        Checks.due("two CHANNELS", c.x.allocation(0, 6), 2);
        c.x.tick(250);
        Checks.due("renewed", c.bind(16384, 1, 1), 0);
        Checks.due("seconds", c.x.channel(0, 16384), 600);
        Checks.due("the PERMISSION's", c.x.permission(0, 1), 300);
        Checks.due("the other's", c.x.channel(0, 20479), 350);
        c.x.tick(300);
        Checks.due("it outlives its PERMISSION", c.x.channel(0, 16384), 300);
        Checks.due("which is over", c.x.permission(0, 1), 0);
        c.x.tick(50);
        Checks.due("the other is over", c.x.channel(0, 20479), 0);
        Checks.due("one is left", c.x.allocation(0, 6), 1);
        Checks.due("its number is free", c.bind(20479, 2, 2), 0);
        Checks.due("and its peer", c.bind(16386, 1, 65535), 0);
        Client other = c.at(1);
        other.allocate(1);
        Checks.due("another ALLOCATION has its own", other.bind(16384, 2, 2), 0);
        Checks.due("CHANNEL", c.x.channel(1, 16384), 600);
    }

    private static void channelLimits() {
        Client c = Client.known();
        c.allocate(1, 3600);
        for (int i = 0; i < 8; i++) {
            Checks.due("CHANNEL " + i, c.bind(16384 + i, 100 + i, 1), 0);
        }
        Checks.due("a 9th", c.bind(16400, 1, 1), 508);
        Checks.due("signed", c.isSealed(1) ? 1 : 0, 1);
        Checks.due("no PERMISSION either", c.x.permission(0, 1), 0);
        Checks.due("renewing one", c.bind(16387, 103, 1), 0);
        Checks.due("400 ahead of 508", c.bind(16387, 1, 1), 400);
        c.x.forbid(1, 32);
        Checks.due("403 ahead of 508", c.bind(16400, 1, 1), 403);
        c.x.tick(300);
        c.bind(16384, 100, 1);
        c.x.tick(300);
        Checks.due("one is left", c.x.allocation(0, 6), 1);
        Checks.due("it is the one", c.x.channel(0, 16384), 300);
        Checks.due("there is room", c.bind(16400, 2, 1), 0);
    }

    private static void clearedWithTheAllocation() {
        Client c = Client.known();
        c.allocate(1);
        c.bind(16384, 1, 1);
        c.permit(2);
        c.refresh(0);
        c.allocate(2);
        Checks.due("no PERMISSIONS", c.x.allocation(0, 5), 0);
        Checks.due("no CHANNELS", c.x.allocation(0, 6), 0);
        Checks.due("no PERMISSION", c.x.permission(0, 2), 0);
        Checks.due("no CHANNEL", c.x.channel(0, 16384), 0);
        c.x.tick(1);
        Checks.due("nor later", c.x.allocation(0, 5), 0);
        Checks.due("nor later", c.x.allocation(0, 6), 0);
        c.x.tick(589);
        c.bind(16384, 1, 1);
        c.x.tick(10);
        Checks.due("over with it", c.x.channel(0, 16384), 0);
        Checks.due("over with it", c.x.permission(0, 1), 0);
        c.allocate(3);
        Checks.due("no CHANNEL", c.x.channel(0, 16384), 0);
        Checks.due("no PERMISSION", c.x.permission(0, 1), 0);
    }
}
