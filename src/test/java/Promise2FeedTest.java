/** Promise 2: feed. */
public final class Promise2FeedTest {
    public static void main(String[] args) {
        highestByteFirst();
        zerosAreNoSigns();
        fortySignsAndNoMore();
        signsAboveAscii();
        Desk.finish();
    }

    private static void highestByteFirst() {
        new Desk("order of bytes").feedWord(0x63617368, 4).feedWord(0x20352037, 8).line("", 7).trader(5, 7);
        new Desk("lowest first").feedWord(0x68736163, 4).feedWord(0x37203520, 8).line("", -11);
    }

    private static void zerosAreNoSigns() {
        new Desk("zeros").feedWord(0, 0).feedWord(0x63000061, 2).feedWord(0x00730068, 4).feedWord(0x00002030, 6)
                .feedWord(0, 6).feedWord(0x20000000, 7).feedWord(0x00000039, 8).count(5, 8).line("", 9).trader(0, 9)
                .count(5, 0);
    }

    private static void fortySignsAndNoMore() {
        Desk desk = new Desk("forty");
        for (int signs = 4; signs <= 36; signs += 4) {
            desk.feedWord(0x41414141, signs);
        }
        desk.feedWord(0x41414100, 39).feedWord(0x41410000, TradeFloor.FULL).count(5, 39);
        desk.feedWord(0x00004100, 40).feedWord(0, 40).feedWord(0x00000041, TradeFloor.FULL).count(5, 40);
        desk.count(2, 0).line("", -11).count(5, 0).count(2, 1).feedWord(0x41414141, 4);

        // The longest line there is has just forty signs.
        new Desk("longest line").lines("goods 7 9999").line("sell 0000007 0009999 at 0009999 until 99", 0)
                .order(0, 7, 1, 9999, 9999, 0, 99);
        // A word that has no room changes nothing, so that the line before it still stands.
        new Desk("full keeps").feed("cash 0 5").feed("                                ")
                .feedWord(0x41414141, TradeFloor.FULL).count(5, 40).line("", -11);
        new Desk("full keeps a line").lines("goods 7 9999").feed("sell 0000007 0009999 at 0009999 until 99")
                .feedWord(0x39, TradeFloor.FULL).line("", 0);
    }

    private static void signsAboveAscii() {
        new Desk("high signs").feedWord(-1, 4).feedWord(0x80000000, 5).feedWord(Integer.MIN_VALUE | 1, 7).line("", -11);
        // Signs whose low seven bits would spell a line.
        new Desk("high bits").feedWord(0xE3E1F3E8, 4).feedWord(0xA0B0A0B5, 8).line("", -11).trader(0, 0);
    }
}
