/** Promise 2: feed. */
public final class Promise2FeedTest {
    private static final int A = 0x41, WRONG_WORDS = -11;

    public static void main(String[] args) {
        highestByteFirst();
        zerosAreNoSigns();
        zerosAtEveryPlace();
        aWordOfZeros();
        justFortySigns();
        oneMoreThanForty();
        everyOtherByteIsASign();
        fullAddsNothing();
        fullIsNoRefusal();
        aLineEmptiesAFullTape();
        aLineOfFortySigns();
        signsAboveAscii();
        Desk.finish();
    }

    private static void highestByteFirst() {
        new Desk("order of bytes").feedWord(0x63617368, 4).feedWord(0x20352037, 8).line("", 7).trader(5, 7);
        new Desk("lowest first").feedWord(0x68736163, 4).feedWord(0x37203520, 8).line("", WRONG_WORDS);
    }

    private static void zerosAreNoSigns() {
        new Desk("zeros").feedWord(0, 0).feedWord(0x63000061, 2).feedWord(0x00730068, 4).feedWord(0x00002030, 6)
                .feedWord(0, 6).feedWord(0x20000000, 7).feedWord(0x00000039, 8).count(5, 8).line("", 9).trader(0, 9)
                .count(5, 0);
        // The digit 0 and the blank are signs, only the byte 0 is none.
        new Desk("digit 0").feedWord(0x30303030, 4).feedWord(0x20202020, 8);
    }

    /** A word with a 0 at each set of places: the other bytes come, in their order. */
    private static void zerosAtEveryPlace() {
        byte[] digits = {'1', '2', '3', '4'};
        for (int places = 0; places < 16; places++) {
            int word = 0;
            String rest = "";
            for (int i = 0; i < 4; i++) {
                boolean zero = (places >> i & 1) == 1;
                word = word << 8 | (zero ? 0 : digits[i]);
                rest += zero ? "" : (char) digits[i];
            }
            Desk desk = new Desk("zeros at " + places).feed("cash 3 ").feedWord(word, 7 + rest.length())
                    .count(5, 7 + rest.length());
            desk.line("", rest.isEmpty() ? WRONG_WORDS : Integer.parseInt(rest));
        }
    }

    private static void aWordOfZeros() {
        new Desk("on an empty tape").feedWord(0, 0).feedWord(0, 0).count(5, 0).line("", WRONG_WORDS);
        new Desk("within a line").feed("cash").feedWord(0, 4).feed(" 0 5").feedWord(0, 8).line("", 5);
        Desk full = filled(40);
        full.feedWord(0, 40).feedWord(0, 40).count(5, 40).feedWord(A, TradeFloor.FULL).feedWord(0, 40);
    }

    private static Desk filled(int signs) {
        Desk desk = new Desk("a tape of " + signs);
        for (int i = 1; i <= signs; i++) {
            desk.feedWord(A << 8 * (i % 4), i);
        }
        return desk;
    }

    private static void justFortySigns() {
        Desk fours = new Desk("ten words");
        for (int signs = 4; signs <= 40; signs += 4) {
            fours.feedWord(0x41414141, signs);
        }
        fours.count(5, 40);
        filled(40).count(5, 40);
        filled(39).feedWord(0x00410000, 40).count(5, 40);
        filled(38).feedWord(0x41000041, 40).count(5, 40);
        filled(37).feedWord(0x41004141, 40).count(5, 40);
        filled(36).feedWord(0x41414141, 40).count(5, 40);
    }

    private static void oneMoreThanForty() {
        filled(40).feedWord(A, TradeFloor.FULL).feedWord(A << 24, TradeFloor.FULL).feedWord(-1, TradeFloor.FULL);
        filled(39).feedWord(0x41000041, TradeFloor.FULL).count(5, 39).feedWord(0x00004100, 40);
        filled(38).feedWord(0x41410041, TradeFloor.FULL).count(5, 38).feedWord(0x00414100, 40);
        filled(37).feedWord(0x41414141, TradeFloor.FULL).count(5, 37).feedWord(0x00414141, 40);
    }

    private static void everyOtherByteIsASign() {
        for (int sign = 1; sign <= 255; sign++) {
            new Desk("sign " + sign).feedWord(sign, 1).feedWord(sign << 24, 2).feedWord(sign << 16 | sign << 8, 4);
            filled(39).feedWord(sign, 40).feedWord(sign, TradeFloor.FULL).feedWord(sign << 24, TradeFloor.FULL);
        }
    }

    private static void fullAddsNothing() {
        // The word that has no room brings none of its signs, so that the line before it still stands.
        String line = "sell 0000007 0009999 at 0009999 until 9";
        new Desk("not the first of two").lines("goods 7 9999").feed(line).feedWord(0x39390000, TradeFloor.FULL)
                .count(5, 39).line("", 0).orderWhat(0, 5, 9);
        new Desk("not the last").lines("goods 7 9999").feed(line + "9").feedWord(0x39, TradeFloor.FULL).count(5, 40)
                .line("", 0).orderWhat(0, 5, 99);
        new Desk("room is still used").lines("goods 7 9999").feed(line).feedWord(0x39393939, TradeFloor.FULL)
                .feedWord(0x38, 40).line("", 0).orderWhat(0, 5, 98);
    }

    private static void fullIsNoRefusal() {
        filled(40).feedWord(A, TradeFloor.FULL).feedWord(A, TradeFloor.FULL).count(2, 0).line("", WRONG_WORDS).count(2, 1);
    }

    private static void aLineEmptiesAFullTape() {
        Desk desk = filled(40).feedWord(A, TradeFloor.FULL).line("", WRONG_WORDS).count(5, 0);
        for (int signs = 4; signs <= 40; signs += 4) {
            desk.feedWord(0x41414141, signs);
        }
        desk.feedWord(A, TradeFloor.FULL).line("", WRONG_WORDS).line("cash 0 5", 5);
        // A word that filled the tape leaves nothing for the line behind.
        new Desk("a taken line").feed("cash 0 0000005").line("", 5).feedWord(0x31, 1).line("", WRONG_WORDS).trader(0, 5);
    }

    /** The longest line there is has just as many signs as the tape. */
    private static void aLineOfFortySigns() {
        new Desk("longest line").lines("goods 7 9999").feed("sell 0000007 0009999 at 0009999 until 99").count(5, 40)
                .line("", 0).order(0, 7, 1, 9999, 9999, 0, 99);
        new Desk("blank at the end").feed("cash 0 5                                ").count(5, 40)
                .line("", WRONG_WORDS).trader(0, 0);
    }

    private static void signsAboveAscii() {
        new Desk("high signs").feedWord(-1, 4).feedWord(0x80000000, 5).feedWord(Integer.MIN_VALUE | 1, 7)
                .feedWord(0x0000ff00, 8).feedWord(0x01000000, 9).line("", WRONG_WORDS);
        // Signs whose low seven bits would spell a line.
        new Desk("high bits").feedWord(0xE3E1F3E8, 4).feedWord(0xA0B0A0B5, 8).line("", WRONG_WORDS).trader(0, 0);
    }
}
