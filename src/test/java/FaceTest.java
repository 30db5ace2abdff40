import java.lang.reflect.Member;
import java.lang.reflect.Modifier;
import java.util.ArrayList;
import java.util.Arrays;
import java.util.List;
import java.util.Random;
import java.util.TreeSet;

/** The public face: just the document's members, and no call that throws, whatever it is given. */
public final class FaceTest {
    public static void main(String[] args) {
        membersAreTheDocuments();
        Desk.check(TradeFloor.REFUSED == -1 && TradeFloor.FULL == -3, "the constants");
        noCallThrows();
        Desk.finish();
    }

    private static void membersAreTheDocuments() {
        List<Member> members = new ArrayList<>();
        members.addAll(Arrays.asList(TradeFloor.class.getDeclaredMethods()));
        members.addAll(Arrays.asList(TradeFloor.class.getDeclaredFields()));
        members.addAll(Arrays.asList(TradeFloor.class.getDeclaredConstructors()));
        TreeSet<String> seen = new TreeSet<>();
        for (Member member : members) {
            if (!Modifier.isPrivate(member.getModifiers())) {
                seen.add(member.toString());
            }
        }
        TreeSet<String> due = new TreeSet<>(List.of("public TradeFloor()", "public int TradeFloor.feed(int)",
                "public int TradeFloor.line()", "public int TradeFloor.order(int,int)",
                "public long TradeFloor.trader(int,int)", "public int TradeFloor.level(int,int,int)",
                "public int TradeFloor.trade(int,int)", "public int TradeFloor.count(int)",
                "public static final int TradeFloor.REFUSED", "public static final int TradeFloor.FULL"));
        Desk.check(seen.equals(due), "the face is " + seen);
        Desk.check(Modifier.isFinal(TradeFloor.class.getModifiers()), "the class is final");
    }

    private static void noCallThrows() {
        Random random = new Random(1);
        int[] numbers = {Integer.MIN_VALUE, -200, -2, -1, 0, 1, 2, 3, 4, 5, 6, 7, 8, 39, 40, 199, 200, Integer.MAX_VALUE};
        for (int run = 0; run < 200; run++) {
            TradeFloor floor = new TradeFloor();
            for (int call = 0; call < 512; call++) {
                int a = numbers[random.nextInt(numbers.length)];
                int b = numbers[random.nextInt(numbers.length)];
                int c = numbers[random.nextInt(numbers.length)];
                try {
                    oneCall(floor, random, a, b, c);
                } catch (RuntimeException e) {
                    Desk.check(false, "a call threw " + e);
                }
            }
        }
    }

    private static void oneCall(TradeFloor floor, Random random, int a, int b, int c) {
        switch (random.nextInt(8)) {
            case 0: floor.feed(random.nextInt()); break;
            case 1: floor.feed(a); break;
            case 2: floor.line(); break;
            case 3: floor.order(a, b); break;
            case 4: floor.trader(a, b); break;
            case 5: floor.level(a, b, c); break;
            case 6: floor.trade(a, b); break;
            default: floor.count(a); break;
        }
    }
}
