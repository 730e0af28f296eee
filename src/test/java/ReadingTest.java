/** Promises 1 to 5 and 9: a new object, the tape, the texts and their faults, the law that holds. */
public final class ReadingTest {
    private static final Checks CHECKS = new Checks("ReadingTest");

    public static void main(String[] args) {
        newObject();
        feeding();
        ending();
        cantonFaults();
        cantonBounds();
        lawFaults();
        depths();
        takingCanton();
        takingLaws();
        worth();
        conditions();
        CHECKS.finish();
    }

    private static void newObject() {
        SledgeVote x = new SledgeVote();
        for (int what = 0; what < 14; what++) {
            CHECKS.due("count(" + what + ")", x.count(what), what == 4 ? -1 : 0);
        }
        for (int what = 0; what < 5; what++) {
            CHECKS.due("status(" + what + ")", x.status(what), 0);
            CHECKS.due("rule(" + what + ")", x.rule(what), -1);
        }
        CHECKS.due("bump(0, 0)", x.bump(0, 0), -1);
        CHECKS.due("log(0, 0)", x.log(0, 0), SledgeVote.HIDDEN);
        CHECKS.due("undo()", x.undo(), -1);
    }

    private static void feeding() {
        SledgeVote x = new SledgeVote();
        CHECKS.due("nothing but 0", x.feed(0, 0, 0, 0, 0), 0);
        CHECKS.due("0 is left out", x.feed(0x6d000077, 0, 0x00320000, 0, 0x3b), 4);
        CHECKS.due("the highest first", x.fault(0), 4);
        CHECKS.due("it goes on", x.feed(0, 0, 0, 0, 0x6d), 5);
        CHECKS.due("text(0)", x.text(0), 2);
        CHECKS.due("weight", x.member(0, 0), 2);
        CHECKS.due("bytes above 127", x.feed(-1, -1, -1, -1, -1), 20);
        for (int i = 2; i <= 11; i++) {
            CHECKS.due("feed", x.feed(0x20202020, 0x20202020, 0x20202020, 0x20202020, 0x20202020), 20 * i);
        }
        CHECKS.due("239", x.feed(0x00202020, 0x20202020, 0x20202020, 0x20202020, 0x20202020), 239);
        CHECKS.due("241 is refused", x.feed(0x2020, 0, 0, 0, 0), -1);
        CHECKS.due("241 by the second number", x.feed(0, 0x2020, 0, 0, 0), -1);
        CHECKS.due("241 by the third number", x.feed(0, 0, 0x2020, 0, 0), -1);
        CHECKS.due("241 by the fourth number", x.feed(0, 0, 0, 0x20000020, 0), -1);
        CHECKS.due("none of it came", x.count(3), 239);
        CHECKS.due("240", x.feed(0, 0, 0x20000000, 0, 0), 240);
        CHECKS.due("nothing more at 240", x.feed(0, 0, 0, 0, 0), 240);
        CHECKS.due("one more", x.feed(0, 0, 0, 0, 1), -1);
    }

    private static void ending() {
        SledgeVote x = new SledgeVote();
        CHECKS.due("end(0) of an empty one", x.end(0), true);
        CHECKS.due("end(1) of an empty one", x.end(1), false);
        Checks.put(x, "mw2;m");
        CHECKS.due("end(-1)", x.end(-1), false);
        CHECKS.due("end(6)", x.end(6), false);
        CHECKS.due("end(5)", x.end(5), true);
        CHECKS.due("count(3)", x.count(3), 5);
        CHECKS.due("end(3)", x.end(3), true);
        CHECKS.due("end(4) then", x.end(4), false);
        CHECKS.due("text(0)", x.text(0), 1);
        CHECKS.due("weight", x.member(0, 0), 2);
        Checks.put(x, "m;   w3");
        x.end(2);
        CHECKS.due("what stood behind is gone", x.fault(0), 2);
    }

    private static void canton(String text, int want) {
        CHECKS.due("fault(0) of [" + text + "]", Checks.fault(0, text), want);
    }

    private static void cantonFaults() {
        CHECKS.due("fault(-1)", Checks.fault(-1, "m"), -2);
        CHECKS.due("fault(2)", Checks.fault(2, "m"), -2);
        canton("", 0);
        canton("  ", 2);
        canton("m", -1);
        canton(" m ", -1);
        canton("m;", 2);
        canton("m; ", 3);
        canton(";m", 0);
        canton("m;;m", 2);
        canton("b", 1);
        canton("i;s", 3);
        canton("m;s;s", 4);
        canton("x", 0);
        canton("M", 0);
        canton("mw", 2);
        canton("mw ", 3);
        canton("mw;", 2);
        canton("mwl1", 2);
        canton("m w 3", -1);
        canton("mw3 3", 4);
        canton("m3", 1);
        canton("mw3w3", 3);
        canton("mw3l1w3", 5);
        canton("mk3", 1);
        canton("bw3", 1);
        canton("ic3", 1);
        canton("sk3", 1);
        canton("m\t", 1);
        canton("m" + (char) 160, 1);
        canton("m" + (char) 255, 1);
        canton("mw03;m", -1);
        canton("mw003;m", 4);
        canton("mw100", 4);
        canton("mw990", 4);
        canton("mw1 0", 4);
        canton("sw3o3;m", 7);
        canton("sw3;m", -1);
        canton("sw3o2;m", -1);
        canton("so5;m", 5);
        canton("bc5;m", 5);
        canton("bc8;m;sw9", -1);
        canton("bc8;m;sw8", 9);
        canton("b;br1c0;m", 9);
        canton("b;br2;bc1;m", -1);
        canton("i;m;ir0", 7);
        canton("i;ir1;m", -1);
        canton("b;b;x", 4);
        canton("br1;br2;br3;br4;br5;br6;m", -1);
        canton("br1;br2;br3;br4;br5;br6;b", 24);
        canton("b;b;b;b;b;b; b", 13);
        canton("i;ir1;ir2;ir3;m", -1);
        canton("i;ir1;ir2;ir3;i", 14);
        canton("m;m;m;m;m;m", -1);
        canton("m;m;m;m;m;m;m", 12);
        canton("m;m;m;m;m;m;", 12);
    }

    private static void cantonBounds() {
        String[] items = {"sw 3 9", "so 0 4", "sg 1 60", "sr 1 20", "sy 0 9", "br 1 20", "bc 0 4", "bk 1 9", "bd 0 1",
            "ir 0 19", "mw 1 9", "ml 0 2", "mh 0 9", "ms 0 9"};
        for (String item : items) {
            String[] parts = item.split(" ");
            int low = Integer.parseInt(parts[1]);
            int high = Integer.parseInt(parts[2]);
            for (int n = 0; n < 100; n++) {
                String text = parts[0] + n;
                boolean column = parts[0].equals("so") || parts[0].equals("bc");
                int last = text.length() - 1;
                int beyond = column && n <= 8 ? text.length() + 2 : last;
                canton(text + ";m", n >= low && n <= high ? -1 : beyond);
            }
        }
    }

    private static void law(String text, int want) {
        CHECKS.due("fault(1) of [" + text + "]", Checks.fault(1, text), want);
    }

    private static void lawFaults() {
        law("", 0);
        law(" ", 1);
        law("y", 1);
        law("y:", 2);
        law("x:1", 0);
        law("y1", 1);
        law("y:1", -1);
        law(" y : 1 ", -1);
        law("y:1;", 4);
        law("y:1;y:2", -1);
        law("y:1 ; y : 2", -1);
        law("y:1;;", 4);
        law("y:1y:2", 3);
        law("y:x", 2);
        law("y:y", 2);
        for (char letter : "whpnrc".toCharArray()) {
            law("y:" + letter, -1);
        }
        law("y:1234", -1);
        law("y:12345", 6);
        law("y:00000", 6);
        law("y:12 34", 5);
        law("y:w1", 3);
        law("y:[w]", -1);
        law("y:[w", 4);
        law("y:[]", 3);
        law("y:w]", 3);
        law("y:(w)", 4);
        law("y:(w=1)", 7);
        law("y:(w=1)?1", -1);
        law("y:(w=1)+1?1", 7);
        law("y:(w=1", 6);
        law("y:w=1)?1", 5);
        law("y:w=1", 5);
        law("y:w=1;", 5);
        law("y:w=1?", 6);
        law("y:w=1?2", -1);
        law("y:w=1?2?3", 7);
        law("y:w=1?h=2", 7);
        law("y:w=1?(h)", 6);
        law("y:w?1", 3);
        law("y:w=1=1", 5);
        law("y:w==1", 4);
        law("y:!w=1?1", -1);
        law("y:!w?1", 4);
        law("y:!", 3);
        law("y:w=!1", 4);
        law("y:[!w]", 3);
        law("y:w=1&h=2|n>3?r", -1);
        law("y:w=1&!h<2|(n>3|n<1)?r", -1);
        law("y:w=1&?1", 6);
        law("y:w=1|&", 6);
        law("y:w&h", 3);
        law("y:1+", 4);
        law("y:+1", 2);
        law("y:-1", 2);
        law("y:1*/2", 4);
        law("y:1+2-3*4/5", -1);
        law("y:w" + (char) 200, 3);
    }

    private static void depths() {
        law("y:[[[[[[w]]]]]]", -1);
        law("y:[[[[[[[w]]]]]]]", 8);
        law("y:!!!!!!w=1?1", -1);
        law("y:!!!!!!!w=1?1", 8);
        law("y:((((((w=1))))))?1", -1);
        law("y:(((((((w=1)))))))?1", 8);
        law("y:!(!(!(w=1)))?1", -1);
        law("y:!(!(!([w]=1)))?1", 8);
        law("y:!(!(![w]=[w]))?1", -1);
        law("y:!(!(![[w]]=1))?1", 8);
        law("y:((((((w=1))))))&[[[[[[w]]]]]]=1?[[[[[[1]]]]]]", -1);
        law("y:!!!!!!w=1&!w=1|!!!!!!w=1?1", -1);
        law("y:w=[[[[[[[1", 10);
    }

    private static void takingCanton() {
        SledgeVote x = new SledgeVote();
        CHECKS.due("empty", x.text(0), -1);
        Checks.put(x, "m;b;b");
        CHECKS.due("a fault", x.text(0), -1);
        CHECKS.due("the tape stays", x.count(3), 5);
        CHECKS.due("text(2)", x.text(2), -1);
        CHECKS.due("text(-1)", x.text(-1), -1);
        CHECKS.due("taken", Checks.canton(x, "sr2y4;br2c1k2d1;ir1;ml2;mw6;m"), 3);
        CHECKS.due("the tape is empty", x.count(3), 0);
        Checks.law(x, "y:7");
        x.dogs(4);
        x.lean(9, 9);
        x.rows(2);
        x.walk();
        x.strew(0);
        x.change(0, 1);
        x.heel(2);
        x.seen(1, 1, true);
        x.image();
        Checks.put(x, "m;q");
        CHECKS.due("a fault", x.text(0), -1);
        CHECKS.due("nothing is changed", x.count(8) * 100 + x.count(13) * 10 + x.count(10), 161);
        CHECKS.due("another one", Checks.canton(x, "m;m"), 2);
        int[] want = {2, 0, 1, 0, 0, 0, 2, 3, 0, 4, 0, 0, 0, 0};
        for (int what = 0; what < 14; what++) {
            CHECKS.due("count(" + what + ")", x.count(what), want[what]);
        }
        CHECKS.due("no image", x.back(), -1);
        CHECKS.due("status stays", x.status(0), 1);
        CHECKS.due("no ice, no bumps of the one ahead", Checks.canton(x, "b;i;mw9"), 1);
        int[] bump = {1, 0, 3, 0, 0};
        for (int what = 0; what < 5; what++) {
            CHECKS.due("bump(0, " + what + ")", x.bump(0, what), bump[what]);
        }
        CHECKS.due("again", Checks.canton(x, "m;m"), 2);
        CHECKS.due("no ice, no bumps", x.count(1) * 10 + x.count(11), 0);
        CHECKS.due("log", x.log(0, 0), SledgeVote.HIDDEN);
        int[] rules = {5, 2, 6, 10, 3};
        for (int what = 0; what < 5; what++) {
            CHECKS.due("rule(" + what + ")", x.rule(what), rules[what]);
        }
        int[] member = {3, 1, 3, 2, 1, 1, 7};
        for (int what = 0; what < 7; what++) {
            CHECKS.due("member(1, " + what + ")", x.member(1, what), member[what]);
        }
    }

    private static void takingLaws() {
        SledgeVote x = new SledgeVote();
        CHECKS.due("no law", x.law(0), false);
        CHECKS.due("none", x.law(-1), true);
        Checks.put(x, "y:w=1");
        CHECKS.due("a fault", x.text(1), -1);
        CHECKS.due("the tape stays", x.count(3), 5);
        for (int i = 0; i < 4; i++) {
            x.end(0);
            Checks.put(x, "y:" + (10 + i));
            CHECKS.due("law " + i, x.text(1), i);
            CHECKS.due("the tape is empty", x.count(3), 0);
            CHECKS.due("none holds", x.count(4), -1);
        }
        Checks.put(x, "y:1");
        CHECKS.due("a fifth one", x.text(1), -1);
        CHECKS.due("the tape stays", x.count(3), 3);
        CHECKS.due("laws", x.count(2), 4);
        CHECKS.due("law(4)", x.law(4), false);
        CHECKS.due("law(-2)", x.law(-2), false);
        Checks.canton(x, "mw5");
        CHECKS.due("without: the weight", x.member(0, 6), 5);
        for (int i = 3; i >= 0; i--) {
            CHECKS.due("law(" + i + ")", x.law(i), true);
            CHECKS.due("law(" + i + ") again", x.law(i), true);
            CHECKS.due("count(4)", x.count(4), i);
            CHECKS.due("its worth", x.member(0, 6), 10 + i);
        }
        CHECKS.due("none again", x.law(-1), true);
        CHECKS.due("the weight", x.member(0, 6), 5);
    }

    /** PUSH of the second of three, who sits third, in row 1. */
    private static void push(String law, int want) {
        SledgeVote x = Checks.of("so3r5;mw2;mw4h7;mw5");
        Checks.law(x, law);
        x.change(1, 2);
        x.rows(1);
        CHECKS.due("push by " + law, x.member(1, 6), want);
    }

    private static void worth() {
        push("y:w", 4);
        push("y:h", 7);
        push("y:p", 2);
        push("y:n", 3);
        push("y:r", 1);
        push("y:c", 3);
        push("y:w*10+h", 47);
        push("y:2+3*4", 14);
        push("y:[2+3]*4", 20);
        push("y:20-5-3", 12);
        push("y:20-[5-3]", 18);
        push("y:40/4/2", 5);
        push("y:7/2*2", 6);
        push("y:[0-7]/2+10", 7);
        push("y:7/[0-2]+10", 7);
        push("y:5/0+3", 3);
        push("y:5/[w-4]*9+3", 3);
        push("y:0-5", 0);
        push("y:99", 99);
        push("y:100", 99);
        push("y:0007", 7);
        push("y:9999*9999/9999-90", 10);
        push("y:[0-9999*9999]/9999+150", 50);
        push("y:9999*[0-9999]/9999+150", 50);
        push("y:1000*1000/1000-950", 50);
        push("y:[0-1000*1000]/1000+1050", 50);
        push("y:1000*1000+1000*100-1000*1000+7", 7);
        push("y:0-1000*1000-1000*100+1000*1000+7", 7);
        push("y:1000*1000*1000*1000*1000*1000*1000/9999/2", 50);
    }

    private static void conditions() {
        push("y:w>9?5", 0);
        push("y:w>9?5;y:h=7?6;y:8", 6);
        push("y:w=4?5;y:8", 5);
        push("y:w<4?5;y:8", 8);
        push("y:w>4?5;y:8", 8);
        push("y:w<5?5;y:8", 5);
        push("y:w>3?5;y:8", 5);
        push("y:8;y:9", 8);
        push("y:1=1|1=2&1=2?7;y:3", 7);
        push("y:1=2&1=2|1=1?7;y:3", 7);
        push("y:(1=1|1=2)&1=2?7;y:3", 3);
        push("y:!1=2&1=2?7;y:3", 3);
        push("y:!(1=2&1=2)?7;y:3", 7);
        push("y:!!1=2?7;y:3", 3);
        push("y:1+1=2*1&3-1=4/2?7;y:3", 7);
        push("y:((w=1|w=4)&!(h<7|h>7))?p*10;y:3", 20);
        push("y:1=1&1=1&1=2?7;y:3", 3);
        push("y:1=2|1=2|1=1?7;y:3", 7);
        push("y:1=2?1;".repeat(29) + "y:5", 5);
    }
}
