/** For each promise of the document a run: ordinary inputs, the edges, wrong inputs. */
public final class PromiseTest {
    private static final Script script = new Script();

    public static void main(String[] args) {
        makeAndMark();
        sowAndMove();
        changeStates();
        makeOthers();
        askWhatIsThere();
        askForWords();
        askForLeast();
        askForNumbers();
        askOfTwo();
        askOfPairs();
        askOfTogether();
        askOfTheWhole();
        for (String wrong : script.wrong()) {
            System.out.println(wrong);
        }
        System.out.println("PromiseTest: " + script.calls() + " calls, " + script.wrong().size() + " wrong");
        if (!script.wrong().isEmpty()) {
            System.exit(1);
        }
    }

    private static void play(String name, String lines) {
        script.play(name, lines);
    }

    private static void makeAndMark() {
        play("1 A new object", """
                tell 0 0 = 1
                tell 0 1 = 0
                tell 0 2 = 1
                tell 0 3 = 0
                tell 0 4 = 0
                tell 1 0 = 1
                tell 2 0 = 1
                tell 3 0 = 1
                tell 3 1 = 0
                tell 3 2 = 1
                tell 3 3 = 0
                house 0 = 0
                house 1 = 0
                house 2 = 0
                """);
        play("2 begin", """
                begin 0 7 = 0
                tell 0 0 = 7
                tell 0 2 = 1
                arrow 0 6 2 6 true = 1
                arrow 0 0 0 6 true = 1
                mark 0 6 true true = 1
                mark 0 0 false false = 1
                mark 0 5 false true = 1
                begin 0 7 = 2
                tell 0 1 = 0
                tell 0 2 = 1
                tell 0 3 = 0
                arrow 0 6 2 6 true = 1
                begin 0 1 = 1
                tell 0 0 = 1
                grow 0 = 1
                begin 0 8 = IAE
                begin 0 0 = IAE
                begin 0 -1 = IAE
                begin 4 3 = IOOBE
                begin -1 3 = IOOBE
                begin 4 8 = IOOBE
                begin 3 2 = 0
                tell 2 0 = 1
                """);
        play("3 arrow", """
                begin 1 3 = 0
                arrow 1 0 0 1 true = 1
                arrow 1 0 0 1 true = 0
                arrow 1 0 0 2 true = 1
                arrow 1 0 0 0 true = 1
                arrow 1 2 2 0 true = 1
                arrows 1 0 0 = 7
                arrows 1 2 2 = 1
                arrow 1 0 0 1 false = 1
                arrow 1 0 0 1 false = 0
                arrows 1 0 0 = 5
                tell 1 1 = 3
                arrow 1 1 1 1 false = 0
                arrow 1 3 0 0 true = IOOBE
                arrow 1 0 0 3 true = IOOBE
                arrow 1 -1 0 0 true = IOOBE
                arrow 1 0 0 -1 true = IOOBE
                arrow 4 0 0 0 true = IOOBE
                arrow -1 0 0 0 true = IOOBE
                arrow 1 0 3 0 true = IAE
                arrow 1 0 -1 0 true = IAE
                arrow 1 3 3 0 true = IOOBE
                arrow 1 0 3 3 true = IOOBE
                arrow 4 0 3 0 true = IOOBE
                arrow 0 0 2 0 true = 1
                arrow 0 0 2 1 true = IOOBE
                """);
        play("4 lead", """
                begin 2 7 = 0
                lead 2 6 2 6 = 0
                lead 2 6 2 0 = 1
                arrows 2 6 2 = 1
                arrow 2 6 2 3 true = 1
                arrow 2 6 2 6 true = 1
                lead 2 6 2 3 = 3
                lead 2 6 2 3 = 1
                arrows 2 6 2 = 8
                arrows 2 6 1 = 0
                lead 2 7 0 0 = IOOBE
                lead 2 0 0 7 = IOOBE
                lead 2 -1 0 0 = IOOBE
                lead 2 0 0 -1 = IOOBE
                lead 4 0 0 0 = IOOBE
                lead -1 0 0 0 = IOOBE
                lead 2 0 3 0 = IAE
                lead 2 0 -1 0 = IAE
                lead 2 7 3 0 = IOOBE
                lead 2 0 3 7 = IOOBE
                """);
        play("5 mark", """
                begin 3 7 = 0
                mark 3 6 true true = 1
                mark 3 6 true true = 0
                mark 3 6 false true = 1
                tell 3 2 = 65
                tell 3 3 = 64
                mark 3 0 false true = 0
                mark 3 0 false false = 1
                mark 3 0 false false = 0
                mark 3 0 true false = 0
                tell 3 2 = 64
                mark 3 6 true false = 1
                tell 3 3 = 0
                tell 3 2 = 64
                mark 3 7 true true = IOOBE
                mark 3 -1 false true = IOOBE
                mark 4 0 true true = IOOBE
                mark -1 0 true true = IOOBE
                """);
    }

    private static void sowAndMove() {
        play("6 sow", """
                sow 0 5 4 0 = 12
                text 0 3 = 1,2,2 0,0,3* 0,3,1* 2,0,2
                tell 0 2 = 1
                mark 0 3 false true = 1
                sow 0 123 7 3 = 35
                tell 0 2 = 1
                size 0 3 = 31
                # seed 0 draws 216, 761, 487, 268, 217, 958, 811, 485, 491, 296
                sow 1 0 1 0 = 3
                tell 1 3 = 1
                sow 1 0 2 0 = 6
                arrows 1 0 0 = 1
                arrows 1 0 1 = 2
                arrows 1 0 2 = 2
                arrows 1 1 0 = 1
                arrows 1 1 1 = 2
                arrows 1 1 2 = 1
                tell 1 3 = 0
                # by choice 1 an ARROW is there if the number is even, by 6 if 7 divides it
                sow 1 0 2 1 = 6
                arrows 1 0 0 = 1
                arrows 1 0 1 = 2
                arrows 1 0 2 = 2
                arrows 1 1 0 = 0
                arrows 1 1 1 = 2
                sow 1 0 2 6 = 1
                arrows 1 0 2 = 1
                sow 2 65535 7 6 = 21
                sow 3 0 7 0 = 21
                tell 3 4 = 1
                sow 0 -1 1 0 = IAE
                sow 0 65536 1 0 = IAE
                sow 0 0 0 0 = IAE
                sow 0 0 8 0 = IAE
                sow 0 0 1 -1 = IAE
                sow 0 0 1 7 = IAE
                sow 4 0 1 0 = IOOBE
                sow -1 0 1 0 = IOOBE
                sow 4 -1 8 7 = IOOBE
                """);
        play("7 copy", """
                copy 0 1 = 0
                copy 0 0 = 0
                sow 0 9 5 2 = 28
                copy 0 1 = 1
                copy 0 1 = 0
                copy 0 0 = 0
                tell 1 1 = 28
                arrows 1 4 2 = 14
                mark 1 0 true true = 1
                tell 0 3 = 4
                copy 0 1 = 1
                mark 1 4 false true = 1
                copy 0 1 = 1
                lead 1 0 0 1 = 1
                copy 0 1 = 1
                arrow 1 4 2 4 true = 1
                copy 0 1 = 1
                lead 1 0 0 1 = 1
                copy 0 1 = 1
                arrow 1 4 2 4 true = 1
                tell 0 1 = 28
                # only the number of STATES differs
                begin 2 2 = 0
                begin 3 3 = 0
                copy 2 3 = 1
                tell 3 0 = 2
                copy 4 0 = IOOBE
                copy 0 4 = IOOBE
                copy -1 0 = IOOBE
                copy 0 -1 = IOOBE
                """);
        play("8 swap", """
                swap 0 3 = 0
                swap 2 2 = 0
                begin 0 2 = 0
                swap 0 3 = 1
                tell 0 0 = 1
                tell 3 0 = 2
                arrow 0 0 1 0 true = 1
                mark 3 1 true true = 1
                mark 3 1 false true = 1
                swap 3 0 = 1
                tell 0 2 = 3
                tell 0 3 = 2
                tell 0 1 = 0
                tell 3 1 = 1
                arrow 3 0 0 0 true = 1
                tell 0 1 = 0
                swap 0 0 = 0
                tell 0 3 = 2
                copy 0 3 = 1
                swap 0 3 = 0
                swap 4 0 = IOOBE
                swap 0 4 = IOOBE
                swap -1 0 = IOOBE
                swap 0 -1 = IOOBE
                swap 4 4 = IOOBE
                """);
        play("9 turn", """
                turn 0 = 0
                tell 0 2 = 0
                tell 0 3 = 1
                begin 0 7 = 0
                arrow 0 0 0 6 true = 1
                arrow 0 1 0 6 true = 1
                arrow 0 6 2 6 true = 1
                mark 0 6 true true = 1
                mark 0 5 true true = 1
                mark 0 1 false true = 1
                turn 0 = 3
                arrows 0 6 0 = 3
                arrows 0 0 0 = 0
                arrows 0 1 0 = 0
                arrows 0 6 2 = 64
                tell 0 2 = 96
                tell 0 3 = 3
                turn 0 = 3
                arrows 0 0 0 = 64
                arrows 0 1 0 = 64
                tell 0 2 = 3
                turn 4 = IOOBE
                turn -1 = IOOBE
                """);
    }

    private static void changeStates() {
        play("10 other", """
                other 0 = -9
                house 1 = 1
                sow 0 0 7 0 = 21
                tell 0 3 = 123
                other 0 = 1
                tell 0 3 = 4
                other 0 = 6
                # just one START, and just one ARROW with each SIGN
                mark 0 1 false true = 1
                other 0 = -9
                mark 0 0 false false = 1
                other 0 = 1
                mark 0 1 false false = 1
                other 0 = -9
                mark 0 1 false true = 1
                arrow 0 6 2 5 true = 1
                other 0 = -9
                arrow 0 6 2 5 false = 1
                lead 0 6 2 3 = 1
                arrow 0 6 2 3 false = 1
                other 0 = -9
                lead 0 6 2 3 = 0
                other 0 = 6
                # as many ARROWS as a PLAIN one has, but two from one STATE and none from another
                begin 1 2 = 0
                lead 1 0 0 0 = 0
                arrow 1 0 0 1 true = 1
                lead 1 0 1 0 = 0
                lead 1 0 2 0 = 0
                lead 1 1 1 0 = 0
                lead 1 1 2 0 = 0
                tell 1 1 = 6
                other 1 = -9
                other 4 = IOOBE
                other -1 = IOOBE
                """);
        play("11 grow", """
                sow 0 7 6 2 = 28
                mark 0 5 false true = 1
                grow 0 = 6
                tell 0 0 = 7
                tell 0 1 = 28
                tell 0 2 = 33
                arrows 0 6 0 = 0
                arrows 0 6 1 = 0
                arrows 0 6 2 = 0
                grow 0 = -9
                tell 0 0 = 7
                arrow 0 6 1 6 true = 1
                mark 0 6 true true = 1
                drop 0 6 = 1
                grow 0 = 6
                arrows 0 6 1 = 0
                mark 0 6 true false = 0
                mark 0 6 false false = 0
                grow 1 = 1
                grow 1 = 2
                grow 4 = IOOBE
                grow -1 = IOOBE
                house 1 = 1
                """);
        play("12 drop", """
                drop 0 0 = -9
                house 1 = 1
                drop 0 1 = IOOBE
                begin 0 7 = 0
                arrow 0 3 0 3 true = 1
                arrow 0 3 0 6 true = 1
                arrow 0 2 1 3 true = 1
                arrow 0 6 2 3 true = 1
                arrow 0 6 2 2 true = 1
                arrow 0 6 2 4 true = 1
                arrow 0 0 0 6 true = 1
                mark 0 3 true true = 1
                mark 0 4 true true = 1
                mark 0 2 true true = 1
                mark 0 6 false true = 1
                mark 0 3 false true = 1
                # the loop counts once
                drop 0 3 = 4
                tell 0 0 = 6
                tell 0 1 = 3
                tell 0 2 = 33
                tell 0 3 = 12
                arrows 0 5 2 = 12
                arrows 0 0 0 = 32
                drop 0 0 = 1
                tell 0 2 = 16
                tell 0 3 = 6
                arrows 0 4 2 = 6
                drop 0 4 = 2
                tell 0 1 = 0
                tell 0 2 = 0
                drop 0 4 = IOOBE
                drop 0 -1 = IOOBE
                drop 4 0 = IOOBE
                drop -1 0 = IOOBE
                # a STATE that comes anew has nothing of the one that went
                grow 0 = 4
                arrows 0 4 2 = 0
                """);
    }

    private static void makeOthers() {
        play("13 make", """
                make 0 false 1 = 2
                text 1 3 = 1,1,1 1,1,1
                tell 1 4 = 1
                make 0 true 0 = 1
                tell 0 2 = 1
                arrows 0 0 0 = 1
                # ONE-WAY with 7 and with 8
                sow 0 18 5 1 = 32
                size 0 3 = 7
                make 0 false 1 = 7
                isAlike 0 1 0 = true
                sow 0 1 5 1 = 42
                size 0 3 = 8
                make 0 false 1 = -9
                # LEAST with 7 and with 8
                sow 0 13 5 1 = 33
                size 0 0 = 7
                make 0 false 0 = -9
                make 0 true 2 = 7
                isAlike 0 2 1 = true
                tell 2 4 = 1
                tell 2 2 = 1
                sow 0 7 5 1 = 40
                size 0 0 = 8
                make 0 true 2 = -9
                # the LEAST of 32 sets, and CROWDED by 33
                sow 0 99 6 2 = 34
                size 0 3 = 32
                make 0 true 3 = 7
                make 0 false 3 = -9
                sow 0 102 6 2 = 29
                make 0 true 3 = -9
                make 0 true 0 = -9
                make 0 false 0 = -9
                # what it becomes has one START, the first one
                begin 0 2 = 29
                mark 0 0 false false = 1
                mark 0 1 false true = 1
                mark 0 1 true true = 1
                lead 0 1 0 1 = 0
                make 0 false 0 = 2
                tell 0 2 = 1
                tell 0 3 = 1
                text 0 3 = 0,1,1* 1,1,1
                make 4 true 0 = IOOBE
                make 0 true 4 = IOOBE
                make -1 false 0 = IOOBE
                make 0 false -1 = IOOBE
                """);
        play("14 combine", """
                sow 0 5 4 0 = 12
                copy 0 1 = 1
                mark 1 2 true false = 1
                combine 0 1 0 2 = 4
                isAlike 2 0 0 = true
                combine 0 1 1 2 = 4
                isAlike 2 1 0 = true
                combine 0 1 2 2 = 4
                text 2 0 = 1,2,2 0,0,3 0,3,1* 2,0,2
                combine 1 0 2 2 = 1
                kind 2 = 0
                combine 1 0 3 2 = 4
                word 2 0 = b.
                # into one of both, and both the same
                combine 0 0 3 3 = 1
                kind 3 = 0
                combine 0 0 0 0 = 4
                text 0 3 = 1,2,2 0,0,3* 0,3,1* 2,0,2
                combine 0 1 2 1 = 4
                text 1 3 = 1,2,2 0,0,3 0,3,1* 2,0,2
                # LEAST with 7 and with 8
                sow 0 1 3 2 = 8
                sow 1 1026 4 2 = 16
                combine 0 1 0 2 = 7
                combine 0 1 3 3 = 7
                sow 1 1005 4 2 = 15
                combine 0 1 0 2 = -9
                combine 0 1 3 3 = -9
                combine 0 1 1 2 = 1
                # 32 PAIRS, 33 PAIRS
                sow 1 1074 4 2 = 13
                combine 0 1 0 2 = 1
                sow 1 1263 4 2 = 11
                combine 0 1 1 2 = -9
                # one is CROWDED
                sow 3 102 6 2 = 29
                combine 3 0 1 2 = -9
                combine 0 3 1 2 = -9
                combine 3 3 1 3 = -9
                combine 4 0 0 0 = IOOBE
                combine 0 4 0 0 = IOOBE
                combine 0 0 0 4 = IOOBE
                combine -1 0 0 0 = IOOBE
                combine 0 -1 0 0 = IOOBE
                combine 0 0 0 -1 = IOOBE
                combine 0 0 4 0 = IAE
                combine 0 0 -1 0 = IAE
                combine 0 0 4 4 = IOOBE
                combine 3 3 4 3 = IAE
                """);
    }

    private static void askWhatIsThere() {
        play("15 tell", """
                begin 2 3 = 0
                arrow 2 0 0 1 true = 1
                arrow 2 0 0 2 true = 1
                mark 2 2 true true = 1
                mark 2 1 true true = 1
                mark 2 2 false true = 1
                tell 2 0 = 3
                tell 2 1 = 2
                tell 2 2 = 5
                tell 2 3 = 6
                tell 2 4 = 0
                sow 1 0 7 0 = 21
                tell 1 4 = 1
                tell 2 5 = IAE
                tell 2 -1 = IAE
                tell 4 0 = IOOBE
                tell -1 0 = IOOBE
                tell 4 5 = IOOBE
                """);
        play("16 arrows", """
                begin 3 7 = 0
                arrow 3 6 2 0 true = 1
                arrow 3 6 2 6 true = 1
                arrow 3 0 1 3 true = 1
                arrows 3 6 2 = 65
                arrows 3 0 1 = 8
                arrows 3 0 0 = 0
                arrows 3 7 0 = IOOBE
                arrows 3 -1 0 = IOOBE
                arrows 0 1 0 = IOOBE
                arrows 4 0 0 = IOOBE
                arrows -1 0 0 = IOOBE
                arrows 3 0 3 = IAE
                arrows 3 0 -1 = IAE
                arrows 3 7 3 = IOOBE
                """);
    }

    private static void askForWords() {
        play("17 takes", """
                # it takes abc alone, of which the CODE is 0 + 1 * 3 + 2 * 9
                begin 0 4 = 0
                arrow 0 0 0 1 true = 1
                arrow 0 1 1 2 true = 1
                arrow 0 2 2 3 true = 1
                mark 0 3 true true = 1
                takes 0 3 21 = true
                takes 0 3 5 = false
                takes 0 2 3 = false
                takes 0 4 21 = false
                takes 0 0 0 = false
                mark 0 0 true true = 1
                takes 0 0 0 = true
                # the longest WORD with the largest CODE is c twelve times
                begin 1 1 = 0
                lead 1 0 2 0 = 0
                mark 1 0 true true = 1
                takes 1 12 531440 = true
                takes 1 12 531439 = false
                takes 1 12 0 = false
                takes 1 12 531441 = IAE
                takes 1 13 0 = IAE
                takes 1 -1 0 = IAE
                takes 1 0 1 = IAE
                takes 1 0 -1 = IAE
                takes 1 1 3 = IAE
                takes 1 1 -1 = IAE
                takes 1 2147483647 0 = IAE
                takes 4 0 0 = IOOBE
                takes -1 13 0 = IOOBE
                # with choice: a GOAL among those AFTER it is enough; without STARTS there is none
                begin 2 2 = 0
                arrow 2 0 0 0 true = 1
                arrow 2 0 0 1 true = 1
                mark 2 1 true true = 1
                takes 2 5 0 = true
                mark 2 0 false false = 1
                takes 2 5 0 = false
                # a CROWDED one too
                sow 3 102 6 2 = 29
                size 3 3 = ISE
                takes 3 12 0 = true
                """);
        play("18 after", """
                sow 0 123 7 3 = 35
                after 0 0 0 0 = 1
                after 0 0 0 1 = 0
                after 0 0 0 2 = 0
                after 0 4 40 0 = 113
                after 0 4 40 1 = 8
                after 0 4 40 2 = 2
                after 0 12 531440 0 = 0
                after 0 12 0 0 = 123
                # after the SIGN 0 and then 1: the SIGN 0 of the CODE comes first
                begin 1 4 = 0
                arrow 1 0 0 1 true = 1
                arrow 1 1 1 3 true = 1
                arrow 1 1 1 2 true = 1
                mark 1 3 true true = 1
                after 1 2 3 0 = 12
                after 1 2 1 0 = 0
                after 1 2 3 1 = 3
                after 1 2 1 1 = 2
                mark 1 0 false false = 1
                after 1 0 0 0 = 0
                after 1 0 0 1 = 0
                sow 0 102 6 2 = 29
                after 0 1 1 0 = 8
                after 0 1 1 1 = ISE
                after 0 1 1 2 = ISE
                after 0 13 0 0 = IAE
                after 0 -1 0 0 = IAE
                after 0 1 3 1 = IAE
                after 0 1 -1 2 = IAE
                after 0 1 1 3 = IAE
                after 0 1 1 -1 = IAE
                after 4 0 0 0 = IOOBE
                after -1 13 0 5 = IOOBE
                """);
    }

    private static void askForLeast() {
        play("19 size", """
                size 0 0 = 1
                size 0 1 = 1
                size 0 2 = 1
                size 0 3 = 2
                # without a START the first set is the empty one
                mark 0 0 false false = 1
                size 0 3 = 1
                # 32 sets, and 33, of which way 2 sees nothing
                sow 0 50 6 2 = 28
                size 0 3 = 32
                size 0 1 = 16
                size 0 0 = 16
                size 0 2 = 16
                sow 0 102 6 2 = 29
                size 0 3 = ISE
                size 0 0 = ISE
                size 0 1 = ISE
                size 0 2 = 23
                # turned round it has more than 32
                sow 0 123 7 3 = 35
                size 0 3 = 31
                size 0 0 = 16
                size 0 1 = 16
                size 0 2 = ISE
                # turned round it has 29, but turned round again more than 32
                sow 0 4315 6 2 = 24
                size 0 2 = ISE
                turn 0 = 24
                size 0 3 = 29
                # turned round it has 32, and the LEAST one has 32
                sow 1 4458 5 4 = 17
                size 1 2 = 30
                turn 1 = 17
                size 1 3 = 32
                sow 1 2312 6 2 = 28
                size 1 2 = 32
                size 1 4 = IAE
                size 1 -1 = IAE
                size 0 4 = IAE
                size 4 0 = IOOBE
                size -1 4 = IOOBE
                """);
        play("20 text", """
                text 0 0 = 0,0,0
                text 0 3 = 1,1,1 1,1,1
                mark 0 0 true true = 1
                text 0 3 = 1,1,1* 1,1,1
                text 0 2 = 1,1,1* 1,1,1
                sow 0 99 6 2 = 34
                text 0 1 = 1,2,3* 1,1,1* 2,2,2 1,4,1* 5,1,1 6,1,1* 0,1,6*
                text 0 2 = 1,2,3* 1,1,1* 2,2,2 1,4,1* 5,1,1 6,1,1* 0,1,6*
                text 0 0 = 1,2,3* 1,1,1* 2,2,2 1,4,1* 5,1,1 6,1,1* 0,1,6*
                sow 0 102 6 2 = 29
                text 0 0 = ISE
                text 0 1 = ISE
                text 0 3 = ISE
                sow 0 123 7 3 = 35
                text 0 2 = ISE
                text 0 4 = IAE
                text 0 -1 = IAE
                text 4 0 = IOOBE
                text -1 4 = IOOBE
                """);
        play("21 kind", """
                kind 0 = 0
                mark 0 0 true true = 1
                kind 0 = 2
                lead 0 0 0 0 = 0
                kind 0 = 3
                lead 0 0 1 0 = 0
                lead 0 0 2 0 = 0
                kind 0 = 1
                # all but the empty WORD
                begin 1 2 = 0
                lead 1 0 0 1 = 0
                lead 1 0 1 1 = 0
                lead 1 0 2 1 = 0
                lead 1 1 0 1 = 0
                lead 1 1 1 1 = 0
                lead 1 1 2 1 = 0
                mark 1 1 true true = 1
                kind 1 = 3
                mark 1 1 true false = 1
                kind 1 = 0
                # a WORD of 6 SIGNS alone; a way without end that comes to no GOAL does not count
                begin 2 7 = 0
                lead 2 0 0 1 = 0
                lead 2 1 0 2 = 0
                lead 2 2 0 3 = 0
                lead 2 3 0 4 = 0
                lead 2 4 0 5 = 0
                lead 2 5 0 6 = 0
                mark 2 6 true true = 1
                kind 2 = 2
                mark 2 3 true true = 1
                mark 2 6 true false = 1
                lead 2 6 0 6 = 0
                kind 2 = 2
                lead 2 2 1 1 = 0
                kind 2 = 3
                # the only round is as long as there are STATES
                begin 3 7 = 0
                lead 3 0 0 1 = 0
                lead 3 1 0 2 = 0
                lead 3 2 0 3 = 0
                lead 3 3 0 4 = 0
                lead 3 4 0 5 = 0
                lead 3 5 0 6 = 0
                lead 3 6 0 0 = 0
                mark 3 6 true true = 1
                kind 3 = 3
                mark 3 6 true false = 1
                mark 3 0 true true = 1
                kind 3 = 3
                sow 3 102 6 2 = 29
                kind 3 = ISE
                kind 4 = IOOBE
                kind -1 = IOOBE
                """);
    }

    private static void askForNumbers() {
        play("22 many", """
                many 0 0 0 = 0
                many 0 0 1 = 0
                sow 0 5 4 0 = 12
                many 0 3 0 = 18
                many 0 3 1 = 18
                many 0 5 0 = 126
                many 0 5 1 = 126
                lead 1 0 0 0 = 0
                lead 1 0 1 0 = 0
                mark 1 0 true true = 1
                many 1 0 0 = 1
                many 1 0 1 = 1
                many 1 12 0 = 4096
                many 1 5 1 = 32
                lead 1 0 2 0 = 0
                many 1 12 0 = 531441
                many 1 5 1 = 243
                many 1 6 1 = IAE
                many 1 13 0 = IAE
                many 1 -1 0 = IAE
                many 1 -1 1 = IAE
                many 1 0 2 = IAE
                many 1 0 -1 = IAE
                many 1 6 2 = IAE
                # one by one does not ask for the LEAST one
                sow 2 102 6 2 = 29
                many 2 4 1 = 43
                many 2 4 0 = ISE
                many 2 13 0 = IAE
                many 4 0 0 = IOOBE
                many -1 13 2 = IOOBE
                """);
        play("23 word", """
                word 0 0 =
                lead 0 0 0 0 = 0
                lead 0 0 1 0 = 0
                lead 0 0 2 0 = 0
                mark 0 0 true true = 1
                word 0 0 = .
                word 0 1 = a.
                word 0 2 = b.
                word 0 3 = c.
                word 0 4 = aa.
                word 0 5 = ab.
                word 0 7 = ba.
                word 0 12 = cc.
                word 0 13 = aaa.
                word 0 797159 = cccccccccccb.
                word 0 797160 = cccccccccccc.
                word 0 797161 =
                word 0 2147483647 =
                word 0 -1 = IAE
                # of 13 SIGNS and more none is told: a GOAL at each 7th SIGN
                begin 1 7 = 0
                lead 1 0 2 1 = 0
                lead 1 1 2 2 = 0
                lead 1 2 2 3 = 0
                lead 1 3 2 4 = 0
                lead 1 4 2 5 = 0
                lead 1 5 2 6 = 0
                lead 1 6 1 0 = 0
                mark 1 6 true true = 1
                word 1 0 = cccccc.
                word 1 1 =
                mark 1 5 true true = 1
                word 1 0 = ccccc.
                word 1 1 = cccccc.
                word 1 2 = ccccccbccccc.
                word 1 3 =
                sow 2 5 4 0 = 12
                word 2 0 = a.
                word 2 1000 = baaccbc.
                sow 2 102 6 2 = 29
                word 2 0 = ISE
                word 2 -1 = IAE
                word 4 0 = IOOBE
                word -1 -1 = IOOBE
                """);
    }

    private static void askOfTwo() {
        play("24 isAlike", """
                isAlike 0 1 0 = true
                isAlike 0 1 1 = true
                isAlike 2 2 0 = true
                sow 0 13 5 1 = 33
                make 0 true 1 = 7
                isAlike 0 1 0 = true
                isAlike 0 1 1 = true
                other 1 = 3
                isAlike 0 1 0 = false
                isAlike 1 0 1 = false
                # the same but for one GOAL, and the same but for one ARROW
                sow 0 5 4 0 = 12
                copy 0 1 = 1
                mark 1 2 true false = 1
                isAlike 0 1 0 = false
                isAlike 0 1 1 = false
                copy 0 1 = 1
                lead 1 0 0 1 = 1
                isAlike 0 1 0 = false
                isAlike 0 1 1 = false
                # CROWDED one-way, in both places
                sow 2 102 6 2 = 29
                isAlike 2 0 0 = ISE
                isAlike 0 2 0 = ISE
                isAlike 2 0 1 = ISE
                isAlike 0 2 1 = ISE
                isAlike 2 2 1 = ISE
                isAlike 0 0 2 = IAE
                isAlike 0 0 -1 = IAE
                isAlike 2 2 2 = IAE
                isAlike 4 0 0 = IOOBE
                isAlike 0 4 0 = IOOBE
                isAlike -1 0 2 = IOOBE
                isAlike 0 -1 2 = IOOBE
                """);
        play("25 apart", """
                apart 0 1 =
                apart 0 0 =
                mark 0 0 true true = 1
                apart 0 1 = .
                apart 1 0 = .
                sow 0 5 4 0 = 12
                copy 0 1 = 1
                mark 1 2 true false = 1
                apart 0 1 = b.
                apart 1 0 = b.
                # of aab and ac the shorter one; of ab and ac the one with the smaller SIGN; c is shorter still
                begin 2 4 = 0
                begin 3 4 = 0
                lead 2 0 0 1 = 0
                lead 2 1 0 2 = 0
                lead 2 2 1 3 = 0
                lead 2 1 2 3 = 0
                mark 2 3 true true = 1
                apart 2 3 = ac.
                lead 2 1 1 3 = 0
                apart 2 3 = ab.
                lead 2 0 2 3 = 0
                apart 3 2 = c.
                # by the number of a: those that 7 divides, and those of which 6 is left too
                begin 0 7 = 12
                lead 0 0 0 1 = 0
                lead 0 1 0 2 = 0
                lead 0 2 0 3 = 0
                lead 0 3 0 4 = 0
                lead 0 4 0 5 = 0
                lead 0 5 0 6 = 0
                lead 0 6 0 0 = 0
                mark 0 0 true true = 1
                copy 0 1 = 1
                mark 0 6 true true = 1
                apart 0 1 = aaaaaa.
                # by the number of a: all but those that are odd and leave 4 of 5
                begin 0 7 = 7
                mark 0 2 false true = 1
                lead 0 0 0 1 = 0
                lead 0 1 0 0 = 0
                lead 0 2 0 3 = 0
                lead 0 3 0 4 = 0
                lead 0 4 0 5 = 0
                lead 0 5 0 6 = 0
                lead 0 6 0 2 = 0
                mark 0 0 true true = 1
                mark 0 2 true true = 1
                mark 0 3 true true = 1
                mark 0 4 true true = 1
                mark 0 5 true true = 1
                begin 1 1 = 7
                lead 1 0 0 0 = 0
                mark 1 0 true true = 1
                apart 0 1 = aaaaaaaaa.
                mark 0 1 true true = 1
                apart 0 1 =
                # of 16 SIGNS, which is longer than a WORD that can be handed over
                sow 0 66 7 3 = 34
                copy 0 1 = 1
                arrow 1 3 2 4 true = 1
                apart 0 1 = ababcbccbcccbabab.
                apart 1 0 = ababcbccbcccbabab.
                sow 2 102 6 2 = 29
                apart 2 0 = ISE
                apart 0 2 = ISE
                apart 4 0 = IOOBE
                apart 0 4 = IOOBE
                apart -1 0 = IOOBE
                apart 0 -1 = IOOBE
                apart 4 2 = IOOBE
                """);
    }

    private static void askOfPairs() {
        play("26 pairs", """
                pairs 0 1 = 2
                pairs 0 0 = 2
                mark 1 0 true true = 1
                pairs 0 1 = 1
                pairs 1 1 = 2
                # met pair by pair, SIGN by SIGN
                begin 0 3 = 0
                lead 0 0 0 1 = 0
                lead 0 0 1 2 = 0
                begin 1 3 = 0
                pairs 0 1 = 4
                mark 0 2 true true = 1
                pairs 0 1 = 3
                pairs 1 0 = 3
                mark 0 1 true true = 1
                pairs 0 1 = 2
                sow 2 102 6 2 = 29
                pairs 2 0 = ISE
                pairs 0 2 = ISE
                pairs 2 2 = ISE
                pairs 4 0 = IOOBE
                pairs 0 4 = IOOBE
                pairs -1 0 = IOOBE
                pairs 0 -1 = IOOBE
                pairs 4 2 = IOOBE
                """);
        // as many PAIRS as there may be, and one more, none of them UNLIKE
        play("26 200 PAIRS", """
                sow 0 106 6 4 = any
                sow 1 1028 6 2 = any
                mark 0 {0-5} true false = any
                mark 1 {0-5} true false = any
                pairs 0 1 = 200
                pairs 1 0 = 200
                isAlike 0 1 0 = true
                apart 0 1 =
                together 0 1 0 -1 = ISE
                """);
        play("26 more than 200 PAIRS", """
                sow 0 17 7 3 = any
                sow 1 1038 7 4 = any
                mark 0 {0-6} true false = any
                mark 1 {0-6} true false = any
                pairs 0 1 = ISE
                apart 0 1 = ISE
                isAlike 0 1 0 = ISE
                isAlike 0 1 1 = true
                pairs 0 0 = 26
                """);
        play("26 the pair 200 is the first that is UNLIKE", """
                sow 0 103 5 5 = any
                sow 1 196 7 3 = any
                mark 0 {0-4} true true = any
                mark 1 {0-4} true true = any
                mark 1 5 true false = any
                mark 1 6 true true = any
                pairs 0 1 = 200
                pairs 1 0 = 200
                apart 0 1 = bcabca.
                isAlike 0 1 0 = false
                """);
        play("26 the pair 201 is the first that is UNLIKE", """
                sow 0 6946 5 2 = any
                sow 1 4233 6 4 = any
                mark 0 {0-4} true true = any
                mark 1 {0-5} true true = any
                pairs 0 1 = ISE
                pairs 1 0 = ISE
                apart 0 1 = ISE
                isAlike 0 1 0 = ISE
                isAlike 0 1 1 = false
                """);
    }

    private static void askOfTogether() {
        play("27 together", """
                together 0 1 0 -1 = 1
                together 0 1 0 0 = 0
                mark 0 0 true true = 1
                together 0 1 0 0 = 1
                together 0 1 1 0 = 0
                together 0 1 2 0 = 1
                together 1 0 2 0 = 0
                together 0 1 3 0 = 1
                together 0 0 1 0 = 1
                together 0 0 3 0 = 0
                together 0 1 0 -1 = 2
                # those with an even number of a, and those that end with b
                begin 0 2 = 0
                lead 0 0 0 1 = 0
                lead 0 1 0 0 = 0
                lead 0 0 1 0 = 0
                lead 0 1 1 1 = 0
                lead 0 0 2 0 = 0
                lead 0 1 2 1 = 0
                mark 0 0 true true = 1
                begin 1 2 = 0
                lead 1 0 0 0 = 0
                lead 1 1 0 0 = 0
                lead 1 0 1 1 = 0
                lead 1 1 1 1 = 0
                lead 1 0 2 0 = 0
                lead 1 1 2 0 = 0
                mark 1 1 true true = 1
                together 0 1 0 -1 = 3
                together 0 1 1 -1 = 3
                together 0 1 2 -1 = 3
                together 0 1 3 -1 = 4
                together 0 1 0 2 = 6
                together 0 1 1 2 = 2
                together 0 1 2 2 = 3
                together 1 0 2 2 = 1
                together 0 1 3 2 = 4
                together 0 1 0 12 = 354294
                # 32 PAIRS, 33 PAIRS, one that is CROWDED
                sow 0 1 3 2 = 8
                sow 1 1050 4 2 = 16
                together 0 1 0 -1 = 8
                together 0 1 1 -1 = 1
                sow 1 1263 4 2 = 11
                together 0 1 1 -1 = ISE
                together 0 1 1 3 = ISE
                pairs 0 1 = 5
                sow 2 102 6 2 = 29
                together 2 0 0 0 = ISE
                together 0 2 0 0 = ISE
                together 2 2 4 0 = IAE
                together 0 0 4 0 = IAE
                together 0 0 -1 0 = IAE
                together 0 0 0 -2 = IAE
                together 0 0 0 13 = IAE
                together 4 0 0 0 = IOOBE
                together 0 4 0 0 = IOOBE
                together -1 0 4 0 = IOOBE
                together 0 -1 0 13 = IOOBE
                """);
    }

    private static void askOfTheWhole() {
        play("28 house", """
                house 0 = 0
                begin 0 2 = 0
                arrow 0 0 0 0 false = 0
                copy 1 2 = 0
                swap 1 1 = 0
                house 0 = 4
                other 0 = -9
                drop 1 0 = -9
                house 0 = 4
                house 1 = 2
                begin 0 8 = IAE
                begin 4 1 = IOOBE
                tell 0 0 = 2
                knock = 1
                house 0 = 4
                house 1 = 2
                house 2 = 1
                house 3 = IAE
                house -1 = IAE
                """);
        play("29 knock", """
                knock = 1
                knock = 2
                house 2 = 2
                knock = 3
                house 0 = 0
                """);
        play("30 isSound", """
                isSound = true
                sow 0 102 6 2 = 29
                isSound = true
                sow 0 123 7 3 = 35
                isSound = true
                sow 0 4315 6 2 = 24
                isSound = true
                sow 0 2312 6 2 = 28
                isSound = true
                sow 0 50 6 2 = 28
                isSound = true
                mark 0 0 false false = 1
                isSound = true
                """);
        play("31 digest", """
                digest = -7083960863837827886
                digest = -7083960863837827886
                # house() of 2 is the last but one
                knock = 1
                digest = -7083960863837827855
                other 0 = -9
                digest = -7083960863837826894
                sow 3 5 4 0 = 12
                digest = -8256826633668350763
                mark 0 0 false false = 1
                digest = 4133190310978499187
                sow 1 123 7 3 = 35
                digest = 6411768596103254368
                drop 1 6 = 9
                digest = -3122535586347680881
                sow 0 102 6 2 = 29
                digest = -3079957439951033209
                """);
    }
}
