/** Promises 4 to 8 and 20: join, leave, pay, change, fallBehind and member. */
public final class MembersTest {
    private static final int NONE = PensionSections.NONE;

    private MembersTest() {
    }

    private static void promise4Join() {
        PensionSections x = new PensionSections();
        Check.same("the first", x.join(2, 1, 192), 0);
        Check.same("the second", x.join(0, 9999, 959), 1);
        x.leave(0);
        Check.same("those that are gone have their numbers", x.join(1, 5, 400), 2);
        Check.same("undoable", x.count(7), 4);
        Check.same("section", x.member(1, 1), 1);
        Check.same("pay", x.member(1, 2), 5);
        Check.same("age", x.member(1, 3), 400);
        Check.same("first by number", x.member(0, 0), 1);
        Check.same("then by number", x.member(1, 0), 2);
        x.undo();
        Check.same("a number that was undone comes again", x.join(1, 5, 400), 2);
        Check.noIndex("join(3)", x, () -> x.join(3, 5, 400));
        Check.noIndex("join(-1) before pay", x, () -> x.join(-1, 0, 0));
        Check.noArgument("pay 0", x, () -> x.join(0, 0, 400));
        Check.noArgument("pay 10000", x, () -> x.join(0, 10000, 400));
        Check.noArgument("age 191", x, () -> x.join(0, 5, 191));
        Check.noArgument("age 960", x, () -> x.join(0, 5, 960));
        x.close(1, true);
        Check.noState("closed", x, () -> x.join(1, 5, 400));
        Check.noArgument("pay before closed", x, () -> x.join(1, 0, 400));
    }

    private static void promise4EightMembers() {
        PensionSections x = new PensionSections();
        for (int i = 0; i < 8; i++) {
            Check.same("number " + i, x.join(i % 3, 1000, 700 + i), i);
        }
        Check.noState("a ninth", x, () -> x.join(0, 1000, 300));
        Check.noArgument("age before the ninth", x, () -> x.join(0, 1000, 0));
        x.retire(0);
        Check.noState("a retired one counts", x, () -> x.join(0, 1000, 300));
        x.leave(3);
        Check.same("there is room again", x.join(0, 1000, 300), 8);
        int[] numbers = {0, 1, 2, 4, 5, 6, 7, 8, NONE};
        for (int place = 0; place < 9; place++) {
            Check.same("number at " + place, x.member(place, 0), numbers[place]);
        }
        Check.same("the new one has no service of the one before", x.member(7, 4), 0);
    }

    private static void promise4NothingIsLeftOfOneBefore() {
        PensionSections x = new PensionSections();
        for (int i = 0; i < 8; i++) {
            x.join(0, 1440, 772);
        }
        for (int section = 0; section < 3; section++) {
            if (section > 0) {
                x.change(3, section);
            }
            x.transfer(3, 28800);
        }
        x.pass(2);
        x.fallBehind(3, true);
        x.pass(2);
        x.retire(3);
        x.leave(3);
        freshMember(x, 8);
        x.fallBehind(8, true);
        x.pass(2);
        x.leave(8);
        freshMember(x, 9);
    }

    private static void freshMember(PensionSections x, int number) {
        Check.same("the ninth that came", x.join(0, 1000, 300), number);
        int[] values = {number, 0, 1000, 300, 0, 0, 0, 0, 0, 0, 0, 0};
        for (int what = 0; what < 12; what++) {
            Check.same("fresh property " + what, x.member(7, what), values[what]);
        }
    }

    private static void promise5Leave() {
        PensionSections x = new PensionSections();
        x.section(1, 55, 60);
        x.join(0, 1999, 300);
        x.join(0, 9999, 300);
        x.pass(3);
        x.change(0, 1);
        x.pass(2);
        Check.same("3 times 199 and 2 times 109, and 5 times 999", x.count(3), 597 + 218 + 4995);
        Check.same("each section by itself: 599.7 and 219.89", x.leave(0), 599 + 219);
        Check.same("the fund", x.count(3), 597 + 218 + 4995 - 818);
        Check.same("the sum", x.sum(5), 818);
        Check.same("members", x.count(1), 1);
        Check.same("the other is first now", x.member(0, 0), 1);
        x.transfer(1, 9999999);
        x.section(0, 300, 60);
        x.pay(1, 1);
        x.leave(1);
        x.undo();
        Check.same("undone", x.count(1), 1);
        Check.noIndex("gone already", x, () -> x.leave(0));
        Check.noIndex("never came", x, () -> x.leave(2));
        Check.noIndex("below 0", x, () -> x.leave(-1));
    }

    private static void promise5AsFarAsTheFundHasIt() {
        PensionSections x = new PensionSections();
        x.join(0, 100, 300);
        x.pass(7);
        x.section(0, 300, 60);
        Check.same("70 of 210", x.leave(0), 70);
        Check.same("an empty fund", x.count(3), 0);
        x.join(0, 9999, 300);
        x.transfer(1, 9999999);
        Check.same("500 months", x.member(0, 4), 500);
        x.join(1, 1, 300);
        x.transfer(2, 19998);
        x.pay(2, 9999);
        Check.same("9999 times 100 times 9999 by 1000", x.leave(2), 9998000);
    }

    private static void promise5LateAndRetired() {
        PensionSections x = new PensionSections();
        x.join(0, 1000, 780 - 2);
        x.join(0, 1000, 300);
        x.fallBehind(1, true);
        x.pass(4);
        Check.same("retired", x.member(0, 7), 1);
        Check.same("a retired one gets nothing", x.leave(0), 0);
        Check.same("late months give nothing", x.leave(1), 0);
        Check.same("and did not lapse", x.count(5), 0);
        Check.same("but are gone", x.count(4), 0);
        Check.same("undoable, also when nothing is paid", x.count(7), 6);
        Check.same("the sum", x.sum(5), 0);
    }

    private static void promise5NoPensionForOneWhoLeft() {
        PensionSections x = new PensionSections();
        x.join(0, 1000, 780);
        x.transfer(0, 200000);
        x.retire(0);
        x.pass(1);
        Check.same("a pension of 138", x.count(3), 200000 - 138);
        x.leave(0);
        x.pass(10);
        Check.same("no more", x.count(3), 200000 - 138);
        Check.same("none retired", x.count(2), 0);
        Check.same("none would be missing", x.fundLasts(), NONE);
    }

    private static void promise6Pay() {
        PensionSections x = new PensionSections();
        x.join(0, 1000, 700);
        Check.same("previous", x.pay(0, 9999), 1000);
        Check.same("previous", x.pay(0, 1), 9999);
        Check.same("previous", x.pay(0, 1), 1);
        Check.same("undoable", x.count(7), 4);
        x.pay(0, 500);
        Check.same("the pay", x.member(0, 2), 500);
        x.pass(1);
        Check.same("owed by it", x.count(3), 50);
        Check.noIndex("no such", x, () -> x.pay(1, 0));
        Check.noArgument("0", x, () -> x.pay(0, 0));
        Check.noArgument("10000", x, () -> x.pay(0, 10000));
        x.retire(0);
        Check.noState("retired", x, () -> x.pay(0, 500));
        Check.noArgument("out of range before retired", x, () -> x.pay(0, 0));
    }

    private static void promise7Change() {
        PensionSections x = new PensionSections();
        x.join(0, 1000, 700);
        x.pass(3);
        x.fallBehind(0, true);
        x.pass(2);
        Check.same("previous", x.change(0, 2), 0);
        Check.same("section", x.member(0, 1), 2);
        Check.same("service stays", x.member(0, 4), 3);
        Check.same("late stay", x.late(0, 1, 2), 0);
        x.pass(1);
        Check.same("new late there", x.late(0, 2, 2), 2);
        x.fallBehind(0, false);
        x.pass(1);
        Check.same("service there", x.member(0, 6), 1);
        Check.same("back", x.change(0, 0), 2);
        x.close(1, true);
        Check.noIndex("no such member", x, () -> x.change(1, 1));
        Check.noIndex("no such section", x, () -> x.change(0, 3));
        Check.noIndex("no such section below", x, () -> x.change(0, -1));
        Check.noState("there already", x, () -> x.change(0, 0));
        Check.noState("closed", x, () -> x.change(0, 1));
        x.close(0, true);
        Check.same("out of a closed one", x.change(0, 2), 0);
        x.undo();
        Check.same("undone", x.member(0, 1), 0);
        x.retire(0);
        Check.noState("retired", x, () -> x.change(0, 2));
        Check.noIndex("no section before retired", x, () -> x.change(0, 3));
    }

    private static void promise8FallBehind() {
        PensionSections x = new PensionSections();
        x.join(1, 1000, 700);
        Check.same("not yet", x.fallBehind(0, true), 0);
        Check.same("already", x.fallBehind(0, true), 1);
        Check.same("is behind", x.member(0, 9), 1);
        x.pass(2);
        Check.same("nothing is paid", x.count(3), 0);
        Check.same("late", x.member(0, 10), 2);
        Check.same("no service", x.member(0, 5), 0);
        Check.same("catches up", x.fallBehind(0, false), 1);
        Check.same("late stay", x.member(0, 10), 2);
        Check.same("not behind", x.fallBehind(0, false), 0);
        x.pass(1);
        Check.same("pays", x.count(3), 100);
        x.retire(0);
        Check.same("a retired one may fall behind", x.fallBehind(0, true), 0);
        x.pass(1);
        Check.same("without late months", x.member(0, 10), 0);
        Check.same("is behind", x.member(0, 9), 1);
        x.undo();
        x.undo();
        Check.same("undone", x.member(0, 9), 0);
        Check.noIndex("no such", x, () -> x.fallBehind(1, true));
    }

    private static void promise20Member() {
        PensionSections x = new PensionSections();
        x.join(2, 100, 200);
        x.join(0, 1000, 700);
        x.leave(0);
        x.join(1, 2000, 300);
        x.transfer(1, 60000);
        x.fallBehind(2, true);
        x.set(2, 50);
        x.pass(3);
        int[] first = {1, 0, 1000, 703, 33, 0, 0, 0, 45, 0, 0, 0};
        int[] second = {2, 1, 2000, 303, 0, 0, 0, 0, 0, 1, 3, 660};
        for (int what = 0; what < 12; what++) {
            Check.same("member(0, " + what + ")", x.member(0, what), first[what]);
            Check.same("member(1, " + what + ")", x.member(1, what), second[what]);
            Check.same("member(2, " + what + ")", x.member(2, what), NONE);
            Check.same("member(8, " + what + ")", x.member(8, what), NONE);
            Check.same("member of the greatest place", x.member(Integer.MAX_VALUE, what), NONE);
        }
        x.retire(1);
        Check.same("45 less 308 thousandths of it", x.member(0, 8), 45 - 13);
        Check.same("retired", x.member(0, 7), 1);
        x.section(0, 100, 200);
        Check.same("the pension stays", x.member(0, 8), 32);
        x.pass(2);
        Check.same("a retired one becomes older", x.member(0, 3), 705);
        Check.same("and serves no more", x.member(0, 4), 33);
        Check.noArgument("place -1", x, () -> x.member(-1, 0));
        Check.noArgument("what -1", x, () -> x.member(0, -1));
        Check.noArgument("what 12", x, () -> x.member(0, 12));
        Check.noArgument("what 12 behind the last place", x, () -> x.member(100, 12));
    }

    public static void main(String[] args) {
        promise4Join();
        promise4EightMembers();
        promise4NothingIsLeftOfOneBefore();
        promise5Leave();
        promise5AsFarAsTheFundHasIt();
        promise5LateAndRetired();
        promise5NoPensionForOneWhoLeft();
        promise6Pay();
        promise7Change();
        promise8FallBehind();
        promise20Member();
        Check.end();
    }
}
