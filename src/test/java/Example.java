/** The example of README.md, as it stands there. */
public final class Example {
    public static void main(String[] args) {
        ThornSchool x = new ThornSchool();
        String school = "thicket 3 by 2; odds 4; thorns 1 2; berries 1 5;"
            + "lesson sit hours 2; lesson hum hours 3 needs sit;"
            + "pupil ann at 0; pupil bob at 4 knows sit hum;";
        feed(x, school);
        tell("pupils", x.school(school.length()));
        tell("ann goes to the right, caught by", x.go(0, 1));
        tell("bob takes a thorn off her", x.free(1, 0));
        tell("and one more", x.free(1, 0));
        tell("the set of lessons she knows", x.pupil(0, 2));
        tell("berries she picks", x.pick(0));
        tell("steps to cell 5", x.far(0, 5));
        x.chance(0, 5);
        System.out.println("the odds of no slip: " + x.top() + " by " + x.bottom());
        tell("a pupil who is not there", x.go(2, 1));
        tell("its status", x.status());

        String autumns = "loop 3; any; year 1; end; when thorns 1 > 4; tear ann; end;";
        feed(x, autumns);
        tell("steps of the autumns", x.autumns(autumns.length()));
        tell("marks of all", x.mark());
        tell("steps come to", x.live(7));
        tell("of these missed", x.lived(0));
        tell("marks of all left", x.undo());
        tell("the year again", x.told(5));

        String wrong = "pupil cid at 99;";
        feed(x, wrong);
        tell("a text with a fault", x.school(wrong.length()));
        System.out.println("fault " + x.fault(0) + " at " + x.fault(1));
    }

    private static void feed(ThornSchool x, String text) {
        for (int i = 0; i < text.length(); i += 20) {
            x.feed(four(text, i), four(text, i + 4), four(text, i + 8), four(text, i + 12), four(text, i + 16));
        }
    }

    /** Four bytes of a text, the first one highest; 0 behind its end. */
    private static int four(String text, int from) {
        int v = 0;
        for (int i = from; i < from + 4; i++) v = v << 8 | (i < text.length() ? text.charAt(i) : 0);
        return v;
    }

    private static void tell(String what, int answer) {
        System.out.println(what + ": " + answer);
    }
}
