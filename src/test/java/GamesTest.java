/** Promises 2, 3, 4, 46 to 50: games, odds, THORNS to a TRAY. */
public final class GamesTest {
    private static final Check CHECK = new Check();

    public static void main(String[] args) {
        gamesInARow();
        gamesAcross();
        gamesAmongThorns();
        moves();
        wrongGames();
        chances();
        slips();
        copies();
        CHECK.end();
    }

    private static void game(String text, int n, int due) {
        ThornSchool x = Check.with(text);
        CHECK.done(x, text + " game by " + n, x.game(0, 1, n), due);
        if (n == 0) return;
        if (due == 0) CHECK.none(x, text + " move by " + n, x.moveOf(0, 1, n), 6);
        else CHECK.yes(text + " move by " + n, x.moveOf(0, 1, n) >= 0);
    }

    private static void move(String text, int n, int due) {
        ThornSchool x = Check.with(text);
        CHECK.done(x, text + " move by " + n, x.moveOf(0, 1, n), due);
        CHECK.done(x, text + " game by " + n, x.game(0, 1, n), 1);
    }

    private static void gamesInARow() {
        for (int n = 0; n <= 4; n++) game("pupil p at 5;pupil q at 5;", n, 0);
        String beside = "thicket 5 by 1;pupil p at 1;pupil q at 2;";
        int[] due = {1, 1, 0, 0, 0};
        for (int n = 0; n <= 4; n++) game(beside, n, due[n]);
        String apart = "thicket 5 by 1;pupil p at 1;pupil q at 4;";
        int[] later = {1, 1, 1, 1, 0};
        for (int n = 0; n <= 4; n++) game(apart, n, later[n]);
        String corner = "thicket 5 by 1;pupil p at 0;pupil q at 1;";
        int[] at = {1, 0, 0, 0, 0};
        for (int n = 0; n <= 4; n++) game(corner, n, at[n]);
        game("thicket 1 by 2;pupil p at 0;pupil q at 1;", 0, 1);
        game("thicket 1 by 2;pupil p at 0;pupil q at 1;", 1, 0);
        game("thicket 5 by 1;pupil p at 0;pupil q at 2;", 1, 1);
        game("thicket 5 by 1;pupil p at 0;pupil q at 2;", 2, 0);
    }

    private static void gamesAcross() {
        // from a cell beside one that looks for him, one can keep away on an open thicket
        for (int n = 0; n <= 4; n++) game("thicket 5 by 5;pupil p at 12;pupil q at 0;", n, 1);
        game("thicket 2 by 2;pupil p at 0;pupil q at 3;", 4, 1);
        game("thicket 2 by 2;pupil p at 0;pupil q at 1;", 4, 1);
        game("thicket 3 by 3;thorns 4 1;pupil p at 0;pupil q at 8;", 4, 1);
    }

    private static void gamesAmongThorns() {
        String walled = "thicket 5 by 1;thorns 2 1;pupil p at 1;pupil q at 3;";
        for (int n = 0; n <= 4; n++) game(walled, n, 1);
        game("thicket 5 by 1;thorns 2 1;lesson a hours 1;pupil p at 1;pupil q at 3 knows a;", 4, 0);
        game("thicket 5 by 1;thorns 2 1;lesson a hours 1;pupil p at 3 knows a;pupil q at 0;", 4, 1);
        game("thicket 3 by 1;thorns 0 1;pupil p at 1;pupil q at 2;", 1, 0);
        ThornSchool x = Check.with("thicket 4 by 1;thorns 0 1;thorns 3 1;lesson a hours 1;lesson b hours 1;pupil p at 1 knows a b;pupil q at 2 knows a;");
        CHECK.done(x, "into the corner", x.moveOf(0, 1, 1), 0);
        x.wish(0, 1);
        CHECK.done(x, "still clear to him", x.moveOf(0, 1, 1), 0);
        x.wish(0, 2);
        CHECK.none(x, "not clear to him", x.moveOf(0, 1, 1), 6);
        ThornSchool y = Check.with("thicket 3 by 2;thorns 1 9;thorns 4 9;pupil p at 0;pupil q at 2;");
        y.go(0, 1);
        y.go(1, 0);
        CHECK.done(y, "in one cell", y.game(0, 1, 0), 0);
        ThornSchool z = Check.with("thicket 4 by 1;thorns 1 9;thorns 3 9;pupil p at 0;pupil q at 2;");
        z.go(0, 1);
        CHECK.done(z, "as if not caught: he flees", z.moveOf(0, 1, 1), 0);
        z.go(1, 1);
        CHECK.done(z, "as if not caught: he comes", z.game(0, 1, 1), 1);
        ThornSchool w = Check.with("thicket 3 by 1;thorns 1 9;pupil p at 2;pupil q at 0;");
        w.go(1, 1);
        CHECK.done(w, "as if not caught: he comes", w.game(0, 1, 1), 0);
        w.wish(1, 9);
        CHECK.done(w, "he comes all the same", w.game(0, 1, 1), 0);
    }

    private static void moves() {
        move("thicket 3 by 3;pupil p at 4;pupil q at 8;", 1, 0);
        move("thicket 3 by 3;pupil p at 4;pupil q at 3;", 1, 1);
        move("thicket 3 by 3;pupil p at 3;pupil q at 8;", 1, 1);
        move("thicket 3 by 3;thorns 4 1;pupil p at 3;pupil q at 8;", 1, 2);
        move("thicket 3 by 3;thorns 4 1;pupil p at 3;pupil q at 0;", 1, 3);
        move("thicket 3 by 1;pupil p at 0;pupil q at 2;", 1, 4);
        move("thicket 5 by 1;pupil p at 1;pupil q at 4;", 2, 0);
        move("thicket 5 by 1;pupil p at 1;pupil q at 4;", 1, 0);
        move("thicket 5 by 1;pupil p at 0;pupil q at 4;", 1, 1);
        move("thicket 5 by 1;pupil p at 0;pupil q at 3;", 2, 1);
        move("thicket 5 by 1;pupil p at 0;pupil q at 2;", 1, 4);
        move("thicket 5 by 1;pupil p at 0;pupil q at 4;", 3, 1);
        move("thicket 3 by 2;pupil p at 1;pupil q at 2;", 2, 0);
        move("thicket 1 by 5;pupil p at 3;pupil q at 0;", 1, 2);
        // at the beginning they are in one cell, though only p could go on from there
        game("thicket 3 by 1;thorns 0 1;thorns 2 1;lesson a hours 1;pupil p at 1 knows a;pupil q at 1;", 1, 0);
        game("thicket 5 by 5;pupil p at 24;pupil q at 23;", 4, 1);
        game("thicket 5 by 5;thorns 19 1;pupil p at 24;pupil q at 23;", 1, 0);
        move("thicket 1 by 5;pupil p at 3;pupil q at 2;", 1, 3);
    }

    private static void wrongGames() {
        ThornSchool x = Check.with("pupil p at 0;pupil q at 15;");
        for (int p : new int[] {-1, 2}) {
            CHECK.none(x, "game of " + p, x.game(p, 0, 1), 1);
            CHECK.none(x, "game with " + p, x.game(0, p, 1), 1);
            CHECK.none(x, "move of " + p, x.moveOf(p, 0, 1), 1);
            CHECK.none(x, "move with " + p, x.moveOf(0, p, 1), 1);
        }
        CHECK.none(x, "game with himself", x.game(1, 1, 1), 1);
        CHECK.none(x, "move with himself", x.moveOf(1, 1, 1), 1);
        CHECK.none(x, "game by -1", x.game(0, 1, -1), 1);
        CHECK.none(x, "game by 5", x.game(0, 1, 5), 1);
        CHECK.none(x, "move by -1", x.moveOf(0, 1, -1), 1);
        CHECK.none(x, "move by 0", x.moveOf(0, 1, 0), 1);
        CHECK.none(x, "move by 5", x.moveOf(0, 1, 5), 1);
        CHECK.same("nobody went", x.cell(0, 2), 1);
    }

    private static void chances() {
        ThornSchool x = Check.with("thicket 5 by 5;odds 4;thorns 1 1;thorns 6 1;thorns 11 1;thorns 16 1;thorns 8 1;thorns 13 1;thorns 18 1;thorns 23 1;pupil p at 0;");
        CHECK.fraction(x, "his own", x.chance(0, 0), 1, 1);
        CHECK.fraction(x, "a step", x.chance(0, 5), 3, 4);
        CHECK.fraction(x, "two", x.chance(0, 10), 9, 16);
        CHECK.fraction(x, "15 steps", x.chance(0, 19), 14348907L, 1073741824L);
        CHECK.none(x, "16 steps", x.chance(0, 24), 6);
        CHECK.same("the top stays", x.top(), 14348907L);
        CHECK.none(x, "thorns", x.chance(0, 1), 6);
        CHECK.none(x, "pupil -1", x.chance(-1, 0), 1);
        CHECK.none(x, "pupil 1", x.chance(1, 0), 1);
        CHECK.none(x, "cell -1", x.chance(0, -1), 1);
        CHECK.none(x, "cell 25", x.chance(0, 25), 1);
        x.rule(3);
        CHECK.fraction(x, "by odds 3", x.chance(0, 19), 51185893014090757L, 1152921504606846976L);
        x.rule(0);
        CHECK.fraction(x, "by odds 0", x.chance(0, 19), 1, 1);
        x.rule(16);
        CHECK.fraction(x, "by odds 16", x.chance(0, 5), 0, 1);
        CHECK.fraction(x, "by odds 16 without a step", x.chance(0, 0), 1, 1);
    }

    private static void slips() {
        ThornSchool x = new ThornSchool();
        CHECK.fraction(x, "0 of 0", x.slips(0, 0), 1, 1);
        CHECK.fraction(x, "1 of 0", x.slips(0, 1), 0, 1);
        CHECK.fraction(x, "1 of 1", x.slips(1, 1), 1, 8);
        CHECK.fraction(x, "1 of 2", x.slips(2, 1), 15, 64);
        CHECK.fraction(x, "2 of 2", x.slips(2, 2), 1, 64);
        CHECK.fraction(x, "2 of 3", x.slips(3, 2), 11, 256);
        x.rule(3);
        CHECK.fraction(x, "12 of 12", x.slips(12, 12), 531441L, 281474976710656L);
        CHECK.fraction(x, "1 of 12", x.slips(12, 1), 281474976710656L - 23298085122481L, 281474976710656L);
        CHECK.fraction(x, "0 of 12", x.slips(12, 0), 1, 1);
        x.rule(8);
        CHECK.fraction(x, "6 of 12", x.slips(12, 6), 1255, 2048);
        x.rule(0);
        CHECK.fraction(x, "by odds 0", x.slips(12, 1), 0, 1);
        CHECK.fraction(x, "by odds 0, none", x.slips(12, 0), 1, 1);
        x.rule(16);
        CHECK.fraction(x, "by odds 16", x.slips(12, 12), 1, 1);
        CHECK.none(x, "n -1", x.slips(-1, 0), 1);
        CHECK.none(x, "n 13", x.slips(13, 0), 1);
        CHECK.none(x, "k -1", x.slips(1, -1), 1);
        CHECK.none(x, "k 13", x.slips(1, 13), 1);
        CHECK.same("the top stays", x.top(), 1);
    }

    private static void copies() {
        ThornSchool x = Check.with("thicket 3 by 2;thorns 0 1;thorns 4 9;");
        CHECK.none(x, "a missing one", x.copyThorns(0), 2);
        CHECK.none(x, "tray -1", x.copyThorns(-1), 1);
        CHECK.none(x, "tray 4", x.copyThorns(4), 1);
        for (int sort = 0; sort < 4; sort++) {
            x.tray(0, sort, 7);
            for (int i = 0; i < 7; i++) x.write(0, i, 77);
            CHECK.done(x, "copy", x.copyThorns(0), 6);
            int[] due = {1, 0, 0, 0, 9, 0, 77};
            for (int i = 0; i < due.length; i++) CHECK.same("place " + i, x.read(0, i), due[i]);
        }
        x.tray(1, 0, 6);
        CHECK.done(x, "just so many", x.copyThorns(1), 6);
        x.tray(1, 0, 5);
        x.write(1, 0, 5);
        CHECK.none(x, "too few", x.copyThorns(1), 3);
        CHECK.same("nothing came", x.read(1, 0), 5);
    }
}
