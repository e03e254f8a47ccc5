/** Promises 1 to 7: a new object, society, feud, theme, song, vote, round. */
public final class SocietiesTest {
    public static void main(String[] args) {
        newObject();
        society();
        societyWrong();
        feud();
        feudWrong();
        theme();
        themeTaken();
        themeWrong();
        song();
        songWrong();
        vote();
        voteWrong();
        round();
        roundWrong();
        Check.finish("SocietiesTest");
    }

    private static Floatparade withSocieties(int count) {
        Floatparade x = new Floatparade();
        for (int i = 0; i < count; i++) {
            x.society(i % 2, 10 + i);
        }
        return x;
    }

    private static void newObject() {
        Floatparade x = new Floatparade();
        Check.index("about(0, 0) of none", () -> x.about(0, 0));
        for (int league = 0; league < 2; league++) {
            int of = league;
            Check.is("order, new", -1, x.order(of, 0));
            Check.is("table, new", -1, x.table(of, 0));
            Check.state("part, new", () -> x.part(of, 0, 0));
            Check.state("stop, new", () -> x.stop(of, 0, 1));
            Check.state("march, new", () -> x.march(of, 1));
            Check.state("begin, new", () -> x.begin(of, 1, 1));
            Check.state("goOn, new", () -> x.goOn(of, 1));
        }
        Check.state("endYear, new", () -> x.endYear());
        Check.is("draw: 0 was first", 0, x.draw(0));
        Check.is("rain: it did not", false, x.rain(false));
        for (int corner = 0; corner < 12; corner++) {
            Check.is("ambulance, new", 0, x.ambulance(corner));
            Check.is("jury, new", false, x.jury(corner, false));
        }
        Check.is("the first street", 1, x.street(0, 1, 1, 3, 2, 1));
        Check.is("the first society", 0, x.society(0, 1));
    }

    private static void society() {
        Floatparade x = new Floatparade();
        for (int i = 0; i < 10; i++) {
            Check.is("society " + i, i, x.society(i % 2, i == 0 ? 1 : 200));
            Check.is("league of " + i, i % 2, x.about(i, 0));
            Check.is("members of " + i, i == 0 ? 1 : 200, x.about(i, 1));
            for (int what = 2; what <= 8; what++) {
                Check.is("a new one, what " + what, what == 3 ? -1 : 0, x.about(i, what));
            }
        }
        Check.state("an eleventh", () -> x.society(0, 1));
        Check.argument("range is told ahead of the state", () -> x.society(2, 1));
        Check.argument("range is told ahead of the state", () -> x.society(0, 0));
        Check.index("none was made", () -> x.about(10, 0));
    }

    private static void societyWrong() {
        Floatparade x = new Floatparade();
        Check.argument("league -1", () -> x.society(-1, 5));
        Check.argument("league 2", () -> x.society(2, 5));
        Check.argument("members 0", () -> x.society(0, 0));
        Check.argument("members 201", () -> x.society(0, 201));
        Check.argument("members least", () -> x.society(1, Integer.MIN_VALUE));
        Check.is("nothing was changed", 0, x.society(1, 200));
    }

    private static void feud() {
        Floatparade x = withSocieties(10);
        Check.is("had none", false, x.feud(0, 9, true));
        Check.is("had one, told the other way", true, x.feud(9, 0, true));
        Check.is("others have none", false, x.feud(0, 8, false));
        Check.is("ended", true, x.feud(9, 0, false));
        Check.is("had none any more", false, x.feud(0, 9, false));
        Check.is("again", false, x.feud(9, 0, true));
        Check.is("two of them", false, x.feud(0, 1, true));
        Check.is("one ended", true, x.feud(1, 0, false));
        Check.is("the other one stands", true, x.feud(0, 9, true));
    }

    private static void feudWrong() {
        Floatparade x = withSocieties(2);
        Check.index("one -1", () -> x.feud(-1, 0, true));
        Check.index("one 2", () -> x.feud(2, 0, true));
        Check.index("other -1", () -> x.feud(0, -1, true));
        Check.index("other 2", () -> x.feud(1, 2, true));
        Check.index("both, and the same", () -> x.feud(2, 2, true));
        Check.argument("the same", () -> x.feud(1, 1, true));
        Check.is("nothing was changed", false, x.feud(0, 1, true));
        Check.argument("the same", () -> x.feud(0, 0, false));
        Check.is("nothing was changed", true, x.feud(0, 1, true));
    }

    private static void theme() {
        Floatparade x = withSocieties(4);
        Check.is("the first one", 0, x.theme(0, 0b111, 5));
        Check.is("its words", 0b111, x.about(0, 2));
        Check.is("two words in common", 0, x.theme(1, 0b1011, 99));
        Check.is("three in common, the same day", -1, x.theme(2, 0b1111, 5));
        Check.is("refused, no words", 0, x.about(2, 2));
        Check.is("three in common, later", -1, x.theme(2, 0b111, 6));
        Check.is("three in common, a day ahead: those of 0 and 1 go", 2, x.theme(2, 0b1111, 4));
        Check.is("taken", 0, x.about(0, 2));
        Check.is("taken", 0, x.about(1, 2));
        Check.is("stands", 0b1111, x.about(2, 2));
        Check.is("greatest", -1, x.theme(3, 4095, 99));
        Check.is("least day", 1, x.theme(3, 4095, 1));
        Check.is("one taken", 0, x.about(2, 2));
    }

    private static void themeTaken() {
        Floatparade x = withSocieties(3);
        x.theme(0, 0b111, 10);
        Check.is("its own one is no hindrance", 0, x.theme(0, 0b1111, 10));
        Check.is("nor taken from it", 0, x.theme(0, 0b11111, 3));
        x.theme(1, 0b11100000, 50);
        Check.is("refused", -1, x.theme(1, 0b111, 50));
        Check.is("its own one is gone in any case", 0, x.about(1, 2));
        Check.is("the other one stands", 0b11111, x.about(0, 2));
        Check.is("what was taken away binds no more", 0, x.theme(1, 0b11100000, 60));
        Check.is("one taken", 1, x.theme(2, 0b11100000, 59));
        Check.is("so it is free again, but for the new one", -1, x.theme(1, 0b11100000, 60));
        Check.is("away with the new one", 0, x.theme(2, 0b1, 1));
        Check.is("it stands now", 0, x.theme(1, 0b11100000, 60));
        Check.is("leagues are no matter", 0b11100000, x.about(1, 2));
        Check.is("one of several is earlier", -1, x.theme(2, 0b11111111, 30));
        Check.is("none was taken by a refused one", 0b11100000, x.about(1, 2));
    }

    private static void themeWrong() {
        Floatparade x = withSocieties(2);
        x.theme(0, 0b111, 10);
        Check.index("society -1", () -> x.theme(-1, 1, 1));
        Check.index("society 2, ahead of the words", () -> x.theme(2, 0, 1));
        Check.argument("words 0", () -> x.theme(0, 0, 1));
        Check.argument("words 4096", () -> x.theme(0, 4096, 1));
        Check.argument("words -1", () -> x.theme(0, -1, 1));
        Check.argument("day 0", () -> x.theme(0, 1, 0));
        Check.argument("day 100", () -> x.theme(0, 1, 100));
        Check.is("nothing was changed", 0b111, x.about(0, 2));
        Check.is("not the day either", -1, x.theme(1, 0b111, 10));
        Check.is("not the day either", 1, x.theme(1, 0b111, 9));
    }

    private static void song() {
        Floatparade x = withSocieties(2);
        Check.is("none chosen without songs", -1, x.about(0, 3));
        Check.is("song 0", 0, x.song(0));
        Check.is("the only one is chosen", 0, x.about(0, 3));
        for (int i = 1; i < 6; i++) {
            Check.is("song " + i, i, x.song(0));
            Check.is("none chosen", -1, x.about(0, 3));
        }
        Check.is("another society's", 0, x.song(1));
    }

    private static void songWrong() {
        Floatparade x = withSocieties(2);
        Check.index("society -1", () -> x.song(-1));
        Check.index("society 2", () -> x.song(2));
        for (int i = 0; i < 6; i++) {
            x.song(0);
        }
        Check.state("a seventh", () -> x.song(0));
        x.song(1);
        x.song(1);
        x.song(1);
        x.round(1);
        Check.state("a round was ended", () -> x.song(1));
        Check.index("nothing was added", () -> x.vote(1, 3, 1));
        Check.index("nothing was added", () -> x.vote(0, 6, 1));
    }

    private static void vote() {
        Floatparade x = withSocieties(2);
        x.song(0);
        x.song(0);
        Check.is("least", 1, x.vote(0, 0, 1));
        Check.is("more", 100, x.vote(0, 0, 99));
        Check.is("more", 199, x.vote(0, 0, 99));
        Check.is("of another one", 7, x.vote(0, 1, 7));
        x.song(0);
        Check.is("votes stay when a song comes", 8, x.vote(0, 1, 1));
        Check.is("the fewest", 2, x.round(0));
        Check.is("votes begin anew", 5, x.vote(0, 0, 5));
        Check.is("votes begin anew", 6, x.vote(0, 1, 6));
        Check.is("the fewest", 0, x.round(0));
        Check.is("chosen", 1, x.about(0, 3));
    }

    private static void voteWrong() {
        Floatparade x = withSocieties(2);
        Check.index("no song", () -> x.vote(0, 0, 1));
        x.song(0);
        Check.state("the only one is chosen", () -> x.vote(0, 0, 1));
        x.song(0);
        x.song(0);
        Check.index("society -1", () -> x.vote(-1, 0, 1));
        Check.index("society 2", () -> x.vote(2, 0, 1));
        Check.index("song -1", () -> x.vote(0, -1, 1));
        Check.index("song 3, ahead of the votes", () -> x.vote(0, 3, 0));
        Check.argument("votes 0", () -> x.vote(0, 0, 0));
        Check.argument("votes 100", () -> x.vote(0, 0, 100));
        Check.is("nothing was changed", 1, x.vote(0, 0, 1));
        Check.is("two have none: the greatest number", 2, x.round(0));
        Check.state("struck out", () -> x.vote(0, 2, 1));
        Check.argument("votes ahead of that", () -> x.vote(0, 2, 0));
        Check.is("votes go on", 1, x.vote(0, 1, 1));
        Check.is("0 has none now", 0, x.round(0));
        Check.state("1 is chosen", () -> x.vote(0, 1, 1));
        Check.state("struck out", () -> x.vote(0, 0, 1));
    }

    private static void round() {
        Floatparade x = withSocieties(2);
        for (int i = 0; i < 6; i++) {
            x.song(0);
        }
        x.vote(0, 0, 3);
        x.vote(0, 1, 2);
        x.vote(0, 2, 2);
        x.vote(0, 3, 9);
        x.vote(0, 4, 5);
        x.vote(0, 5, 6);
        Check.is("of 1 and 2 the greater", 2, x.round(0));
        Check.is("none chosen yet", -1, x.about(0, 3));
        Check.is("without votes the greatest", 5, x.round(0));
        x.vote(0, 4, 1);
        Check.is("not one struck out", 3, x.round(0));
        x.vote(0, 0, 1);
        x.vote(0, 1, 1);
        x.vote(0, 4, 1);
        Check.is("all the same", 4, x.round(0));
        x.vote(0, 1, 99);
        Check.is("the fewest", 0, x.round(0));
        Check.is("chosen", 1, x.about(0, 3));
    }

    private static void roundWrong() {
        Floatparade x = withSocieties(2);
        Check.index("society -1", () -> x.round(-1));
        Check.index("society 2", () -> x.round(2));
        Check.state("no songs", () -> x.round(0));
        x.song(0);
        Check.state("one song", () -> x.round(0));
        Check.is("no round was ended", 1, x.song(0));
        x.vote(0, 1, 1);
        Check.is("struck out", 0, x.round(0));
        Check.state("one is chosen", () -> x.round(0));
        Check.is("still", 1, x.about(0, 3));
    }
}
