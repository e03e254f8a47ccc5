/** Promises 1 to 7, and what the terms say of societies, themes and songs: the edges, sentence by sentence. */
public final class EdgesOfSocietiesTest {
    public static void main(String[] args) throws IllegalAccessException {
        Check.all(EdgesOfSocietiesTest.class);
    }

    // ---- promise 1: a new object

    /** Promise 1: "No societies, no streets; no march;" */
    static void newObject() {
        Refused.index("no society 0", City::empty, x -> x.about(0, 0));
        Check.is("the first society", 0, City.empty().society(0, 1));
        Check.is("the first street", 1, City.empty().street(0, 1, 1, 3, 2, 1));
        for (int league = 0; league < 2; league++) {
            int of = league;
            Refused.state("no march that goes on", City::empty, x -> x.march(of, 1));
            Refused.state("no march to begin", City::empty, x -> x.begin(of, 1, 200));
            Refused.state("no march that has begun", City::empty, x -> x.part(of, 0, 0));
            Check.is("no march that has ended", -1, City.empty().table(league, 0));
        }
        Refused.state("no year to end", City::empty, Floatparade::endYear);
    }

    /**
     * Promise 1: "least 1 and most 200 minutes;" So a march of 1 minute is not too short, and one of 200 not too long.
     */
    static void leastAndMostOfANewObject() {
        for (int minutes : new int[] {1, 200}) {
            Floatparade x = City.afterMarchOf(minutes, 1, 200);
            Check.is("time", minutes, x.clock(0, 3));
            Check.is("penalties", 0, x.about(0, 8));
        }
    }

    /** Promise 1: "categories are drawn as 0 to 4." */
    static void categoriesOfANewObject() {
        Check.is("0 was first", 0, City.empty().draw(4));
        for (int place = 0; place < 5; place++) {
            Floatparade x = City.ofLeagues(0, 0);
            City.run(x, 0, 0, 1);
            EdgesOfNotesTest.tie(x, 0, place, 1);
            Check.is("the first of the table, unlike in category " + place, 1, x.table(0, 0));
        }
    }

    // ---- promise 2: society

    /** Promise 2: "league: 0 or 1". Terms: "each in the league 0 or 1." */
    static void leagueOfASociety() {
        Refused.argumentBeyond("league", 0, 1, City::empty, (x, league) -> x.society(league, 5));
        for (int league = 0; league < 2; league++) {
            Floatparade x = new Floatparade();
            x.society(league, 5);
            Check.is("league", league, x.about(0, 0));
        }
    }

    /** Promise 2: "members: 1 to 200" */
    static void membersOfASociety() {
        Refused.argumentBeyond("members", 1, 200, City::empty, (x, members) -> x.society(0, members));
        for (int members : new int[] {1, 200}) {
            Floatparade x = new Floatparade();
            x.society(1, members);
            Check.is("members", members, x.about(0, 1));
        }
    }

    /** Promise 2: "Founds a society." "Returns its number." Terms: "Societies are numbered from 0, at most 10," */
    static void numbersOfSocieties() {
        Floatparade x = new Floatparade();
        for (int i = 0; i < 10; i++) {
            int number = i;
            Check.index("not yet " + i, () -> x.about(number, 0));
            Check.is("number", i, x.society(i % 2, 1 + i));
            Check.is("members of " + i, 1 + i, x.about(i, 1));
        }
        Check.is("members of the first one", 1, x.about(0, 1));
    }

    /** Promise 2: "Throws IllegalStateException if there are 10" */
    static void societiesAreFull() {
        Check.is("the last one", 9, City.ofSocieties(9).society(0, 1));
        Refused.state("one more than 10", City::ofTen, x -> x.society(0, 1));
        Refused.state("one more than 10", City::ofTen, x -> x.society(1, 200));
    }

    /** Promise 2: "Throws IllegalArgumentException if an argument is out of range", ahead of the 10 there are. */
    static void societyOutOfRange() {
        Refused.argument("league, and 10 are there", City::ofTen, x -> x.society(2, 1));
        Refused.argument("members, and 10 are there", City::ofTen, x -> x.society(0, 0));
        Refused.argument("both", City::preparing, x -> x.society(-1, 201));
    }

    // ---- promise 3: feud

    /**
     * Promise 3: "one: a society" "other: another one"
     * "Throws IndexOutOfBoundsException if there is no such society, of either"
     */
    static void societiesOfAFeud() {
        Refused.indexBeyond("one", 0, 9, City::ofTen, (x, one) -> x.feud(one, 5, true));
        Refused.indexBeyond("other", 0, 9, City::ofTen, (x, other) -> x.feud(5, other, true));
        Refused.index("the first one is not there yet", City::empty, x -> x.feud(0, 1, true));
        Refused.index("one is not there yet", City::preparing, x -> x.feud(5, 0, true));
        Refused.index("other is not there yet", City::preparing, x -> x.feud(0, 5, true));
    }

    /** Promise 3: "Throws IllegalArgumentException if both are the same", but of one that is not there the index. */
    static void feudWithItself() {
        Refused.argument("0 and 0", City::preparing, x -> x.feud(0, 0, true));
        Refused.argument("4 and 4", City::preparing, x -> x.feud(4, 4, false));
        Refused.index("the same, and not there", City::preparing, x -> x.feud(5, 5, true));
        Refused.index("the same, and not there", City::preparing, x -> x.feud(-1, -1, true));
    }

    /** Promise 3: "Lets two societies have a feud, or end it." "isOn: whether" "Returns whether they had one." */
    static void feudOnAndOff() {
        Floatparade x = City.ofTen();
        Check.is("had none", false, x.feud(0, 9, false));
        Check.is("had none", false, x.feud(0, 9, true));
        Check.is("had one", true, x.feud(0, 9, true));
        Check.is("had one, told the other way", true, x.feud(9, 0, false));
        Check.is("had none any more", false, x.feud(0, 9, false));
    }

    /** Terms: "Two of them may have a feud." Each two, and by that no others. */
    static void feudsOfEachTwo() {
        for (int one = 0; one < 10; one++) {
            for (int other = one + 1; other < 10; other++) {
                Floatparade x = City.ofTen();
                x.feud(one, other, true);
                Check.is("feuds of the others", 0, feudsBut(x, one, other));
                Check.is("their own", true, x.feud(other, one, true));
            }
        }
    }

    private static int feudsBut(Floatparade x, int one, int other) {
        int feuds = 0;
        for (int i = 0; i < 10; i++) {
            for (int j = i + 1; j < 10; j++) {
                feuds += (i != one || j != other) && x.feud(i, j, false) ? 1 : 0;
            }
        }
        return feuds;
    }

    // ---- promise 4: theme

    /** Promise 4: "society: a society" "Throws IndexOutOfBoundsException if there is no such society" */
    static void societyOfATheme() {
        Refused.indexBeyond("society", 0, 9, City::ofTen, (x, society) -> x.theme(society, 7, 5));
        Refused.index("none is there yet", City::empty, x -> x.theme(0, 7, 5));
        Refused.index("the next one", City::preparing, x -> x.theme(5, 7, 5));
    }

    /** Promise 4: "words: 1 to 4095" Terms: "A theme is a set of words, bits 0 to 11;" */
    static void wordsOfATheme() {
        Refused.argumentBeyond("words", 1, 4095, City::preparing, (x, words) -> x.theme(0, words, 5));
        for (int words : new int[] {1, 1 << 11, 4095}) {
            Floatparade x = City.ofSocieties(1);
            Check.is("none is taken away", 0, x.theme(0, words, 5));
            Check.is("words", words, x.about(0, 2));
        }
    }

    /** Promise 4: "day: 1 to 99" Terms: "a society announces one in a year, on a day, 1 to 99." */
    static void dayOfATheme() {
        Refused.argumentBeyond("day", 1, 99, City::preparing, (x, day) -> x.theme(0, 7, day));
        Floatparade x = City.ofSocieties(3);
        Check.is("the last day", 0, x.theme(0, 7, 99));
        Check.is("the same, the last day", -1, x.theme(1, 7, 99));
        Check.is("the first day", 1, x.theme(1, 7, 1));
        Check.is("the same, the first day", -1, x.theme(2, 7, 1));
    }

    /** Promise 4: "Throws IllegalArgumentException if words or day is out of range", behind the society. */
    static void themeOutOfRange() {
        Refused.index("no society, no words", City::preparing, x -> x.theme(5, 0, 5));
        Refused.index("no society, no day", City::preparing, x -> x.theme(-1, 7, 100));
        Refused.argument("no words, no day", City::preparing, x -> x.theme(2, 4096, 0));
        Refused.argument("words that would take its own away", City::preparing, x -> x.theme(2, 0, 50));
        Refused.argument("a day that would take others away", City::preparing, x -> x.theme(4, 4095, 0));
    }

    /** Terms: "It is refused if another society has one with a day that is earlier, or the same," */
    static void themeByDays() {
        for (int day = 49; day <= 51; day++) {
            Floatparade x = City.ofSocieties(2);
            x.theme(0, 0b111, day);
            boolean isRefused = day <= 50;
            Check.is("on 50, the other one on " + day, isRefused ? -1 : 1, x.theme(1, 0b111, 50));
            Check.is("words of the new one", isRefused ? 0 : 0b111, x.about(1, 2));
            Check.is("words of the other one", isRefused ? 0b111 : 0, x.about(0, 2));
        }
    }

    /** Terms: "that has at least three words in common with it;" Two are no matter, whichever they are. */
    static void themeByWords() {
        int[] words = {0b11, 0b101000000001, 0b111, 0b100000000110, 0b110000000001, 4095};
        int[] common = {2, 2, 3, 2, 2, 4};
        for (int i = 0; i < words.length; i++) {
            Floatparade x = City.ofSocieties(2);
            x.theme(0, 0b1000000111, 50);
            Check.is(common[i] + " in common, later", common[i] >= 3 ? -1 : 0, x.theme(1, words[i], 51));
            Check.is(common[i] + " in common, earlier", common[i] >= 3 ? 1 : 0, x.theme(1, words[i], 49));
        }
        Floatparade y = City.ofSocieties(2);
        y.theme(0, 0b100000000011, 50);
        Check.is("the words 0, 1 and 11", -1, y.theme(1, 0b111000000011, 50));
        Check.is("the words 0 and 11", 0, y.theme(1, 0b111000000101, 50));
    }

    /** Terms: "if it stands, those of others with a later day that have so are taken away." None else is. */
    static void themesTakenAway() {
        Floatparade x = City.ofSocieties(5);
        x.theme(0, 0b111, 51);
        x.theme(1, 0b111000, 99);
        x.theme(2, 0b11000011000, 60);
        x.theme(3, 0b111000000000, 1);
        Check.is("of 0 and 1", 2, x.theme(4, 0b110111111, 50));
        int[] due = {0, 0, 0b11000011000, 0b111000000000, 0b110111111};
        for (int i = 0; i < due.length; i++) {
            Check.is("words of " + i, due[i], x.about(i, 2));
        }
    }

    /** Promise 4: "Returns how many themes of others are taken away; NONE if it is refused." At most nine. */
    static void themesOfAllOthers() {
        int[] sets = {0b111, 0b111000, 0b111000000, 0b111000000000, 0b1001001, 0b10010010, 0b100100100, 0b100010001,
            0b1100010};
        Floatparade x = City.ofTen();
        for (int i = 0; i < 9; i++) {
            Check.is("two in common with none", 0, x.theme(i, sets[i], 2 + i));
        }
        Check.is("refused by the one of the day 2", -1, x.theme(9, 4095, 2));
        for (int i = 0; i < 9; i++) {
            Check.is("a refused one takes none away", sets[i], x.about(i, 2));
        }
        Check.is("all nine", 9, x.theme(9, 4095, 1));
        for (int i = 0; i < 9; i++) {
            Check.is("taken away", 0, x.about(i, 2));
        }
    }

    /** Promise 4: "Announces a theme, in place of its own one before, which is gone in any case." */
    static void themeInPlace() {
        Floatparade x = City.ofSocieties(3);
        x.theme(0, 0b111, 10);
        Check.is("its own one does not refuse it", 0, x.theme(0, 0b111, 10));
        Check.is("nor is it counted", 0, x.theme(0, 0b1111, 5));
        x.theme(1, 0b111000000, 10);
        Check.is("refused", -1, x.theme(1, 0b111, 10));
        Check.is("its own one is gone all the same", 0, x.about(1, 2));
        Check.is("so it refuses none any more", 0, x.theme(2, 0b111000000, 99));
        Check.is("refused, without one before", -1, x.theme(1, 0b111, 10));
        Check.is("still none", 0, x.about(1, 2));
    }

    // ---- promise 5: song

    /** Promise 5: "society: a society" "Throws IndexOutOfBoundsException if there is no such society" */
    static void societyOfASong() {
        Refused.indexBeyond("society", 0, 9, City::ofTen, (x, society) -> x.song(society));
        Refused.index("none is there yet", City::empty, x -> x.song(0));
        Refused.index("the next one", City::preparing, x -> x.song(5));
    }

    /**
     * Promise 5: "Adds a song." "Returns its number." Terms: "A society has songs, up to 6, numbered from 0."
     * No song yet, and 6 of them.
     */
    static void songsFromNoneTo6() {
        Floatparade x = City.ofSocieties(2);
        for (int i = 0; i < 6; i++) {
            int song = i;
            Check.index("not yet " + i, () -> x.vote(0, song, 1));
            Check.is("number", i, x.song(0));
        }
        Check.is("the last one has votes", 1, x.vote(0, 5, 1));
        Check.is("the first one of another society", 0, x.song(1));
    }

    private static Floatparade withSongs(int count) {
        Floatparade x = City.preparing();
        for (int i = 0; i < count; i++) {
            x.song(4);
        }
        return x;
    }

    /** Promise 5: "Throws IllegalStateException if it has 6," Struck out or not makes no difference to that. */
    static void songsAreFull() {
        Check.is("the sixth", 5, withSongs(5).song(4));
        Refused.state("a seventh", () -> withSongs(6), x -> x.song(4));
        Check.is("another society is not full", 1, withSongs(6).song(2));
    }

    /** Promise 5: "or a round was ended for it this year" Not for another one, nor a year before. */
    static void songAfterARound() {
        Refused.state("a round was ended for 1", City::preparing, x -> x.song(1));
        Check.is("not for 0", 3, City.preparing().song(0));
        Floatparade x = City.ofLeagues(0);
        x.song(0);
        x.song(0);
        x.round(0);
        City.run(x, 0, 0);
        Check.state("a round was ended", () -> x.song(0));
        x.endYear();
        Check.is("a new year", 0, x.song(0));
        Check.is("a new year", 1, x.song(0));
        Floatparade y = City.ofSocieties(1);
        y.song(0);
        Check.state("a refused round", () -> y.round(0));
        Check.is("is none", 1, y.song(0));
    }

    // ---- promise 6: vote

    /**
     * Promise 6: "society: a society" "song: its number"
     * "Throws IndexOutOfBoundsException if there is no such society or song"
     */
    static void songOfAVote() {
        Refused.indexBeyond("song", 0, 5, () -> withSongs(6), (x, song) -> x.vote(4, song, 1));
        Refused.index("no song", () -> withSongs(0), x -> x.vote(4, 0, 1));
        Refused.index("the next song", City::preparing, x -> x.vote(0, 3, 1));
        Refused.index("society -1", City::preparing, x -> x.vote(-1, 0, 1));
        Refused.index("society 5", City::preparing, x -> x.vote(5, 0, 1));
        Refused.index("no society", City::empty, x -> x.vote(0, 0, 1));
    }

    /** Promise 6: "votes: 1 to 99, more" "Returns how many votes it has then." "Votes for a song." */
    static void votesOfAVote() {
        Refused.argumentBeyond("votes", 1, 99, City::preparing, (x, votes) -> x.vote(0, 2, votes));
        Floatparade x = withSongs(2);
        Check.is("of none", 99, x.vote(4, 0, 99));
        Check.is("more", 100, x.vote(4, 0, 1));
        Check.is("more", 199, x.vote(4, 0, 99));
        Check.is("another song's are its own", 1, x.vote(4, 1, 1));
    }

    /** Promise 6: "Throws IllegalStateException if the song is struck out, or one is chosen" */
    static void voteForNoSongLeft() {
        Refused.state("2 is struck out", City::preparing, x -> x.vote(1, 2, 1));
        Check.is("1 is not", 3, City.preparing().vote(1, 1, 1));
        Refused.state("1 is struck out, and 0 is chosen", EdgesOfSocietiesTest::chosen, x -> x.vote(1, 1, 1));
        Refused.state("0 is chosen", EdgesOfSocietiesTest::chosen, x -> x.vote(1, 0, 1));
        Refused.state("the only song is chosen", City::preparing, x -> x.vote(2, 0, 1));
    }

    /** Promise 6: "or one is chosen": the only song is so at once, until there is a second one. */
    static void voteForTheOnlySong() {
        Floatparade x = withSongs(1);
        Check.state("chosen", () -> x.vote(4, 0, 5));
        Check.is("a second one", 1, x.song(4));
        Check.is("chosen no more, and without votes", 1, x.vote(4, 0, 1));
        Check.is("struck out", 1, x.round(4));
        Check.state("chosen again", () -> x.vote(4, 0, 1));
    }

    private static Floatparade chosen() {
        Floatparade x = City.preparing();
        x.round(1);
        return x;
    }

    /** Promise 6: "Throws IllegalArgumentException if votes is out of range": behind the song, ahead of the state. */
    static void whichOfAVote() {
        Refused.index("no society, no votes", City::preparing, x -> x.vote(5, 0, 0));
        Refused.index("no song, no votes", City::preparing, x -> x.vote(0, 3, 100));
        Refused.index("no such song, and one is chosen", City::preparing, x -> x.vote(2, 1, 1));
        Refused.index("all three", City::preparing, x -> x.vote(2, -1, 0));
        Refused.argument("no votes, struck out", City::preparing, x -> x.vote(1, 2, 0));
        Refused.argument("no votes, chosen", City::preparing, x -> x.vote(2, 0, 100));
    }

    // ---- promise 7: round

    /** Promise 7: "society: a society" "Throws IndexOutOfBoundsException if there is no such society" */
    static void societyOfARound() {
        Refused.indexBeyond("society", 0, 9, EdgesOfSocietiesTest::tenWithSongs, (x, society) -> x.round(society));
        Refused.index("none is there yet", City::empty, x -> x.round(0));
        Refused.index("the next one", City::preparing, x -> x.round(5));
    }

    private static Floatparade tenWithSongs() {
        Floatparade x = City.ofTen();
        for (int i = 0; i < 20; i++) {
            x.song(i / 2);
        }
        return x;
    }

    /**
     * Promise 7: "Throws IllegalStateException if it has no songs, or one is chosen: fewer than two are left"
     * Terms: "A song is chosen, if it is the only one that is not struck out."
     */
    static void roundsUntilOneIsChosen() {
        Refused.state("no songs", () -> withSongs(0), x -> x.round(4));
        Refused.state("one song is chosen at once", () -> withSongs(1), x -> x.round(4));
        Refused.state("one is left", EdgesOfSocietiesTest::chosen, x -> x.round(1));
        for (int count = 0; count <= 6; count++) {
            Floatparade x = withSongs(count);
            for (int left = count; left > 1; left--) {
                Check.is("none is chosen of " + left, -1, x.about(4, 3));
                Check.is("struck out of " + left, left - 1, x.round(4));
            }
            Check.is("chosen of " + count, count == 0 ? -1 : 0, x.about(4, 3));
            Check.state("no more rounds", () -> x.round(4));
        }
    }

    /** Terms: "In a round each song that is not struck out has the votes told for it;" none are told: 0. */
    static void roundWithoutVotes() {
        Floatparade x = withSongs(3);
        x.vote(4, 0, 1);
        x.vote(4, 2, 1);
        Check.is("without votes", 1, x.round(4));
        x.vote(4, 2, 1);
        Check.is("without votes; that struck out has none either", 0, x.round(4));
        Check.is("chosen", 2, x.about(4, 3));
    }

    /**
     * Terms: "the one with the fewest, of several the one with the greatest number, is struck out;"
     * Promise 7: "Ends a round." "Returns the song that is struck out."
     */
    static void fewestVotes() {
        int[][] votes = {{5, 4, 3}, {3, 4, 5}, {4, 3, 5}, {5, 3, 3}, {3, 3, 4}, {3, 4, 3}, {3, 3, 3}, {2, 2, 1}};
        int[] due = {2, 0, 1, 2, 1, 2, 2, 2};
        for (int i = 0; i < votes.length; i++) {
            Floatparade x = withSongs(3);
            for (int song = 0; song < 3; song++) {
                x.vote(4, song, votes[i][song]);
            }
            int struck = due[i];
            Check.is("struck out, row " + i, struck, x.round(4));
            Check.state("no more votes for it", () -> x.vote(4, struck, 1));
            for (int song = 0; song < 3; song++) {
                if (song != struck) {
                    Check.is("the others are left", 1, x.vote(4, song, 1));
                }
            }
        }
    }

    /** Terms: "votes begin anew then." Of each song that is left; those of another society stay. */
    static void votesBeginAnew() {
        Floatparade x = withSongs(6);
        for (int song = 0; song < 6; song++) {
            x.vote(4, song, 10 + song);
        }
        Check.is("the fewest", 0, x.round(4));
        for (int song = 1; song < 6; song++) {
            Check.is("anew", 10 - song, x.vote(4, song, 10 - song));
        }
        Check.is("the fewest of the new ones", 5, x.round(4));
        Check.is("votes of 0 stay", 10, x.vote(0, 0, 1));
    }
}
