/** A city's carnival through the year: societies, streets, floats, the order, the march, notes and tables. */
public final class Floatparade {
    public static final int NONE = -1;

    private static final int LEAGUES = 2;
    private static final int SOCIETIES = 10;
    private static final int MEMBERS = 200;
    private static final int WORDS = 4095;
    private static final int DAYS = 99;
    private static final int COMMON_WORDS = 3;
    private static final int SONGS = 6;
    private static final int VOTES = 99;
    private static final int CORNERS = 12;
    private static final int STREETS = 16;
    private static final int ROUTE_CORNERS = 10;
    private static final int FLOATS = 3;
    private static final int SIZE = 20;
    private static final int LOAD = 99;
    private static final int LOTS = 99;
    private static final int FEUD_TIMES = 10;
    private static final int PARTS = SOCIETIES * FLOATS * 2;
    private static final int LIMIT = 200;
    private static final int JUDGES = 4;
    private static final int CATEGORIES = 5;
    private static final int PENALTIES = 20;
    private static final int GRANT = 100;

    private final Society[] societies = new Society[SOCIETIES];
    private final League[] leagues = new League[LEAGUES];
    private final Town town = new Town();
    private int societyCount;
    private int firstCategory;
    private int cameUp = NONE;
    private boolean isRaining;

    public Floatparade() {
        for (int i = 0; i < leagues.length; i++) {
            leagues[i] = new League(i);
        }
    }

    // ---- societies

    public int society(int league, int members) throws IllegalArgumentException, IllegalStateException {
        if (!isLeague(league) || !isWithin(members, 1, MEMBERS)) {
            throw new IllegalArgumentException("league or members is out of range");
        }
        int number = societyCount;
        if (number < 0 || number >= societies.length) {
            throw new IllegalStateException("there are 10 societies");
        }
        societies[number] = new Society(number, league, members);
        societyCount = number + 1;
        return number;
    }

    public boolean feud(int one, int other, boolean isOn)
            throws IndexOutOfBoundsException, IllegalArgumentException {
        Society first = societyAt(one);
        Society second = societyAt(other);
        if (first == null || second == null) {
            throw new IndexOutOfBoundsException("no such society");
        }
        if (one == other) {
            throw new IllegalArgumentException("both are the same");
        }
        boolean had = first.hasFeudWith(second);
        first.setFeud(second, isOn);
        second.setFeud(first, isOn);
        return had;
    }

    public int theme(int society, int words, int day) throws IndexOutOfBoundsException, IllegalArgumentException {
        Society announcer = societyAt(society);
        if (announcer == null) {
            throw new IndexOutOfBoundsException("no such society");
        }
        if (!isWithin(words, 1, WORDS) || !isWithin(day, 1, DAYS)) {
            throw new IllegalArgumentException("words or day is out of range");
        }
        announcer.words = 0;
        if (isThemeRefused(words, day)) {
            return NONE;
        }
        int taken = takeThemesAway(words);
        announcer.words = words;
        announcer.day = day;
        return taken;
    }

    public int song(int society) throws IndexOutOfBoundsException, IllegalStateException {
        Society singer = societyAt(society);
        if (singer == null) {
            throw new IndexOutOfBoundsException("no such society");
        }
        if (!singer.songs.mayGrow()) {
            throw new IllegalStateException("it has 6 songs, or a round was ended");
        }
        return singer.songs.add();
    }

    public int vote(int society, int song, int votes)
            throws IndexOutOfBoundsException, IllegalArgumentException, IllegalStateException {
        Society singer = societyAt(society);
        if (singer == null || !singer.songs.has(song)) {
            throw new IndexOutOfBoundsException("no such society or song");
        }
        if (!isWithin(votes, 1, VOTES)) {
            throw new IllegalArgumentException("votes is out of range");
        }
        if (singer.songs.isStruck(song) || singer.songs.chosen() != NONE) {
            throw new IllegalStateException("the song is struck out, or one is chosen");
        }
        return singer.songs.addVotes(song, votes);
    }

    public int round(int society) throws IndexOutOfBoundsException, IllegalStateException {
        Society singer = societyAt(society);
        if (singer == null) {
            throw new IndexOutOfBoundsException("no such society");
        }
        if (singer.songs.left() < 2) {
            throw new IllegalStateException("fewer than two songs are left");
        }
        return singer.songs.strikeWeakest();
    }

    // ---- streets, floats

    public int street(int one, int other, int length, int width, int wires, int load)
            throws IndexOutOfBoundsException, IllegalArgumentException, IllegalStateException {
        if (!isCorner(one) || !isCorner(other)) {
            throw new IndexOutOfBoundsException("no such corner");
        }
        if (one == other || !isWithin(length, 1, 30) || !isWithin(width, 3, 30) || !isWithin(wires, 2, 30)
                || !isWithin(load, 1, LOAD)) {
            throw new IllegalArgumentException("both corners are the same, or an argument is out of range");
        }
        if (town.isFull() || town.between(one, other) != null) {
            throw new IllegalStateException("there are 16 streets, or one is between them");
        }
        return town.lay(new Street(one, other, length, width, wires, load));
    }

    public void route(int league, int corner)
            throws IndexOutOfBoundsException, IllegalArgumentException, IllegalStateException {
        if (!isCorner(corner)) {
            throw new IndexOutOfBoundsException("no such corner");
        }
        League leading = leagueAt(league);
        if (leading == null) {
            throw new IllegalArgumentException("league is out of range");
        }
        if (leading.isRouteFixed()) {
            throw new IllegalStateException("the march has begun, or a society has entered");
        }
        leading.route.startAt(corner);
    }

    public int goOn(int league, int corner)
            throws IndexOutOfBoundsException, IllegalArgumentException, IllegalStateException {
        if (!isCorner(corner)) {
            throw new IndexOutOfBoundsException("no such corner");
        }
        League leading = leagueAt(league);
        if (leading == null) {
            throw new IllegalArgumentException("league is out of range");
        }
        Street next = town.between(leading.route.lastCorner(), corner);
        if (leading.isRouteFixed() || !leading.route.mayTake(corner) || next == null) {
            throw new IllegalStateException("the route can't be led there");
        }
        return leading.route.lead(corner, next);
    }

    public boolean jury(int corner, boolean isThere) throws IndexOutOfBoundsException {
        if (!isCorner(corner)) {
            throw new IndexOutOfBoundsException("no such corner");
        }
        return town.setJury(corner, isThere);
    }

    public int build(int society, int width, int height, int weight, int length)
            throws IndexOutOfBoundsException, IllegalArgumentException, IllegalStateException {
        Society builder = societyAt(society);
        if (builder == null) {
            throw new IndexOutOfBoundsException("no such society");
        }
        if (!isWithin(width, 1, SIZE) || !isWithin(height, 1, SIZE) || !isWithin(weight, 1, LOAD)
                || !isWithin(length, 1, SIZE)) {
            throw new IllegalArgumentException("a measure is out of range");
        }
        if (builder.wagonCount >= FLOATS || builder.isEntered) {
            throw new IllegalStateException("it has 3 floats, or has entered");
        }
        return builder.addWagon(new Wagon(width, height, weight, length));
    }

    public int cut(int society, int number, int width, int height, int weight, int length)
            throws IndexOutOfBoundsException, IllegalArgumentException, IllegalStateException {
        Society builder = societyAt(society);
        Wagon wagon = builder == null ? null : builder.wagonAt(number);
        if (builder == null || wagon == null) {
            throw new IndexOutOfBoundsException("no such society or float");
        }
        if (!isWithin(width, 1, wagon.width) || !isWithin(height, 1, wagon.height)
                || !isWithin(weight, 1, wagon.weight) || !isWithin(length, 1, wagon.length)) {
            throw new IllegalArgumentException("a measure is out of range");
        }
        if (builder.isEntered) {
            throw new IllegalStateException("it has entered");
        }
        return wagon.shrink(width, height, weight, length);
    }

    public boolean fits(int society, int number) throws IndexOutOfBoundsException {
        Society builder = societyAt(society);
        Wagon wagon = builder == null ? null : builder.wagonAt(number);
        if (builder == null || wagon == null) {
            throw new IndexOutOfBoundsException("no such society or float");
        }
        League league = leagueAt(builder.league);
        return league != null && league.route.lets(wagon);
    }

    // ---- the order, the march

    public int enter(int society, int lot)
            throws IndexOutOfBoundsException, IllegalArgumentException, IllegalStateException {
        Society entrant = societyAt(society);
        if (entrant == null) {
            throw new IndexOutOfBoundsException("no such society");
        }
        if (!isWithin(lot, 0, LOTS)) {
            throw new IllegalArgumentException("lot is out of range");
        }
        League league = leagueAt(entrant.league);
        if (league == null || entrant.isEntered || league.line.isBegun || !league.route.letsAll(entrant)) {
            throw new IllegalStateException("it can't enter");
        }
        entrant.isEntered = true;
        entrant.lot = lot;
        league.findOrder(societies, cameUp);
        return league.order.count;
    }

    public boolean change(int one, int other)
            throws IndexOutOfBoundsException, IllegalArgumentException, IllegalStateException {
        Society first = societyAt(one);
        Society second = societyAt(other);
        if (first == null || second == null) {
            throw new IndexOutOfBoundsException("no such society");
        }
        if (one == other) {
            throw new IllegalArgumentException("both are the same");
        }
        League league = leagueAt(first.league);
        if (league == null || !first.isEntered || !second.isEntered || first.league != second.league
                || league.line.isBegun) {
            throw new IllegalStateException("they can't change");
        }
        return league.order.changePlaces(first, second);
    }

    public int order(int league, int place) throws IndexOutOfBoundsException, IllegalArgumentException {
        if (place < 0) {
            throw new IndexOutOfBoundsException("place is below 0");
        }
        League asked = leagueAt(league);
        if (asked == null) {
            throw new IllegalArgumentException("league is out of range");
        }
        return asked.order.numberAt(place);
    }

    public int begin(int league, int least, int most) throws IllegalArgumentException, IllegalStateException {
        League starting = leagueAt(league);
        if (starting == null || !isWithin(least, 1, LIMIT) || !isWithin(most, least, LIMIT)) {
            throw new IllegalArgumentException("league, least or most is out of range");
        }
        if (starting.line.isBegun || starting.order.count == 0) {
            throw new IllegalStateException("it has begun, or none has entered");
        }
        return starting.line.form(starting.order, least, most);
    }

    public int stop(int league, int part, int minutes)
            throws IllegalArgumentException, IllegalStateException, IndexOutOfBoundsException {
        League marching = leagueAt(league);
        if (marching == null || !isWithin(minutes, 1, 20)) {
            throw new IllegalArgumentException("league or minutes is out of range");
        }
        if (!marching.line.goesOn()) {
            throw new IllegalStateException("no march goes on");
        }
        Part stopped = marching.line.partAt(part);
        if (stopped == null || stopped.isOut(marching.route.cells())) {
            throw new IndexOutOfBoundsException("no such part, or it is out");
        }
        stopped.stopMinutes += minutes;
        return stopped.stopMinutes;
    }

    public boolean rain(boolean isOn) {
        boolean had = isRaining;
        isRaining = isOn;
        return had;
    }

    public int ambulance(int corner) throws IndexOutOfBoundsException {
        if (!isCorner(corner)) {
            throw new IndexOutOfBoundsException("no such corner");
        }
        int crossed = 0;
        for (int i = 0; i < leagues.length; i++) {
            League league = leagues[i];
            if (league != null && league.line.goesOn()) {
                league.line.hold(corner);
                crossed += league.line.partsOn(league.route.cellOf(corner));
            }
        }
        return crossed;
    }

    public int march(int league, int minutes) throws IllegalArgumentException, IllegalStateException {
        League marching = leagueAt(league);
        if (marching == null || !isWithin(minutes, 1, 60)) {
            throw new IllegalArgumentException("league or minutes is out of range");
        }
        if (!marching.line.goesOn()) {
            throw new IllegalStateException("no march goes on");
        }
        for (int i = 0; i < minutes && marching.line.goesOn(); i++) {
            marching.line.passMinute(marching.route, town, isRaining);
        }
        return marching.line.minute;
    }

    public int part(int league, int part, int what)
            throws IllegalArgumentException, IllegalStateException, IndexOutOfBoundsException {
        League marching = leagueAt(league);
        if (marching == null || !isWithin(what, 0, 4)) {
            throw new IllegalArgumentException("league or what is out of range");
        }
        if (!marching.line.isBegun) {
            throw new IllegalStateException("the march has not begun");
        }
        Part told = marching.line.partAt(part);
        if (told == null) {
            throw new IndexOutOfBoundsException("no such part");
        }
        return told.tell(what, marching.route.cells());
    }

    public int clock(int society, int what) throws IndexOutOfBoundsException, IllegalArgumentException {
        Society marcher = societyAt(society);
        if (marcher == null) {
            throw new IndexOutOfBoundsException("no such society");
        }
        if (!isWithin(what, 0, 3)) {
            throw new IllegalArgumentException("what is out of range");
        }
        switch (what) {
            case 0:
                return marcher.beganAt;
            case 1:
                return marcher.outAt;
            case 2:
                return marcher.gaps;
            default:
                return marcher.time();
        }
    }

    // ---- notes, penalties, tables

    public int note(int judge, int society, int category, int note)
            throws IndexOutOfBoundsException, IllegalArgumentException, IllegalStateException {
        Society judged = societyAt(society);
        if (judged == null) {
            throw new IndexOutOfBoundsException("no such society");
        }
        if (!isJudge(judge) || !isCategory(category) || !isWithin(note, 50, 100)) {
            throw new IllegalArgumentException("judge, category or note is out of range");
        }
        if (!hasMarched(judged)) {
            throw new IllegalStateException("its march has not ended, or it was not in it");
        }
        int before = judged.score.noteBy(judge, category);
        judged.score.setNote(judge, category, note);
        return before == 0 ? NONE : before;
    }

    public int penalty(int society, int paragraph, int tenths)
            throws IndexOutOfBoundsException, IllegalArgumentException, IllegalStateException {
        Society punished = societyAt(society);
        if (punished == null) {
            throw new IndexOutOfBoundsException("no such society");
        }
        if (!isWithin(paragraph, 4, 9) || !isWithin(tenths, 1, 99)) {
            throw new IllegalArgumentException("paragraph or tenths is out of range");
        }
        if (!hasMarched(punished) || punished.score.isFull()) {
            throw new IllegalStateException("its march has not ended, it was not in it, or it has 20");
        }
        punished.score.punish(paragraph, tenths);
        return punished.score.penaltyCount;
    }

    public int appeal(int society, int number) throws IndexOutOfBoundsException, IllegalStateException {
        Society punished = societyAt(society);
        if (punished == null || !punished.score.hasPenalty(number)) {
            throw new IndexOutOfBoundsException("no such society or penalty");
        }
        if (punished.score.isAppealed(number)) {
            throw new IllegalStateException("it was appealed away");
        }
        punished.score.appealAway(number);
        return punished.score.points();
    }

    public int draw(int first) throws IllegalArgumentException {
        if (!isCategory(first)) {
            throw new IllegalArgumentException("first is out of range");
        }
        int before = firstCategory;
        firstCategory = first;
        return before;
    }

    public int endYear() throws IllegalStateException {
        if (!mayEndYear()) {
            throw new IllegalStateException("a march goes on, or none has ended");
        }
        for (int i = 0; i < leagues.length; i++) {
            if (leagues[i] != null && leagues[i].line.isEnded) {
                leagues[i].rank(societies, firstCategory);
                leagues[i].settle();
            }
        }
        cameUp = exchangeLeagues(leagueAt(0), leagueAt(1));
        forgetYear();
        return cameUp;
    }

    public int about(int society, int what) throws IndexOutOfBoundsException, IllegalArgumentException {
        Society asked = societyAt(society);
        if (asked == null) {
            throw new IndexOutOfBoundsException("no such society");
        }
        if (!isWithin(what, 0, 8)) {
            throw new IllegalArgumentException("what is out of range");
        }
        return asked.tell(what);
    }

    public int notes(int society, int category) throws IndexOutOfBoundsException, IllegalArgumentException {
        Society judged = societyAt(society);
        if (judged == null) {
            throw new IndexOutOfBoundsException("no such society");
        }
        if (!isCategory(category)) {
            throw new IllegalArgumentException("category is out of range");
        }
        return judged.score.together(category);
    }

    public int penaltyAt(int society, int number, int what)
            throws IndexOutOfBoundsException, IllegalArgumentException {
        Society punished = societyAt(society);
        if (punished == null || !punished.score.hasPenalty(number)) {
            throw new IndexOutOfBoundsException("no such society or penalty");
        }
        if (!isWithin(what, 0, 2)) {
            throw new IllegalArgumentException("what is out of range");
        }
        return punished.score.tellPenalty(number, what);
    }

    public boolean isDoubted(int judge, int society) throws IndexOutOfBoundsException, IllegalArgumentException {
        Society judged = societyAt(society);
        if (judged == null) {
            throw new IndexOutOfBoundsException("no such society");
        }
        if (!isJudge(judge)) {
            throw new IllegalArgumentException("judge is out of range");
        }
        return judged.score.castsDoubtOn(judge);
    }

    public int table(int league, int place) throws IndexOutOfBoundsException, IllegalArgumentException {
        if (place < 0) {
            throw new IndexOutOfBoundsException("place is below 0");
        }
        League asked = leagueAt(league);
        if (asked == null) {
            throw new IllegalArgumentException("league is out of range");
        }
        if (!asked.line.isEnded) {
            return NONE;
        }
        asked.rank(societies, firstCategory);
        return asked.ranking.numberAt(place);
    }

    // ---- what the calls share

    private static boolean isWithin(int value, int least, int most) {
        return value >= least && value <= most;
    }

    private static boolean isLeague(int league) {
        return isWithin(league, 0, LEAGUES - 1);
    }

    private static boolean isCorner(int corner) {
        return isWithin(corner, 0, CORNERS - 1);
    }

    private static boolean isJudge(int judge) {
        return isWithin(judge, 0, JUDGES - 1);
    }

    private static boolean isCategory(int category) {
        return isWithin(category, 0, CATEGORIES - 1);
    }

    private Society societyAt(int number) {
        return isWithin(number, 0, societies.length - 1) ? societies[number] : null;
    }

    private League leagueAt(int number) {
        return isWithin(number, 0, leagues.length - 1) ? leagues[number] : null;
    }

    private boolean isThemeRefused(int words, int day) {
        for (int i = 0; i < societies.length; i++) {
            Society other = societies[i];
            if (other != null && other.isThemeLike(words) && other.day <= day) {
                return true;
            }
        }
        return false;
    }

    private int takeThemesAway(int words) {
        int taken = 0;
        for (int i = 0; i < societies.length; i++) {
            Society other = societies[i];
            if (other != null && other.isThemeLike(words)) {
                other.words = 0;
                taken++;
            }
        }
        return taken;
    }

    private boolean hasMarched(Society society) {
        League league = leagueAt(society.league);
        return league != null && league.line.isEnded && society.isEntered;
    }

    private boolean mayEndYear() {
        boolean hasEnded = false;
        for (int i = 0; i < leagues.length; i++) {
            League league = leagues[i];
            if (league != null && league.line.goesOn()) {
                return false;
            }
            if (league != null && league.line.isEnded) {
                hasEnded = true;
            }
        }
        return hasEnded;
    }

    private static int exchangeLeagues(League upper, League lower) {
        if (upper == null || lower == null || !upper.line.isEnded || !lower.line.isEnded) {
            return NONE;
        }
        Society down = upper.ranking.at(upper.ranking.count - 1);
        Society up = lower.ranking.at(0);
        if (down == null || up == null) {
            return NONE;
        }
        down.league = lower.number;
        up.league = upper.number;
        return up.number;
    }

    private void forgetYear() {
        for (int i = 0; i < societies.length; i++) {
            if (societies[i] != null) {
                societies[i].forgetYear();
            }
        }
        for (int i = 0; i < leagues.length; i++) {
            if (leagues[i] != null) {
                leagues[i].order.clear();
                leagues[i].line.clear();
            }
        }
    }

    /** A society with all that it has in a year, and what stays with it. */
    private static final class Society {
        final int number;
        final int members;
        final Songs songs = new Songs();
        final Score score = new Score();
        final Wagon[] wagons = new Wagon[FLOATS];
        int league;
        int money;
        int feuds;
        int words;
        int day;
        int wagonCount;
        int lot;
        int beganAt = NONE;
        int outAt = NONE;
        int gaps;
        boolean isEntered;

        Society(int number, int league, int members) {
            this.number = number;
            this.league = league;
            this.members = members;
        }

        boolean hasFeudWith(Society other) {
            return ((feuds >> other.number) & 1) == 1;
        }

        void setFeud(Society other, boolean isOn) {
            int bit = 1 << other.number;
            feuds = isOn ? feuds | bit : feuds & ~bit;
        }

        boolean isThemeLike(int others) {
            return Integer.bitCount(words & others) >= COMMON_WORDS;
        }

        Wagon wagonAt(int place) {
            return isWithin(place, 0, wagonCount - 1) && place < wagons.length ? wagons[place] : null;
        }

        int addWagon(Wagon wagon) {
            int place = wagonCount;
            if (!isWithin(place, 0, wagons.length - 1)) {
                return NONE;
            }
            wagons[place] = wagon;
            wagonCount = place + 1;
            return place;
        }

        int wingLength() {
            return Math.min(members / 10 + 1, 9);
        }

        int time() {
            return outAt == NONE ? NONE : outAt - beganAt + 1;
        }

        int tell(int what) {
            switch (what) {
                case 0:
                    return league;
                case 1:
                    return members;
                case 2:
                    return words;
                case 3:
                    return songs.chosen();
                case 4:
                    return wagonCount;
                case 5:
                    return score.points();
                case 6:
                    return money;
                case 7:
                    return isEntered ? 1 : 0;
                default:
                    return score.penaltyCount;
            }
        }

        /** Comes ahead in a table; false also if all is the same, so that the numbers decide then. */
        boolean isBetterThan(Society other, int firstCategory) {
            int points = score.points();
            int others = other.score.points();
            for (int i = 0; i < CATEGORIES && points == others; i++) {
                int category = (firstCategory + i) % CATEGORIES;
                points = score.together(category);
                others = other.score.together(category);
            }
            return points > others;
        }

        void punishForMarch(int least, int most) {
            int time = time();
            punishIfAny(1, 2 * (least - time));
            punishIfAny(2, 2 * (time - most));
            punishIfAny(3, gaps);
        }

        private void punishIfAny(int paragraph, int tenths) {
            if (tenths > 0) {
                score.punish(paragraph, tenths);
            }
        }

        void forgetYear() {
            songs.clear();
            score.clear();
            words = 0;
            day = 0;
            wagonCount = 0;
            lot = 0;
            beganAt = NONE;
            outAt = NONE;
            gaps = 0;
            isEntered = false;
        }
    }

    /** The songs of a society in a year. */
    private static final class Songs {
        private final int[] votes = new int[SONGS];
        private final boolean[] struck = new boolean[SONGS];
        private int count;
        private boolean isRoundEnded;

        boolean has(int song) {
            return isWithin(song, 0, count - 1) && song < votes.length && song < struck.length;
        }

        boolean mayGrow() {
            return count < SONGS && !isRoundEnded;
        }

        int add() {
            int song = count;
            count++;
            if (has(song)) {
                votes[song] = 0;
                struck[song] = false;
            }
            return song;
        }

        boolean isStruck(int song) {
            return has(song) && struck[song];
        }

        int addVotes(int song, int more) {
            if (!has(song)) {
                return 0;
            }
            votes[song] += more;
            return votes[song];
        }

        int left() {
            int left = 0;
            for (int i = 0; i < count; i++) {
                left += isStruck(i) ? 0 : 1;
            }
            return left;
        }

        int chosen() {
            if (left() != 1) {
                return NONE;
            }
            int chosen = NONE;
            for (int i = 0; i < count; i++) {
                chosen = isStruck(i) ? chosen : i;
            }
            return chosen;
        }

        int strikeWeakest() {
            int weakest = NONE;
            for (int i = 0; i < count; i++) {
                if (has(i) && !struck[i] && (!has(weakest) || votes[i] <= votes[weakest])) {
                    weakest = i;
                }
            }
            if (has(weakest)) {
                struck[weakest] = true;
            }
            for (int i = 0; i < votes.length; i++) {
                votes[i] = 0;
            }
            isRoundEnded = true;
            return weakest;
        }

        void clear() {
            count = 0;
            isRoundEnded = false;
        }
    }

    /** The notes and the penalties of a society in a year. */
    private static final class Score {
        // 0 where a judge gave none: a note is 50 or more
        private final int[] given = new int[JUDGES * CATEGORIES];
        private final int[] paragraphs = new int[PENALTIES];
        private final int[] tenths = new int[PENALTIES];
        private final boolean[] appealed = new boolean[PENALTIES];
        private int penaltyCount;

        int noteBy(int judge, int category) {
            int place = judge * CATEGORIES + category;
            return place >= 0 && place < given.length ? given[place] : 0;
        }

        void setNote(int judge, int category, int note) {
            int place = judge * CATEGORIES + category;
            if (place >= 0 && place < given.length) {
                given[place] = note;
            }
        }

        int together(int category) {
            int sum = 0;
            int count = 0;
            int lowest = 0;
            int highest = 0;
            for (int judge = 0; judge < JUDGES; judge++) {
                int note = noteBy(judge, category);
                if (note > 0) {
                    lowest = count == 0 ? note : Math.min(lowest, note);
                    highest = Math.max(highest, note);
                    sum += note;
                    count++;
                }
            }
            if (count >= 3) {
                sum -= lowest;
            }
            if (count >= 4) {
                sum -= highest;
            }
            return sum;
        }

        boolean castsDoubtOn(int judge) {
            int doubtful = 0;
            for (int category = 0; category < CATEGORIES; category++) {
                doubtful += isDoubtful(judge, category) ? 1 : 0;
            }
            return doubtful >= 3;
        }

        private boolean isDoubtful(int judge, int category) {
            int sum = 0;
            int count = 0;
            for (int other = 0; other < JUDGES; other++) {
                int note = noteBy(other, category);
                if (other != judge && note > 0) {
                    sum += note;
                    count++;
                }
            }
            return count > 0 && noteBy(judge, category) >= sum / count + 15;
        }

        boolean isFull() {
            return penaltyCount >= PENALTIES;
        }

        boolean hasPenalty(int place) {
            return isWithin(place, 0, penaltyCount - 1) && place < PENALTIES;
        }

        void punish(int paragraph, int much) {
            int place = penaltyCount;
            if (!isWithin(place, 0, PENALTIES - 1)) {
                return;
            }
            paragraphs[place] = paragraph;
            tenths[place] = much;
            appealed[place] = false;
            penaltyCount = place + 1;
        }

        boolean isAppealed(int place) {
            return hasPenalty(place) && appealed[place];
        }

        void appealAway(int place) {
            if (hasPenalty(place)) {
                appealed[place] = true;
            }
        }

        int tellPenalty(int place, int what) {
            if (!hasPenalty(place)) {
                return NONE;
            }
            switch (what) {
                case 0:
                    return paragraphs[place];
                case 1:
                    return tenths[place];
                default:
                    return appealed[place] ? 1 : 0;
            }
        }

        int points() {
            int points = 0;
            for (int category = 0; category < CATEGORIES; category++) {
                points += together(category);
            }
            for (int i = 0; i < penaltyCount; i++) {
                points -= hasPenalty(i) && !appealed[i] ? tenths[i] : 0;
            }
            return points;
        }

        void clear() {
            for (int i = 0; i < given.length; i++) {
                given[i] = 0;
            }
            penaltyCount = 0;
        }
    }

    /** A float; Wagon, as float is a word of Java. */
    private static final class Wagon {
        int width;
        int height;
        int weight;
        int length;

        Wagon(int width, int height, int weight, int length) {
            this.width = width;
            this.height = height;
            this.weight = weight;
            this.length = length;
        }

        int sum() {
            return width + height + weight + length;
        }

        int shrink(int toWidth, int toHeight, int toWeight, int toLength) {
            int before = sum();
            width = toWidth;
            height = toHeight;
            weight = toWeight;
            length = toLength;
            return before - sum();
        }
    }

    /** A street between two corners. */
    private static final class Street {
        final int one;
        final int other;
        final int length;
        final int width;
        final int wires;
        final int load;

        Street(int one, int other, int length, int width, int wires, int load) {
            this.one = one;
            this.other = other;
            this.length = length;
            this.width = width;
            this.wires = wires;
            this.load = load;
        }

        boolean joins(int here, int there) {
            return (one == here && other == there) || (one == there && other == here);
        }

        boolean lets(Wagon wagon) {
            return wagon.width <= width - 2 && wagon.height <= wires - 1 && wagon.weight <= load;
        }
    }

    /** All streets, and the corners with a jury. */
    private static final class Town {
        private final Street[] streets = new Street[STREETS];
        private final boolean[] juries = new boolean[CORNERS];
        private int count;

        boolean isFull() {
            return count >= streets.length;
        }

        Street between(int here, int there) {
            for (int i = 0; i < streets.length; i++) {
                Street street = streets[i];
                if (street != null && street.joins(here, there)) {
                    return street;
                }
            }
            return null;
        }

        int lay(Street street) {
            if (isWithin(count, 0, streets.length - 1)) {
                streets[count] = street;
                count++;
            }
            return count;
        }

        boolean hasJury(int corner) {
            return isWithin(corner, 0, juries.length - 1) && juries[corner];
        }

        boolean setJury(int corner, boolean isThere) {
            boolean had = hasJury(corner);
            if (isWithin(corner, 0, juries.length - 1)) {
                juries[corner] = isThere;
            }
            return had;
        }
    }

    /** The row of corners that a league marches along. */
    private static final class Route {
        private final int[] corners = new int[ROUTE_CORNERS];
        // the cells ahead of a corner, so the street behind it begins with the cell of this number
        private final int[] starts = new int[ROUTE_CORNERS];
        private final Street[] streetsTo = new Street[ROUTE_CORNERS];
        private int count;

        void startAt(int corner) {
            corners[0] = corner;
            count = 1;
        }

        int cornerAt(int place) {
            return isWithin(place, 0, count - 1) && place < corners.length ? corners[place] : NONE;
        }

        Street streetTo(int place) {
            return isWithin(place, 1, count - 1) && place < streetsTo.length ? streetsTo[place] : null;
        }

        int lastCorner() {
            return cornerAt(count - 1);
        }

        private int placeOf(int corner) {
            for (int i = 0; i < count; i++) {
                if (cornerAt(i) == corner) {
                    return i;
                }
            }
            return NONE;
        }

        boolean mayTake(int corner) {
            return count > 0 && count < ROUTE_CORNERS && placeOf(corner) == NONE;
        }

        int lead(int corner, Street street) {
            int place = count;
            if (isWithin(place, 1, ROUTE_CORNERS - 1)) {
                corners[place] = corner;
                streetsTo[place] = street;
                starts[place] = starts[place - 1] + street.length;
                count = place + 1;
            }
            return cells();
        }

        int cells() {
            return startAtPlace(count - 1);
        }

        private int startAtPlace(int place) {
            return isWithin(place, 0, starts.length - 1) ? starts[place] : 0;
        }

        int cellAt(int place) {
            return place == count - 1 ? startAtPlace(place) - 1 : startAtPlace(place);
        }

        int cellOf(int corner) {
            int place = placeOf(corner);
            return place == NONE ? NONE : cellAt(place);
        }

        boolean lets(Wagon wagon) {
            for (int i = 1; i < count; i++) {
                Street street = streetTo(i);
                Street before = streetTo(i - 1);
                if (street == null || !street.lets(wagon)
                        || (before != null && wagon.length > before.width + street.width)) {
                    return false;
                }
            }
            return count > 1;
        }

        boolean letsAll(Society society) {
            for (int i = 0; i < society.wagonCount; i++) {
                Wagon wagon = society.wagonAt(i);
                if (wagon != null && !lets(wagon)) {
                    return false;
                }
            }
            return count > 1;
        }
    }

    /** Societies, one behind the other. */
    private static final class Row {
        private final Society[] places = new Society[SOCIETIES];
        private int count;

        Society at(int place) {
            return isWithin(place, 0, count - 1) && place < places.length ? places[place] : null;
        }

        int numberAt(int place) {
            Society society = at(place);
            return society == null ? NONE : society.number;
        }

        int placeOf(Society society) {
            for (int i = 0; i < count; i++) {
                if (at(i) == society) {
                    return i;
                }
            }
            return NONE;
        }

        void insert(int place, Society society) {
            if (!isWithin(count, 0, places.length - 1) || !isWithin(place, 0, count)) {
                return;
            }
            for (int i = count; i > place; i--) {
                places[i] = places[i - 1];
            }
            places[place] = society;
            count++;
        }

        void clear() {
            count = 0;
        }

        private void swap(int one, int other) {
            Society first = at(one);
            Society second = at(other);
            if (first != null && second != null) {
                places[one] = second;
                places[other] = first;
            }
        }

        private boolean isFeudAt(int place) {
            Society first = at(place);
            Society second = at(place + 1);
            return first != null && second != null && first.hasFeudWith(second);
        }

        private int firstFeud() {
            for (int i = 0; i + 1 < count; i++) {
                if (isFeudAt(i)) {
                    return i;
                }
            }
            return NONE;
        }

        void partFeuds() {
            for (int times = 0; times < FEUD_TIMES; times++) {
                int place = firstFeud();
                if (place == NONE) {
                    return;
                }
                if (place + 2 < count) {
                    swap(place + 1, place + 2);
                } else {
                    swap(place, place - 1);
                }
            }
        }

        boolean changePlaces(Society one, Society other) {
            int first = placeOf(one);
            int second = placeOf(other);
            swap(first, second);
            for (int i = 0; i + 1 < count; i++) {
                int before = placeBefore(i, first, second);
                int nextBefore = placeBefore(i + 1, first, second);
                if (isFeudAt(i) && Math.abs(before - nextBefore) != 1) {
                    swap(first, second);
                    return false;
                }
            }
            return true;
        }

        private static int placeBefore(int place, int first, int second) {
            if (place == first) {
                return second;
            }
            return place == second ? first : place;
        }
    }

    /** A league with its route, order, march and table. */
    private static final class League {
        final int number;
        final Route route = new Route();
        final Row order = new Row();
        final Row ranking = new Row();
        final Line line = new Line();
        // of the last year that ended with a march of this league
        private int champion = NONE;

        League(int number) {
            this.number = number;
        }

        boolean isRouteFixed() {
            return line.isBegun || order.count > 0;
        }

        private boolean hasEntrant(Society society) {
            return society != null && society.league == number && society.isEntered;
        }

        void findOrder(Society[] all, int cameUp) {
            order.clear();
            for (int i = 0; i < all.length; i++) {
                Society entrant = all[i];
                if (hasEntrant(entrant)) {
                    order.insert(orderPlace(entrant, cameUp), entrant);
                }
            }
            order.partFeuds();
        }

        private int orderPlace(Society entrant, int cameUp) {
            int place = order.count;
            for (int i = order.count - 1; i >= 0; i--) {
                Society other = order.at(i);
                if (other != null && orderKey(other, cameUp) > orderKey(entrant, cameUp)) {
                    place = i;
                }
            }
            return place;
        }

        private int orderKey(Society entrant, int cameUp) {
            if (entrant.number == cameUp) {
                return -1;
            }
            return entrant.number == champion ? LOTS + 1 : entrant.lot;
        }

        void rank(Society[] all, int firstCategory) {
            ranking.clear();
            for (int i = 0; i < all.length; i++) {
                Society marcher = all[i];
                if (hasEntrant(marcher)) {
                    ranking.insert(rankPlace(marcher, firstCategory), marcher);
                }
            }
        }

        private int rankPlace(Society marcher, int firstCategory) {
            for (int i = 0; i < ranking.count; i++) {
                Society other = ranking.at(i);
                if (other != null && marcher.isBetterThan(other, firstCategory)) {
                    return i;
                }
            }
            return ranking.count;
        }

        /** Pays the grants by the ranking, and keeps who was first. */
        void settle() {
            for (int i = 0; i < ranking.count; i++) {
                Society paid = ranking.at(i);
                if (paid != null) {
                    paid.money += GRANT * (ranking.count - i);
                }
            }
            champion = ranking.numberAt(0);
        }
    }

    /** The line of a march, minute by minute. */
    private static final class Line {
        private final Part[] parts = new Part[PARTS];
        private final int[] heldMinutes = new int[CORNERS];
        private int count;
        private int minute;
        private int least = 1;
        private int most = LIMIT;
        private boolean isBegun;
        private boolean isEnded;

        boolean goesOn() {
            return isBegun && !isEnded;
        }

        Part partAt(int place) {
            return isWithin(place, 0, count - 1) && place < parts.length ? parts[place] : null;
        }

        void clear() {
            count = 0;
            minute = 0;
            isBegun = false;
            isEnded = false;
            for (int i = 0; i < heldMinutes.length; i++) {
                heldMinutes[i] = 0;
            }
        }

        int form(Row order, int atLeast, int atMost) {
            clear();
            least = atLeast;
            most = atMost;
            isBegun = true;
            for (int i = 0; i < order.count; i++) {
                Society society = order.at(i);
                if (society != null) {
                    lineUp(society);
                }
            }
            return count;
        }

        private void lineUp(Society society) {
            for (int i = 0; i < society.wagonCount; i++) {
                Wagon wagon = society.wagonAt(i);
                if (wagon != null) {
                    append(society, i, wagon.length);
                    append(society, NONE, society.wingLength());
                }
            }
            if (society.wagonCount == 0) {
                append(society, NONE, society.wingLength());
            }
        }

        private void append(Society society, int wagon, int length) {
            if (!isWithin(count, 0, parts.length - 1)) {
                return;
            }
            // the parts of an earlier year serve again
            Part part = parts[count] == null ? new Part() : parts[count];
            part.set(society, wagon, length);
            parts[count] = part;
            count++;
        }

        void hold(int corner) {
            if (isWithin(corner, 0, heldMinutes.length - 1)) {
                heldMinutes[corner] = 2;
            }
        }

        private boolean isHeld(int corner) {
            return isWithin(corner, 0, heldMinutes.length - 1) && heldMinutes[corner] > 0;
        }

        int partsOn(int cell) {
            int on = 0;
            for (int i = 0; i < count; i++) {
                Part part = partAt(i);
                on += part != null && cell >= 0 && isWithin(cell, part.tail(), part.front) ? 1 : 0;
            }
            return on;
        }

        void passMinute(Route route, Town town, boolean isRaining) {
            minute++;
            int cells = route.cells();
            for (int i = 0; i < count; i++) {
                advance(i, route, town, isRaining);
            }
            for (int i = 0; i < count; i++) {
                countGap(i, cells);
                readClock(i, cells);
            }
            passHolds();
            Part last = partAt(count - 1);
            if (last == null || last.isOut(cells)) {
                end();
            }
        }

        private void advance(int place, Route route, Town town, boolean isRaining) {
            Part part = partAt(place);
            int cells = route.cells();
            if (part == null || part.isOut(cells) || !part.isReady()) {
                return;
            }
            int goal = part.front + part.speed(isRaining);
            Part ahead = partAt(place - 1);
            if (ahead != null && !ahead.isOut(cells)) {
                goal = Math.min(goal, ahead.tail() - 2);
            }
            goal = Math.min(goal, cellBeforeHeld(part.front, route));
            int juryCell = nextJuryCell(part.front, route, town);
            if (juryCell <= goal) {
                goal = juryCell;
                part.isWaiting = true;
            }
            part.front = Math.max(part.front, goal);
        }

        private int cellBeforeHeld(int front, Route route) {
            int cell = Integer.MAX_VALUE;
            for (int i = 0; i < route.count; i++) {
                if (isHeld(route.cornerAt(i)) && front < route.cellAt(i)) {
                    cell = Math.min(cell, route.cellAt(i) - 1);
                }
            }
            return cell;
        }

        private static int nextJuryCell(int front, Route route, Town town) {
            int cell = Integer.MAX_VALUE;
            for (int i = 0; i < route.count; i++) {
                if (town.hasJury(route.cornerAt(i)) && front < route.cellAt(i)) {
                    cell = Math.min(cell, route.cellAt(i));
                }
            }
            return cell;
        }

        private void countGap(int place, int cells) {
            Part ahead = partAt(place);
            Part behind = partAt(place + 1);
            if (ahead == null || behind == null || ahead.owner == null || ahead.owner != behind.owner) {
                return;
            }
            boolean areOnRoute = isWithin(ahead.front, 0, cells - 1) && isWithin(behind.front, 0, cells - 1);
            if (areOnRoute && ahead.tail() - behind.front - 1 > 6) {
                ahead.owner.gaps++;
            }
        }

        private boolean isOwner(int place, Society society) {
            Part part = partAt(place);
            return part != null && part.owner == society;
        }

        private void readClock(int place, int cells) {
            Part part = partAt(place);
            Society owner = part == null ? null : part.owner;
            if (owner == null) {
                return;
            }
            if (owner.beganAt == NONE && part.front >= 0 && !isOwner(place - 1, owner)) {
                owner.beganAt = minute;
            }
            if (owner.outAt == NONE && part.isOut(cells) && !isOwner(place + 1, owner)) {
                owner.outAt = minute;
            }
        }

        private void passHolds() {
            for (int i = 0; i < count; i++) {
                Part part = partAt(i);
                if (part != null) {
                    part.stopMinutes = Math.max(0, part.stopMinutes - 1);
                }
            }
            for (int i = 0; i < heldMinutes.length; i++) {
                heldMinutes[i] = Math.max(0, heldMinutes[i] - 1);
            }
        }

        private void end() {
            isEnded = true;
            for (int i = 0; i < count; i++) {
                Part part = partAt(i);
                if (part != null && part.owner != null && !isOwner(i - 1, part.owner)) {
                    part.owner.punishForMarch(least, most);
                }
            }
        }
    }

    /** A float or a wing in the line. */
    private static final class Part {
        private Society owner;
        private int wagon;
        private int front;
        private int length;
        private int stopMinutes;
        private boolean isWaiting;

        void set(Society society, int ofWagon, int cells) {
            owner = society;
            wagon = ofWagon;
            length = cells;
            front = -1;
            stopMinutes = 0;
            isWaiting = false;
        }

        int tail() {
            return front - (length - 1);
        }

        boolean isOut(int cells) {
            return tail() >= cells;
        }

        int speed(boolean isRaining) {
            return wagon == NONE && !isRaining ? 3 : 2;
        }

        /** Whether it may move now; to wait for the jury is over with this minute, stopped or not. */
        boolean isReady() {
            boolean isReady = !isWaiting && stopMinutes == 0;
            isWaiting = false;
            return isReady;
        }

        int tell(int what, int cells) {
            switch (what) {
                case 0:
                    return owner == null ? NONE : owner.number;
                case 1:
                    return wagon;
                case 2:
                    return front;
                case 3:
                    return length;
                default:
                    return isOut(cells) ? 1 : 0;
            }
        }
    }
}
