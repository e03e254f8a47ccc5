/** Cities that the tests begin with. Each takes less than 100 calls, as an object is used for 512 at most. */
final class City {
    private City() {
    }

    static Floatparade empty() {
        return new Floatparade();
    }

    /** Ten societies, five of each league, with 1 to 10 members. */
    static Floatparade ofTen() {
        return ofSocieties(10);
    }

    static Floatparade ofSocieties(int count) {
        Floatparade x = new Floatparade();
        for (int i = 0; i < count; i++) {
            x.society(i % 2, 1 + i);
        }
        return x;
    }

    /** A wide street with two cells is the route of both leagues; the societies as told, with 1 member each. */
    static Floatparade ofLeagues(int... leagues) {
        Floatparade x = ofStreets(2);
        for (int league : leagues) {
            x.society(league, 1);
        }
        return x;
    }

    /** Wide streets from the corner 0 on, with these lengths: the route of the league 0, and back that of the 1. */
    static Floatparade ofStreets(int... lengths) {
        Floatparade x = new Floatparade();
        for (int i = 0; i < lengths.length; i++) {
            x.street(i, i + 1, lengths[i], 30, 30, 99);
        }
        x.route(0, 0);
        x.route(1, lengths.length);
        for (int i = 1; i <= lengths.length; i++) {
            x.goOn(0, i);
            x.goOn(1, lengths.length - i);
        }
        return x;
    }

    /** Founds a society of the league 0 with floats of these lengths, and lets it enter with the lot 0. */
    static int enters(Floatparade x, int members, int... floats) {
        int number = x.society(0, members);
        for (int length : floats) {
            x.build(number, 1, 1, 1, length);
        }
        x.enter(number, 0);
        return number;
    }

    /** Lets societies enter with the lot 0, and their march begin and end. */
    static void run(Floatparade x, int league, int... societies) {
        for (int society : societies) {
            x.enter(society, 0);
        }
        x.begin(league, 1, 200);
        toTheEnd(x, league);
    }

    /** Lets minutes go by until the march ends: it has a table then. */
    static void toTheEnd(Floatparade x, int league) {
        for (int i = 0; i < 5 && x.table(league, 0) == Floatparade.NONE; i++) {
            x.march(league, 60);
        }
    }

    /** A march of one society over one cell that takes so many minutes: 3 and more by a jury and by stops. */
    static Floatparade afterMarchOf(int minutes, int least, int most) {
        Floatparade x = ofStreets(1);
        enters(x, minutes == 2 ? 20 : 1);
        x.begin(0, least, most);
        x.jury(0, minutes > 2);
        x.march(0, 1);
        int rest = minutes - 2;
        while (rest > 0) {
            int stopped = Math.min(rest, 20);
            x.stop(0, 0, stopped);
            x.march(0, stopped);
            rest -= stopped;
        }
        if (minutes > 1) {
            x.march(0, 1);
        }
        return x;
    }

    /** Something of each kind, ahead of the marches; 3 of the league 0 and 4 of the league 1 are left to enter. */
    static Floatparade preparing() {
        Floatparade x = new Floatparade();
        x.society(0, 25);
        x.society(0, 9);
        x.society(1, 100);
        x.society(0, 1);
        x.society(1, 40);
        x.feud(0, 3, true);
        x.theme(0, 0b111, 5);
        x.theme(2, 0b111000, 50);
        sing(x);
        x.street(0, 1, 4, 10, 10, 50);
        x.street(1, 2, 3, 6, 8, 30);
        x.street(2, 3, 5, 12, 12, 60);
        x.route(0, 0);
        x.goOn(0, 1);
        x.goOn(0, 2);
        x.goOn(0, 3);
        x.route(1, 3);
        x.goOn(1, 2);
        x.goOn(1, 1);
        x.jury(1, true);
        x.build(0, 4, 5, 20, 3);
        x.build(1, 2, 2, 2, 2);
        x.build(1, 3, 3, 3, 4);
        x.build(2, 1, 1, 1, 1);
        x.draw(2);
        x.rain(true);
        return x;
    }

    /** Three songs of 0 with votes, two of 1 left of three, and one of 2. */
    private static void sing(Floatparade x) {
        for (int i = 0; i < 3; i++) {
            x.song(0);
            x.song(1);
        }
        x.song(2);
        x.vote(0, 0, 9);
        x.vote(0, 1, 4);
        x.vote(0, 2, 6);
        x.round(1);
        x.vote(1, 0, 3);
        x.vote(1, 1, 2);
    }

    /** As preparing, with 0, 1 and 2 entered and 0 and 1 out of the order that was found. */
    static Floatparade entered() {
        Floatparade x = preparing();
        x.enter(0, 30);
        x.enter(1, 20);
        x.enter(2, 10);
        x.change(0, 1);
        return x;
    }

    /** As entered, with both marches on their way, a part that is stopped and a corner that is held. */
    static Floatparade marching() {
        Floatparade x = entered();
        x.begin(0, 5, 8);
        x.begin(1, 1, 200);
        x.march(0, 3);
        x.march(1, 2);
        x.stop(0, 1, 2);
        x.ambulance(2);
        return x;
    }

    /** As marching, with both marches at their end, some notes, penalties, and one of them appealed away. */
    static Floatparade judged() {
        Floatparade x = marching();
        toTheEnd(x, 0);
        toTheEnd(x, 1);
        for (int judge = 0; judge < 4; judge++) {
            x.note(judge, 0, 0, 70 + judge);
            x.note(judge, 1, 4, 90 - 10 * judge);
        }
        x.note(3, 2, 2, 100);
        x.penalty(1, 4, 7);
        x.penalty(1, 9, 99);
        x.appeal(1, x.about(1, 8) - 2);
        return x;
    }
}
