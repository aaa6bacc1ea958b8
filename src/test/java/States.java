/** Objects in states that tests ask about; each time a new one. */
final class States extends Check {
    /** Three of HOUSE 0 (0 1 2), three of HOUSE 1 (3 4 5), five MATTERS. */
    static final String SIX = "sp5k40;gf3a1;gf9s0a1;gs9;gh1a1;gh1s1;gh1f8;mn2;mn3;mn1w9;mn60;mn0";

    private States() {
    }

    /** LAWS, one that holds, a faulty TAPE, SPITE, a refusal. */
    static GloveHouses withoutPeace() {
        GloveHouses x = new GloveHouses();
        feed(x, "y:1");
        x.text(1);
        feed(x, "y:d+2");
        x.law(x.text(1));
        x.spite(7);
        feed(x, "g;gh1;q");
        x.give(1);
        return x;
    }

    static GloveHouses fresh() {
        return with(SIX);
    }

    /** Amid its DAYS: some have met, some is SIGNED and torn up, there is an IMAGE, some is SEEN. */
    static GloveHouses busy() {
        GloveHouses x = with(SIX, "y:f/3-w/4+1", "y:5-w");
        x.spite(3);
        x.meets(0, 3);
        x.seen(0, 3, 2, true);
        x.seen(4, 1, 3, false);
        x.days(2);
        x.meets(1, 4);
        x.image();
        x.tear(0);
        x.meets(2, 3);
        x.days(1);
        x.loosen(0);
        x.meets(0, 5);
        x.stuff(3, 7);
        feed(x, "y:7;y");
        x.meets(0, 5);
        return x;
    }

    /** No COINS, no PRIDE, one that is as FREE as can be. */
    static GloveHouses poor() {
        GloveHouses x = with("sp1k5;gf9;g;g;gh1;gh1;gh1;mn0;mn60", "y:1");
        x.swallow();
        x.meets(0, 3);
        return x;
    }

    /** All of the latest 40 ACTS are UNDONE. */
    static GloveHouses undone() {
        GloveHouses x = with(SIX, "y:2");
        for (int i = 0; i < 13; i++) {
            x.meets(i % 3, 3 + i % 2);
            x.days(4);
        }
        for (int i = 0; i < 40; i++) x.undo();
        return x;
    }

    /** The last DAY; LAWS, SEEN, the TAPE, COINS, the LOG and ACTS are full, all have met. */
    static GloveHouses full() {
        GloveHouses x = with("sp9k99;gf9s9;gf9;gf9;gh1f9;gh1f9;gh1f9;mn0;mn0;mn0;mn0;mn0", "y:1", "y:2", "y:3", "y:4");
        for (int i = 0; i < 10; i++) x.seen(i % 3, 3 + i % 2, 3, i % 2 == 0);
        pass(x, 990);
        meetDaily(x, 0, 3, 9);
        x.image();
        x.give(9);
        x.meets(0, 3);
        x.meets(1, 4);
        x.meets(2, 5);
        x.give(3);
        for (int i = 0; i < 12; i++) x.feed(-1, 0x3b3b3b3b, -1, -1, -1);
        return x;
    }
}
