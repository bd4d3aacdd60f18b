/** Objects in known states, each made by well under 300 calls, so that some 200 more may look at them. */
enum Scene {
    /** A new object. */
    EMPTY {
        @Override
        NineNoons make() {
            return new NineNoons();
        }
    },

    /** Four villages, some of everything, but nothing on the tape and nothing at sheet 3. */
    TAPELESS {
        @Override
        NineNoons make() {
            NineNoons x = Due.of("h30+5@9,p7-2@40");
            x.seed(11);
            x.days(2);
            x.set(0, 31);
            x.image();
            Due.valley(x, "p5+4@3,s12-7@12,h40+5@20,c30+2@31");
            x.seed(77);
            x.days(1);
            x.set(1, 50);
            x.move(2, 7);
            x.tune(0, 12);
            x.sheet(0, 0, 8);
            x.film(0, 8, 0, 0, 0);
            x.sheet(1, 1, 5);
            x.film(1, 5, 1, 1, 0);
            x.sheet(2, 0, 6);
            x.film(3, 6, 2, 0, 0);
            return x;
        }
    },

    /** As TAPELESS, with a valley on the tape. */
    BUSY {
        @Override
        NineNoons make() {
            NineNoons x = TAPELESS.make();
            Due.type(x, "f59-9@40,p0+0");
            return x;
        }
    },

    /** Six villages, eight days to be undone, 60 letters on the tape, a sheet of 24 items and one of none. */
    FULL {
        @Override
        NineNoons make() {
            NineNoons x = Due.of("s1+9@1,c3-9@2");
            x.storm(9);
            x.image();
            Due.valley(x, "p5+4@3,s12-7@12,h40+5@20,f58-6@9,c30+2@31,p21-1");
            x.storm(9);
            x.sheet(0, 3, 24);
            x.film(2, 24, 0, 3, 0);
            x.sheet(1, 3, 5);
            x.film(4, 4, 1, 3, 1);
            x.sheet(2, 2, 0);
            x.sheet(3, 1, 3);
            String valley = "p1+1,s2-2@2,h3+3@3,f4-4@40,c5+5@5,p59-9";
            Due.type(x, valley + " ".repeat(60 - valley.length()));
            return x;
        }
    },

    /** The last day there is. */
    LAST {
        @Override
        NineNoons make() {
            NineNoons x = Due.of("p0+1@4,f30+9,s20-3");
            x.image();
            for (int i = 0; i < 249; i++) {
                x.days(40);
            }
            x.storm(39);
            return x;
        }
    };

    private final String[] told = new String[Witness.PARTS];

    abstract NineNoons make();

    /** What a witness tells of it. */
    String told(int part) {
        if (told[part] == null) {
            told[part] = Witness.told(make(), part);
        }
        return told[part];
    }
}
