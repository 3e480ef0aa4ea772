/** Refusals, and what is only asked, change nothing: call by call. */
final class EdgesOfRefusals extends Edges {
    private static final String REFUSED = "They change nothing, but where it is told.";
    private static final String ASKED = "What is asked changes nothing, but where it is told.";

    private EdgesOfRefusals() {
    }

    static void all() {
        refusedTown();
        refusedWalks();
        refusedHost();
        askedTown();
        askedWalks();
    }

    private static void refusedTown() {
        edge(TERMS, REFUSED, "refused, by dawn, door, brick", () -> changeNothing(x -> {
            refused("dawn", BAD, outside(0, 999), x::dawn);
            refused("door", BAD, outside(0, 7), v -> x.door(v, 0));
            refused("door", BAD, outside(0, 7), v -> x.door(0, v));
            Due.is("door", x.door(2, 2), BAD);
            refused("brick", WHO, outside(0, 4), v -> x.brick(v, 1));
            refused("brick", VALUE, outside(0, 1), v -> x.brick(0, v));
        }));
        edge(TERMS, REFUSED, "refused, by door, as there are twelve", () -> {
            DoorOfLuck x = town(0, 1, 1, 2, 2, 3, 3, 4, 4, 5, 5, 6, 6, 7, 7, 0, 0, 2, 2, 4, 4, 6, 6, 1);
            Due.is("a thirteenth", x.door(3, 5), FULL);
            Due.is("twelve", x.count(1), 12);
            Due.is("the last one", x.hung(11, 0) * 10 + x.hung(11, 1), 61);
            Due.is("the first one", x.hung(0, 0) * 10 + x.hung(0, 1), 1);
        });
        edge(TERMS, REFUSED, "refused, by feed, force, text", () -> changeNothing(x -> {
            refused("feed", BAD, outside(1, 5), v -> x.feed(v, ' ', ' ', ' ', ' ', ' '));
            refused("feed", BAD, outside(0, 255), v -> x.feed(1, ' ', v, ' ', ' ', ' '));
            refused("force", BAD, outside(0, 1), x::force);
        }));
        edge(TERMS, REFUSED, "refused, by person and put", () -> changeNothing(x -> {
            refused("person", BAD, outside(0, 59), v -> x.person(v, 0));
            refused("person", BAD, outside(0, 799), v -> x.person(0, v));
            refused("put", WHO, outside(0, 3), v -> x.put(v, 1, 5));
            refused("put", VALUE, outside(0, 2), v -> x.put(0, v, 5));
            refused("put", VALUE, outside(0, 7), v -> x.put(0, 0, v));
            refused("put", VALUE, outside(0, 99), v -> x.put(0, 1, v));
            refused("put", VALUE, outside(-1, 4), v -> x.put(0, 2, v));
        }));
        edge(TERMS, REFUSED, "refused, by person, as there are six", () -> {
            DoorOfLuck x = new DoorOfLuck();
            for (int p = 0; p < 6; p++) x.person(10 * p + p, 110 * p);
            Due.is("a seventh", x.person(SOUL, 55), FULL);
            Due.is("six", x.count(0), 6);
            each("luck", p -> x.told(p, 1), 0, 10, 20, 30, 40, 50);
        });
        edge(TERMS, REFUSED, "refused, by open and after", () -> changeNothing(x -> {
            refused("open", WHO, outside(0, 3), v -> x.open(v, 0));
            refused("open", WHICH_DOOR, outside(0, 4), v -> x.open(0, v));
            Due.is("elsewhere", x.open(0, 3), STATE);
            Due.is("bricked", x.open(0, 2), STATE);
            Due.is("not dared", x.open(2, 0), STATE);
            Due.is("after, elsewhere", x.after(0, 2, 3), STATE);
            Due.is("after, bricked", x.after(0, 2, 2), STATE);
            Due.is("after, not dared", x.after(2, 0, 0), STATE);
            Due.is("after, not in one house", x.after(0, 1, 0), STATE);
            refused("after", WHO, outside(0, 3), v -> x.after(0, v, 0));
            refused("after", WHO, outside(0, 3), v -> x.after(v, 0, 0));
            Due.is("after, one and the same", x.after(0, 0, 0), WHO);
            refused("after", WHICH_DOOR, outside(0, 4), v -> x.after(0, 1, v));
        }));
    }

    private static void refusedWalks() {
        edge(TERMS, REFUSED, "refused, by goes", () -> changeNothing(x -> {
            refused("goes", BAD, outside(0, 3), v -> x.goes(v, 0));
            Due.is("missing", x.goes(3, 0), MISSING);
            Due.is("no door", x.goes(1, 0), BAD);
            refused("goes", WHO, outside(0, 3), v -> x.goes(0, v));
            int was = x.dawn(999);
            Due.is("day 999", x.goes(0, 0), STATE);
            Due.is("it is still", x.dawn(was), 999);
        }));
        edge(TERMS, REFUSED, "refused, by film", () -> changeNothing(x -> {
            refused("film", BAD, outside(0, 3), v -> x.film(0, v, 0));
            Due.is("one and the same", x.film(0, 0, 0), BAD);
            refused("film", BAD, outside(0, 3), v -> x.film(v, 1, 0));
            Due.is("missing", x.film(3, 1, 0), MISSING);
            Due.is("no door", x.film(1, 2, 0), BAD);
            refused("film", WHO, outside(0, 3), v -> x.film(0, 2, v));
        }));
        edge(TERMS, REFUSED, "refused, by back, as there is no image", () -> {
            DoorOfLuck x = rowOfHouses();
            x.person(SOUL, 40);
            x.dawn(5);
            Due.is("back", x.back(), STATE);
            each("count", x::count, 1, 3, 5, 1, 0, 0);
            Due.is("luck", x.told(0, 1), 40);
        });
    }

    private static void refusedHost() {
        edge(TERMS, REFUSED, "refused, by sheet and cell", () -> changeNothing(x -> {
            refused("sheet", BAD, outside(0, 3), v -> x.sheet(v, INTS, 1));
            refused("sheet", BAD, outside(-1, 2), v -> x.sheet(0, v, 1));
            refused("sheet", BAD, new int[] {41, 1000, MAX}, v -> x.sheet(0, INTS, v));
            refused("sheet", BELOW, new int[] {-1, -1000, MIN}, v -> x.sheet(0, INTS, v));
            refused("cell", BAD, outside(0, 3), v -> x.cell(v, 0, 2));
            Due.is("missing", x.cell(3, 0, 2), MISSING);
            refused("cell", OUTSIDE, outside(0, 2), v -> x.cell(0, v, 2));
        }));
        edge(TERMS, REFUSED, "refused, by copy", () -> changeNothing(x -> {
            refused("copy", BAD, outside(0, 3), v -> x.copy(v, 0, 0, 1, 1));
            refused("copy", BAD, outside(0, 3), v -> x.copy(0, 1, v, 0, 1));
            Due.is("missing", x.copy(0, 0, 3, 0, 1), MISSING);
            Due.is("missing", x.copy(3, 0, 0, 1, 1), MISSING);
            Due.is("unlike", x.copy(0, 0, 1, 0, 1), UNLIKE);
            refused("copy", OUTSIDE, outside(0, 3), v -> x.copy(0, v, 0, 0, 1));
            refused("copy", OUTSIDE, outside(0, 3), v -> x.copy(0, 0, 0, v, 1));
            refused("copy", OUTSIDE, outside(0, 3), v -> x.copy(0, 0, 0, 0, v));
            Due.is("two fit, three don't", x.copy(0, 0, 0, 1, 3), OUTSIDE);
        }));
        edge(TERMS, REFUSED, "refused, by peopleBy", () -> changeNothing(x -> {
            refused("peopleBy", BAD, outside(0, 3), v -> x.peopleBy(v, INTS, 0, 1));
            refused("peopleBy", BAD, outside(0, 2), v -> x.peopleBy(0, v, 0, 1));
            refused("peopleBy", BAD, outside(0, 6), v -> x.peopleBy(0, INTS, 0, v));
            Due.is("missing", x.peopleBy(3, INTS, 0, 1), MISSING);
            Due.is("unlike", x.peopleBy(0, SHORTS, 0, 1), UNLIKE);
            refused("peopleBy", OUTSIDE, outside(0, 1), v -> x.peopleBy(0, INTS, v, 1));
        }));
    }

    private static void askedTown() {
        edge(TERMS, ASKED, "asked, by count, hung, asks, told, safe", () -> changeNothing(x -> {
            for (int v = -1; v < 9; v++) {
                x.count(v);
                x.hung(0, v);
                x.asks(v, 0, 0);
                x.told(1, v);
                x.safe(0, v);
            }
        }));
        edge(TERMS, ASKED, "asked, by way, together, friend", () -> changeNothing(x -> {
            for (int v = -1; v < 9; v++) {
                x.way(0, v, 0);
                x.way(1, v, 1);
                x.together(v, 3);
                x.together(1, v);
                x.friend(0, v);
            }
        }));
        edge(TERMS, ASKED, "asked, by worst, mason, watch, doomed, share, taken", () -> changeNothing(x -> {
            for (int v = -1; v < 3; v++) {
                x.worst(v);
                x.mason(v);
                x.watch(0, v);
                x.watch(1, v);
                x.doomed();
                x.share(v);
                x.taken(v, v);
                x.taken(6, 6);
            }
        }));
        edge(TERMS, ASKED, "asked, by mason, once, of a bricked door 0 and the last one", () -> {
            for (int what = 0; what < 2; what++) {
                DoorOfLuck x = rowOfHouses();
                x.person(SOUL, 0);
                x.brick(0, 1);
                x.brick(2, 1);
                x.mason(what);
                each("bricked", d -> x.hung(d, 2), 1, 0, 1);
                x.brick(2, 0);
                x.mason(what);
                each("bricked", d -> x.hung(d, 2), 1, 0, 0);
            }
        });
    }

    private static void askedWalks() {
        edge(TERMS, ASKED, "asked, by walk, judge, whose, laws", () -> changeNothing(x -> {
            for (int p = 0; p < 4; p++) {
                for (int what = 0; what < 4; what++) x.walk(0, p, what);
                x.judge(0, 1, p);
                x.laws(0, 1, p);
                x.laws(2, 2, p);
            }
            x.whose(0, 1);
        }));
        edge(TERMS, ASKED, "asked, by kinds, states, lucks", () -> changeNothing(x -> {
            for (int p = 0; p < 4; p++) {
                for (int v = 0; v < 2; v++) {
                    x.kinds(0, 1, p, v);
                    x.states(0, 1, p, 2 * v);
                    x.lucks(0, 1, p, v);
                }
            }
        }));
        edge(TERMS, ASKED, "asked, by drawn and odds", () -> changeNothing(x -> {
            for (int p = 0; p < 4; p++) {
                x.drawn(9, p, 60, 0);
                x.drawn(9, p, 60, 1);
                x.odds(9, 40, p, 50, 0);
                x.odds(9, 40, p, 50, 1);
            }
        }));
        edge(TERMS, ASKED, "asked, by image, which keeps and changes nothing else", () -> {
            DoorOfLuck x = lived();
            DoorOfLuck y = lived();
            x.image();
            y.image();
            y.image();
            if (!look(x).equals(look(y))) Due.tell("a second image is another one");
        });
    }
}
