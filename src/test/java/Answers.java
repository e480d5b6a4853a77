/** All that an object answers of its land, in one text, so that two states can be compared. */
final class Answers {
    private Answers() {
    }

    static String of(BiscuitLess x) {
        StringBuilder all = new StringBuilder();
        for (int what = -1; what <= 7; what++) {
            all.append(x.size(what)).append(' ');
        }
        for (int month = -1; month <= x.size(0); month++) {
            all.append("\nmonth ").append(month).append(' ').append(x.back(month));
            things(x, month, all);
            houses(x, month, all);
            offices(x, month, all);
        }
        for (int house = 0; house < x.size(4); house++) {
            for (int i = 0; i < x.size(0); i++) {
                all.append(' ').append(Check.led(x, house, i));
            }
        }
        return all.toString();
    }

    private static void things(BiscuitLess x, int month, StringBuilder all) {
        for (int thing = -1; thing <= x.size(2); thing++) {
            for (int what = 0; what <= 4; what++) {
                all.append(' ').append(x.thing(thing, month, what));
            }
        }
        for (int group = -1; group <= x.size(1); group++) {
            all.append(' ').append(x.worths(group, month, 3)).append(' ').append(x.span(group, month, 9, 0, true));
        }
    }

    private static void houses(BiscuitLess x, int month, StringBuilder all) {
        for (int house = -1; house <= x.size(4); house++) {
            for (int group = -1; group <= x.size(1); group++) {
                all.append(' ').append(x.buys(house, group, month, 0)).append(' ').append(x.buys(house, group, month, 1));
            }
            all.append(' ').append(x.spent(house, month)).append(' ').append(x.missed(house, month));
            all.append(' ').append(x.truly(house, month)).append(' ').append(x.live(house, month));
            all.append(' ').append(x.instead(house, month, 0)).append(' ').append(x.instead(house, month, 1));
            all.append(' ').append(x.nearest(house, month));
        }
    }

    private static void offices(BiscuitLess x, int month, StringBuilder all) {
        for (int office = -1; office <= x.size(5); office++) {
            all.append(' ').append(x.number(office, month)).append(' ').append(x.drift(office, month));
            all.append(' ').append(x.has(office, Math.floorMod(month, 3))).append(' ').append(x.look(1, month, office));
            for (int thing = -1; thing <= x.size(2); thing++) {
                all.append(' ').append(x.gives(office, thing, month)).append(' ').append(x.hides(thing, month, 9, office));
                all.append(' ').append(x.gain(thing, month, 9, office));
            }
            for (int house = -1; house <= x.size(4); house++) {
                all.append(' ').append(x.beside(office, house, month)).append(' ').append(x.pension(house, office, month));
                all.append(' ').append(x.lacks(house, office, month));
            }
        }
    }
}
