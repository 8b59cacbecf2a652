import java.util.List;
import java.util.function.Supplier;

/** Objects to ask at the edges: with nothing told, with some of all, with as many of all as there may be. */
final class States {
    static final List<Supplier<ColdHolds>> ALL =
        List.of(ColdHolds::new, States::one, States::some, States::begun, States::full, States::ended);
    /** Those in which each number names something and nothing is refused for being full. */
    static final List<Supplier<ColdHolds>> OPEN = List.of(States::one, States::some);

    private States() {
    }

    /** One of each that is told. */
    static ColdHolds one() {
        ColdHolds x = new ColdHolds();
        x.leg(7, 333);
        x.lot(3, 5);
        Due.tell(x, "W:t+7>r+1");
        x.reading(50, 77);
        x.arrive(33);
        x.flock(321, 54);
        x.seller(43, 55);
        x.farm(3, -201);
        x.line(17, 28);
        x.choice(123);
        Due.write(x, "C");
        return x;
    }

    /** Some of each, no HOUR gone by, a whole TEXT on THE PAGE. */
    static ColdHolds some() {
        ColdHolds x = new ColdHolds();
        x.leg(5, 310);
        x.leg(9, -20);
        x.leg(30, 160);
        x.warm(3, -77);
        x.outer(9, 11);
        x.pipe(6, true);
        x.engine(3, 19);
        x.breaks(12);
        addLots(x, 3);
        Due.tell(x, "W:r*2+1<t+400");
        Due.tell(x, "S:(h+1)*(h+1)=k*k+1");
        addReadings(x, 3);
        addToLayAndDrive(x, 4, 3);
        addToTrade(x, 3, 4, 3, 3);
        Due.write(x, "C:1<k+7");
        return x;
    }

    /** Some of each, when HOURS have gone by. */
    static ColdHolds begun() {
        ColdHolds x = some();
        x.hours(3);
        x.lay(0, 7);
        x.hours(4);
        x.breaks(6);
        x.engine(3, 40);
        return x;
    }

    /** As many of each as there may be, no HOUR gone by. */
    static ColdHolds full() {
        ColdHolds x = new ColdHolds();
        for (int leg = 0; leg < 6; leg++) {
            x.leg(3 + leg, 400 - 90 * leg);
        }
        x.pipe(11, true);
        x.engine(3, 9999);
        addLots(x, 20);
        for (int text = 0; text < 12; text++) {
            Due.tell(x, "WSC".charAt(text % 3) + ":" + (text + 1) + (text % 2 == 0 ? "<" : ">") + "h+k");
        }
        addReadings(x, 24);
        addToLayAndDrive(x, 8, 6);
        addToTrade(x, 5, 8, 5, 8);
        Due.write(x, "C:(((((((1+2)*3+4)*5+6)*7+8)*9+10)*11+12)*13+14)*15=16+r+t+9");
        return x;
    }

    /** As many of each as there may be, when all HOURS have gone by. */
    static ColdHolds ended() {
        ColdHolds x = full();
        for (int i = 0; i < 4; i++) {
            x.hours(300);
        }
        return x;
    }

    private static void addLots(ColdHolds x, int many) {
        for (int lot = 0; lot < many; lot++) {
            x.lot((lot + 3) % 6, lot * 5 % 12);
        }
    }

    private static void addReadings(ColdHolds x, int many) {
        for (int reading = 0; reading < many; reading++) {
            x.reading(reading * 20, reading % 5 == 1 ? -999 : 50 + reading);
        }
    }

    private static void addToLayAndDrive(ColdHolds x, int arrivals, int flocks) {
        for (int arrival = 0; arrival < arrivals; arrival++) {
            x.arrive(arrival * 37 % 11);
        }
        for (int flock = 0; flock < flocks; flock++) {
            x.flock(100 + 31 * flock, 20 + 7 * flock);
        }
        x.works(1, 240);
        x.works(3, 150);
        x.days(0, 3, 4);
    }

    private static void addToTrade(ColdHolds x, int sellers, int farms, int lines, int choices) {
        for (int seller = 0; seller < sellers; seller++) {
            x.seller(20 + seller, 90 - 15 * seller);
        }
        for (int farm = 0; farm < farms; farm++) {
            x.farm(farm % 4 + 1, -50 * farm);
        }
        for (int farm = 0; farm < farms; farm++) {
            x.owe(farm, (farm + farms - 1) % farms, 40 + farm);
        }
        for (int line = 0; line < lines; line++) {
            x.line(5 + 3 * line, 10 + 20 * line);
        }
        for (int choice = 0; choice < choices; choice++) {
            x.choice(10 + choice);
            x.gives(choice, choice % 5, 60 + choice);
        }
    }
}
