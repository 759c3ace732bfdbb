public final class TurnWheel {
    public static final int NONE = -1;

    private static final int MOST_BYTES = 600;
    private static final int MOST_LETTERS = 8;
    private static final int MOST_DIGITS = 3;
    private static final int MOST_FIGHTERS = 8;
    private static final int MOST_ACTS = 6;
    private static final int MOST_KEPT = 6;
    private static final int MOST_REPORT = 8 * 22;

    private static final int LEAST_WHEEL = 100;
    private static final int MOST_WHEEL = 999;
    private static final int USUAL_WHEEL = 300;
    private static final int MOST_SPEED = 99;
    private static final int MOST_LIFE = 999;
    private static final int MOST_LUCK = 9;
    private static final int MOST_GAUGE = 9999;
    private static final int MOST_EXTRAS = 3;
    private static final int MOST_CHANGE = 999;
    private static final int MOST_PLAYED = 99;
    private static final int MOST_TURNS = 9999;

    private static final int MOST_ASKED = 99;
    private static final int FAR = 200;
    private static final int NEAR = 20;

    private static final int FINE = 0;
    private static final int BAD_ARGUMENT = 1;
    private static final int BAD_STATE = 2;

    private final Tokens tokens = new Tokens();
    private final Script script = new Script();
    private final Fight now = new Fight();
    private final Fight draft = new Fight();
    private final Fight kept = new Fight();
    private final Forecast forecast = new Forecast();
    private final History history = new History();
    private final Sheet sheet = new Sheet();
    private boolean isKept = false;

    public TurnWheel() {
    }

    // ---- texts

    public int feed(int a, int b, int c, int d, int e) throws IllegalStateException {
        if (!tokens.hasRoomFor(20)) {
            throw new IllegalStateException("the buffer is full");
        }
        tokens.append(a);
        tokens.append(b);
        tokens.append(c);
        tokens.append(d);
        tokens.append(e);
        return tokens.length;
    }

    public int truncate(int n) throws IllegalArgumentException {
        demand(n >= 0 && n <= tokens.length);
        tokens.length = n;
        return n;
    }

    public int readText() throws IllegalArgumentException {
        tokens.begin();
        TextReader.readInto(draft, tokens);
        now.copyFrom(draft);
        history.forget();
        return now.count;
    }

    public int runScript() throws IllegalArgumentException {
        tokens.begin();
        script.readFrom(tokens, now);
        history.keep(now);
        return script.runOn(now);
    }

    public int errorCode() {
        return tokens.errorCode;
    }

    public int errorPosition() {
        return tokens.errorPosition;
    }

    // ---- what is there

    public int setting(int what) throws IllegalArgumentException {
        switch (what) {
            case 0: return now.count;
            case 1: return now.wheel;
            case 2: return now.time;
            case 3: return now.turnsMade;
            case 4: return now.living();
            case 5: return now.sideLife(0);
            case 6: return now.sideLife(1);
            case 7: return now.wonBy();
            case 8: return now.over() ? 1 : 0;
            case 9: return history.size;
            default: throw new IllegalArgumentException("no such setting");
        }
    }

    public int fighter(int fighter, int what) throws IndexOutOfBoundsException, IllegalArgumentException {
        Fighter f = known(fighter);
        switch (what) {
            case 0: return f.side;
            case 1: return f.speed;
            case 2: return f.life;
            case 3: return f.luck;
            case 4: return f.gauge;
            case 5: return f.guard;
            case 6: return f.extras;
            case 7: return f.place;
            case 8: return f.acts;
            case 9: return f.turnsMade;
            case 10: return f.extraTurns;
            case 11: return f.harm;
            default: throw new IllegalArgumentException("no such number of a fighter");
        }
    }

    public int actKind(int fighter, int i) throws IndexOutOfBoundsException {
        return known(fighter).kindAt(i);
    }

    public int actNumber(int fighter, int i) throws IndexOutOfBoundsException {
        return known(fighter).amountAt(i);
    }

    public int letter(int fighter, int i) throws IndexOutOfBoundsException {
        return Words.letterAt(known(fighter).name, i);
    }

    public int ticksTo(int fighter) throws IndexOutOfBoundsException {
        Fighter f = known(fighter);
        return f.life > 0 ? f.ticksLeft(now.wheel) : NONE;
    }

    public int row(int i) {
        return now.inRow(i).number;
    }

    public double meanSpeed() {
        int living = now.living();
        return living > 0 ? (double) now.speedOfLiving() / (double) living : 0.0;
    }

    public float share() {
        int first = now.sideLife(0);
        int both = first + now.sideLife(1);
        return both > 0 ? (float) first / (float) both : 0.0f;
    }

    // ---- what comes

    public int turn(int i) throws IllegalArgumentException {
        demand(i >= 0 && i <= MOST_ASKED);
        return forecast.actorOf(now, i).number;
    }

    public int turnTime(int i) throws IllegalArgumentException {
        demand(i >= 0 && i <= MOST_ASKED);
        return forecast.timeOf(now, i);
    }

    public int turnKind(int i) throws IllegalArgumentException {
        demand(i >= 0 && i <= MOST_ASKED);
        return forecast.kindOf(now, i);
    }

    public int lifeIn(int fighter, int turns) throws IndexOutOfBoundsException, IllegalArgumentException {
        return laterSelf(fighter, turns).life;
    }

    public int gaugeIn(int fighter, int turns) throws IndexOutOfBoundsException, IllegalArgumentException {
        return laterSelf(fighter, turns).gauge;
    }

    public int turnsOf(int fighter, int turns) throws IndexOutOfBoundsException, IllegalArgumentException {
        Fighter before = known(fighter);
        return laterSelf(fighter, turns).turnsMade - before.turnsMade;
    }

    public int longestRun(int turns) throws IllegalArgumentException {
        demand(turns >= 0 && turns <= FAR);
        return forecast.mostInARow(now, turns);
    }

    public int endsIn() {
        return forecast.turnsToEnd(now);
    }

    public int winner() {
        return forecast.afterTurns(now, FAR).wonBy();
    }

    public int firstLoss(int fighter) throws IndexOutOfBoundsException {
        return forecast.turnOfLoss(now, known(fighter).number);
    }

    public int repeatIn() {
        forecast.findRepeat(now);
        return forecast.repeatTurn;
    }

    public int cycle() {
        forecast.findRepeat(now);
        return forecast.repeatLength;
    }

    public int leastSpeed(int fighter) throws IndexOutOfBoundsException {
        return forecast.speedToWin(now, known(fighter));
    }

    public int bestPush(int side, int by) throws IllegalArgumentException {
        demand((side == 0 || side == 1) && by >= 1 && by <= MOST_CHANGE);
        return forecast.whomToPush(now, side, by);
    }

    public int bestSwap(int fighter) throws IndexOutOfBoundsException {
        return forecast.withWhomToSwap(now, known(fighter));
    }

    public int bestPlace(int fighter) throws IndexOutOfBoundsException {
        return forecast.whereToStart(now, known(fighter));
    }

    // ---- changes

    public int play(int turns) throws IllegalArgumentException, IllegalStateException {
        refuse(now.faultOfPlay(turns));
        history.keep(now);
        return now.playOn(turns);
    }

    public int push(int fighter, int by)
            throws IndexOutOfBoundsException, IllegalArgumentException, IllegalStateException {
        Fighter f = known(fighter);
        refuse(f.faultOfShift(by));
        history.keep(now);
        f.loseGauge(by);
        return f.gauge;
    }

    public int lift(int fighter, int by)
            throws IndexOutOfBoundsException, IllegalArgumentException, IllegalStateException {
        Fighter f = known(fighter);
        refuse(f.faultOfShift(by));
        history.keep(now);
        f.gainGauge(by);
        return f.gauge;
    }

    public boolean extra(int fighter) throws IndexOutOfBoundsException, IllegalStateException {
        Fighter f = known(fighter);
        refuse(f.faultOfExtra());
        if (f.extras >= MOST_EXTRAS) {
            return false;
        }
        history.keep(now);
        f.gainExtras(1);
        return true;
    }

    public int setSpeed(int fighter, int speed) throws IndexOutOfBoundsException, IllegalArgumentException {
        Fighter f = known(fighter);
        refuse(f.faultOfSpeed(speed));
        history.keep(now);
        int before = f.speed;
        f.speed = speed;
        return before;
    }

    public int heal(int fighter, int by) throws IndexOutOfBoundsException, IllegalArgumentException {
        Fighter f = known(fighter);
        refuse(f.faultOfHeal(by));
        history.keep(now);
        f.gainLife(by);
        return f.life;
    }

    public int setWheel(int wheel) throws IllegalArgumentException {
        refuse(now.faultOfWheel(wheel));
        history.keep(now);
        int before = now.wheel;
        now.wheel = wheel;
        return before;
    }

    public int setAct(int fighter, int i, int kind, int number)
            throws IndexOutOfBoundsException, IllegalArgumentException {
        Fighter f = known(fighter);
        refuse(f.faultOfAct(i, kind, number));
        history.keep(now);
        int before = f.kindAt(i);
        f.putAct(i, kind, number);
        return before;
    }

    // ---- reports, undo, a saved state

    public int report() {
        sheet.write(now, forecast.actorOf(now, 0).number);
        return sheet.length;
    }

    public int reportByte(int i) throws IndexOutOfBoundsException {
        if (i < 0 || i >= sheet.length) {
            throw new IndexOutOfBoundsException("no such byte of a report");
        }
        return sheet.byteAt(i);
    }

    public int undo() {
        return history.goBack(now) ? history.size : NONE;
    }

    public int save() {
        kept.copyFrom(now);
        isKept = true;
        return now.time;
    }

    public int restore() throws IllegalStateException {
        if (!isKept) {
            throw new IllegalStateException("nothing was saved");
        }
        now.copyFrom(kept);
        history.forget();
        return now.time;
    }

    private static void demand(boolean right) {
        if (!right) {
            throw new IllegalArgumentException("an argument is out of range");
        }
    }

    private static void refuse(int fault) {
        if (fault == BAD_ARGUMENT) {
            throw new IllegalArgumentException("an argument is out of range");
        }
        if (fault == BAD_STATE) {
            throw new IllegalStateException("this can't be done now");
        }
    }

    private Fighter known(int fighter) {
        if (fighter < 0 || fighter >= now.count) {
            throw new IndexOutOfBoundsException("no such fighter");
        }
        return now.at(fighter);
    }

    private Fighter laterSelf(int fighter, int turns) {
        int number = known(fighter).number;
        demand(turns >= 0 && turns <= FAR);
        return forecast.afterTurns(now, turns).at(number);
    }

    /** Words as numbers, a byte for each letter from the highest one on: so names need no objects. */
    private static final class Words {
        static long packed(String word) {
            long all = 0;
            for (int i = 0; i < MOST_LETTERS; i++) {
                all = all << 8 | (i < word.length() ? word.charAt(i) & 255 : 0);
            }
            return all;
        }

        static int letterAt(long word, int i) {
            return i >= 0 && i < MOST_LETTERS ? (int) (word >>> 8 * (MOST_LETTERS - 1 - i)) & 255 : 0;
        }
    }

    /** The acts of a plan, as they are written. */
    private static final class Acts {
        static final int KINDS = 7;
        static final int HIT = 0;
        static final int PUSH = 1;
        static final int LIFT = 2;
        static final int GUARD = 3;
        static final int AGAIN = 4;
        static final int SPEED = 5;
        static final int REST = 6;

        static String wordOf(int kind) {
            switch (kind) {
                case HIT: return "hit";
                case PUSH: return "push";
                case LIFT: return "lift";
                case GUARD: return "guard";
                case AGAIN: return "again";
                case SPEED: return "speed";
                case REST: return "rest";
                default: return "";
            }
        }

        static int mostOf(int kind) {
            switch (kind) {
                case PUSH:
                case LIFT: return 999;
                case AGAIN: return 3;
                default: return 99;
            }
        }

        static int kindHere(Tokens t) {
            for (int kind = 0; kind < KINDS; kind++) {
                if (t.isWord(wordOf(kind))) {
                    return kind;
                }
            }
            return NONE;
        }
    }

    /** A fighter, or a place where none is: all is 0 there, so that it never lives. */
    private static final class Fighter {
        final int number;
        final int[] kinds = new int[MOST_ACTS];
        final int[] amounts = new int[MOST_ACTS];
        int acts = 0;
        long name = 0;
        int side = 0;
        int speed = 0;
        int life = 0;
        int luck = 0;
        int gauge = 0;
        int guard = 0;
        int extras = 0;
        int place = 0;
        int turnsMade = 0;
        int extraTurns = 0;
        int harm = 0;

        Fighter(int number) {
            this.number = number;
        }

        void copyFrom(Fighter other) {
            acts = other.acts;
            copyActs(other.kinds, kinds);
            copyActs(other.amounts, amounts);
            name = other.name;
            side = other.side;
            speed = other.speed;
            life = other.life;
            luck = other.luck;
            gauge = other.gauge;
            guard = other.guard;
            extras = other.extras;
            place = other.place;
            turnsMade = other.turnsMade;
            extraTurns = other.extraTurns;
            harm = other.harm;
        }

        private static void copyActs(int[] from, int[] to) {
            for (int i = 0; i < from.length && i < to.length; i++) {
                to[i] = from[i];
            }
        }

        boolean hasAct(int i) {
            return i >= 0 && i < acts && i < MOST_ACTS;
        }

        int kindAt(int i) {
            return hasAct(i) ? kinds[i] : NONE;
        }

        int amountAt(int i) {
            return hasAct(i) ? amounts[i] : NONE;
        }

        void putAct(int i, int kind, int amount) {
            if (hasAct(i)) {
                kinds[i] = kind;
                amounts[i] = amount;
            }
        }

        void addAct(int kind, int amount) {
            if (acts < MOST_ACTS) {
                acts++;
                putAct(acts - 1, kind, amount);
            }
        }

        int ticksLeft(int wheel) {
            if (gauge >= wheel || speed < 1) {
                return 0;
            }
            return (wheel - gauge + speed - 1) / speed;
        }

        void loseGauge(int by) {
            gauge = Math.max(gauge - by, 0);
        }

        /** Where no fighter is, there is nothing to be lifted. */
        void gainGauge(int by) {
            if (life > 0) {
                gauge = Math.min(gauge + by, MOST_GAUGE);
            }
        }

        void gainExtras(int by) {
            extras = Math.min(extras + by, MOST_EXTRAS);
        }

        void gainLife(int by) {
            life = Math.min(life + by, MOST_LIFE);
        }

        int loseLife(int by) {
            int loss = Math.min(Math.max(by - guard, 0), life);
            life -= loss;
            if (life == 0) {
                gauge = 0;
                guard = 0;
                extras = 0;
            }
            return loss;
        }

        /** All that must be the same for a repeat; each part is below the power of 2 that it is given. */
        long likeness() {
            long all = life;
            all = all << 7 | speed;
            all = all << 14 | gauge;
            all = all << 7 | guard;
            all = all << 2 | extras;
            return all << 3 | place;
        }

        int faultOfShift(int by) {
            if (by < 1 || by > MOST_CHANGE) {
                return BAD_ARGUMENT;
            }
            return life > 0 ? FINE : BAD_STATE;
        }

        int faultOfExtra() {
            return life > 0 ? FINE : BAD_STATE;
        }

        int faultOfSpeed(int wanted) {
            return wanted >= 1 && wanted <= MOST_SPEED ? FINE : BAD_ARGUMENT;
        }

        int faultOfHeal(int by) {
            return by >= 1 && by <= MOST_CHANGE ? FINE : BAD_ARGUMENT;
        }

        int faultOfAct(int i, int kind, int amount) {
            boolean right = hasAct(i) && kind >= 0 && kind < Acts.KINDS
                    && amount >= 1 && amount <= Acts.mostOf(kind);
            return right ? FINE : BAD_ARGUMENT;
        }
    }

    /** A whole fight. It is made once and copied into, as nothing that a run makes is ever given back. */
    private static final class Fight {
        final Fighter[] all = new Fighter[MOST_FIGHTERS];
        /** Stands for a fighter who is not there, so that no reference is null; it never changes. */
        final Fighter nobody = new Fighter(NONE);
        int count = 0;
        int wheel = USUAL_WHEEL;
        int time = 0;
        int turnsMade = 0;

        Fight() {
            for (int i = 0; i < all.length; i++) {
                all[i] = new Fighter(i);
            }
        }

        void clear() {
            for (Fighter f : all) {
                f.copyFrom(nobody);
            }
            count = 0;
            wheel = USUAL_WHEEL;
            time = 0;
            turnsMade = 0;
        }

        void copyFrom(Fight other) {
            for (Fighter f : all) {
                f.copyFrom(other.at(f.number));
            }
            count = other.count;
            wheel = other.wheel;
            time = other.time;
            turnsMade = other.turnsMade;
        }

        Fighter at(int i) {
            return i >= 0 && i < all.length ? all[i] : nobody;
        }

        int numberOf(long name) {
            for (Fighter f : all) {
                if (f.number < count && f.name == name) {
                    return f.number;
                }
            }
            return NONE;
        }

        int living() {
            int n = 0;
            for (Fighter f : all) {
                if (f.life > 0) {
                    n++;
                }
            }
            return n;
        }

        int speedOfLiving() {
            int sum = 0;
            for (Fighter f : all) {
                if (f.life > 0) {
                    sum += f.speed;
                }
            }
            return sum;
        }

        int sideLife(int side) {
            int sum = 0;
            for (Fighter f : all) {
                if (f.side == side) {
                    sum += f.life;
                }
            }
            return sum;
        }

        private boolean lives(int side) {
            for (Fighter f : all) {
                if (f.life > 0 && f.side == side) {
                    return true;
                }
            }
            return false;
        }

        boolean over() {
            return !lives(0) || !lives(1);
        }

        int wonBy() {
            if (lives(0) == lives(1)) {
                return NONE;
            }
            return lives(0) ? 0 : 1;
        }

        /** The place of a fighter is the number of those before it, so no row need be kept. */
        Fighter inRow(int i) {
            for (Fighter f : all) {
                if (f.life > 0 && aheadOf(f) == i) {
                    return f;
                }
            }
            return nobody;
        }

        private int aheadOf(Fighter f) {
            int n = 0;
            for (Fighter other : all) {
                if (other.life > 0 && isAhead(other, f)) {
                    n++;
                }
            }
            return n;
        }

        private boolean isAhead(Fighter a, Fighter b) {
            int ticksOfA = a.ticksLeft(wheel);
            int ticksOfB = b.ticksLeft(wheel);
            if (ticksOfA != ticksOfB) {
                return ticksOfA < ticksOfB;
            }
            return a.luck != b.luck ? a.luck > b.luck : a.number < b.number;
        }

        /** Lets ticks go by until somebody is next; nobody if the fight is over. */
        Fighter bringNext() {
            if (over()) {
                return nobody;
            }
            Fighter who = firstWithExtra();
            if (who != nobody) {
                return who;
            }
            pass(ticksToFirst());
            return firstReady();
        }

        private Fighter firstWithExtra() {
            for (Fighter f : all) {
                if (f.life > 0 && f.extras > 0) {
                    return f;
                }
            }
            return nobody;
        }

        private Fighter firstReady() {
            Fighter best = nobody;
            for (Fighter f : all) {
                if (f.life > 0 && f.gauge >= wheel && (best == nobody || f.gauge > best.gauge
                        || f.gauge == best.gauge && f.luck > best.luck)) {
                    best = f;
                }
            }
            return best;
        }

        private int ticksToFirst() {
            int least = MOST_WHEEL;
            for (Fighter f : all) {
                if (f.life > 0) {
                    least = Math.min(least, f.ticksLeft(wheel));
                }
            }
            return least;
        }

        private void pass(int ticks) {
            time += ticks;
            for (Fighter f : all) {
                if (f.life > 0) {
                    f.gauge += ticks * f.speed;
                }
            }
        }

        /** To be called with whom bringNext() tells, and not with nobody. */
        void takeTurn(Fighter who) {
            turnsMade++;
            who.turnsMade++;
            if (who.extras > 0) {
                who.extras--;
                who.extraTurns++;
            } else {
                who.gauge -= wheel;
            }
            who.guard = 0;
            act(who, who.amountAt(who.place));
            who.place = who.place + 1 < who.acts ? who.place + 1 : 0;
        }

        private void act(Fighter who, int amount) {
            switch (who.kindAt(who.place)) {
                case Acts.HIT:
                    who.harm += weakest(1 - who.side).loseLife(amount);
                    break;
                case Acts.PUSH:
                    fullest(1 - who.side).loseGauge(amount);
                    break;
                case Acts.LIFT:
                    emptiestFriend(who).gainGauge(amount);
                    break;
                case Acts.GUARD:
                    who.guard = amount;
                    break;
                case Acts.AGAIN:
                    who.gainExtras(amount);
                    break;
                case Acts.SPEED:
                    who.speed = amount;
                    break;
                case Acts.REST:
                    who.gainLife(amount);
                    break;
                default:
                    break;
            }
        }

        private Fighter weakest(int side) {
            Fighter best = nobody;
            for (Fighter f : all) {
                if (f.life > 0 && f.side == side && (best == nobody || f.life < best.life)) {
                    best = f;
                }
            }
            return best;
        }

        private Fighter fullest(int side) {
            Fighter best = nobody;
            for (Fighter f : all) {
                if (f.life > 0 && f.side == side && (best == nobody || f.gauge > best.gauge)) {
                    best = f;
                }
            }
            return best;
        }

        /** Nobody if there is no other. */
        private Fighter emptiestFriend(Fighter who) {
            Fighter best = nobody;
            for (Fighter f : all) {
                if (f != who && f.life > 0 && f.side == who.side && (best == nobody || f.gauge < best.gauge)) {
                    best = f;
                }
            }
            return best;
        }

        /** How many turns were made: fewer than asked if the fight is over before. */
        int playOn(int turns) {
            for (int n = 0; n < turns; n++) {
                Fighter who = bringNext();
                if (who == nobody) {
                    return n;
                }
                takeTurn(who);
            }
            return turns;
        }

        int faultOfPlay(int turns) {
            if (turns < 1 || turns > MOST_PLAYED) {
                return BAD_ARGUMENT;
            }
            return over() || turnsMade + turns > MOST_TURNS ? BAD_STATE : FINE;
        }

        int faultOfWheel(int wanted) {
            return wanted >= LEAST_WHEEL && wanted <= MOST_WHEEL ? FINE : BAD_ARGUMENT;
        }
    }

    /** What comes: plays on a copy, so that nothing changes by asking. */
    private static final class Forecast {
        final Fight later = new Fight();
        final long[] seen = new long[(FAR + 1) * MOST_FIGHTERS];
        int repeatTurn = NONE;
        int repeatLength = NONE;

        Fight afterTurns(Fight now, int turns) {
            later.copyFrom(now);
            later.playOn(turns);
            return later;
        }

        Fighter actorOf(Fight now, int turn) {
            return afterTurns(now, turn).bringNext();
        }

        int timeOf(Fight now, int turn) {
            Fighter who = afterTurns(now, turn).bringNext();
            return who == later.nobody ? NONE : later.time;
        }

        int kindOf(Fight now, int turn) {
            Fighter who = afterTurns(now, turn).bringNext();
            return who.kindAt(who.place);
        }

        int mostInARow(Fight now, int turns) {
            later.copyFrom(now);
            Fighter before = later.nobody;
            int run = 0;
            int most = 0;
            for (int n = 0; n < turns; n++) {
                Fighter who = later.bringNext();
                if (who == later.nobody) {
                    return most;
                }
                later.takeTurn(who);
                run = who == before ? run + 1 : 1;
                most = Math.max(most, run);
                before = who;
            }
            return most;
        }

        int turnsToEnd(Fight now) {
            later.copyFrom(now);
            int made = later.playOn(FAR);
            return later.over() ? made : NONE;
        }

        int turnOfLoss(Fight now, int number) {
            later.copyFrom(now);
            Fighter f = later.at(number);
            for (int n = 1; n <= FAR; n++) {
                int before = f.life;
                later.playOn(1);
                if (f.life < before) {
                    return n;
                }
            }
            return NONE;
        }

        void findRepeat(Fight now) {
            repeatTurn = NONE;
            repeatLength = NONE;
            later.copyFrom(now);
            note(0);
            for (int n = 1; n <= FAR; n++) {
                if (later.playOn(1) < 1) {
                    return;
                }
                note(n);
                int same = sameBefore(n);
                if (same != NONE) {
                    repeatTurn = n;
                    repeatLength = n - same;
                    return;
                }
            }
        }

        private void note(int turn) {
            for (Fighter f : later.all) {
                int at = turn * MOST_FIGHTERS + f.number;
                if (at >= 0 && at < seen.length) {
                    seen[at] = f.likeness();
                }
            }
        }

        private int sameBefore(int turn) {
            for (int n = turn - 1; n >= 0; n--) {
                if (isSame(n * MOST_FIGHTERS, turn * MOST_FIGHTERS)) {
                    return n;
                }
            }
            return NONE;
        }

        private boolean isSame(int a, int b) {
            if (a < 0 || b < 0 || a > seen.length - MOST_FIGHTERS || b > seen.length - MOST_FIGHTERS) {
                return false;
            }
            for (int i = 0; i < MOST_FIGHTERS; i++) {
                if (seen[a + i] != seen[b + i]) {
                    return false;
                }
            }
            return true;
        }

        int speedToWin(Fight now, Fighter f) {
            for (int speed = 1; speed <= MOST_SPEED; speed++) {
                later.copyFrom(now);
                later.at(f.number).speed = speed;
                later.playOn(FAR);
                if (later.wonBy() == f.side) {
                    return speed;
                }
            }
            return NONE;
        }

        int whomToPush(Fight now, int side, int by) {
            int best = NONE;
            int most = NONE;
            for (Fighter foe : now.all) {
                if (foe.life > 0 && foe.side != side) {
                    later.copyFrom(now);
                    later.at(foe.number).loseGauge(by);
                    later.playOn(NEAR);
                    int life = later.sideLife(side);
                    if (life > most) {
                        most = life;
                        best = foe.number;
                    }
                }
            }
            return best;
        }

        int withWhomToSwap(Fight now, Fighter f) {
            if (f.life <= 0) {
                return NONE;
            }
            later.copyFrom(now);
            later.playOn(NEAR);
            int most = later.sideLife(f.side);
            int best = NONE;
            for (Fighter friend : now.all) {
                if (friend != f && friend.life > 0 && friend.side == f.side) {
                    later.copyFrom(now);
                    later.at(f.number).gauge = friend.gauge;
                    later.at(friend.number).gauge = f.gauge;
                    later.playOn(NEAR);
                    int life = later.sideLife(f.side);
                    if (life > most) {
                        most = life;
                        best = friend.number;
                    }
                }
            }
            return best;
        }

        int whereToStart(Fight now, Fighter f) {
            int best = NONE;
            int most = NONE;
            for (int place = 0; place < f.acts; place++) {
                later.copyFrom(now);
                later.at(f.number).place = place;
                later.playOn(NEAR);
                int life = later.sideLife(f.side);
                if (life > most) {
                    most = life;
                    best = place;
                }
            }
            return best;
        }
    }

    /** The buffer, and its bytes as the tokens of the text that is read, with the error that was found. */
    private static final class Tokens {
        static final int END = 0;
        static final int WORD = 1;
        static final int NUMBER = 2;
        static final int SIGN = 3;
        static final int INVALID = 4;

        final byte[] bytes = new byte[MOST_BYTES];
        int length = 0;
        int errorCode = 0;
        int errorPosition = NONE;
        private int limit = 0;
        private int start = 0;
        private int end = 0;
        int type = END;
        long word = 0;
        private int number = 0;
        private int sign = 0;

        boolean hasRoomFor(int n) {
            return length + n <= bytes.length;
        }

        void append(int four) {
            for (int shift = 24; shift >= 0; shift -= 8) {
                if (length >= 0 && length < bytes.length) {
                    bytes[length] = (byte) (four >>> shift);
                    length++;
                }
            }
        }

        /** Empties the buffer at once, as it shall be empty behind an error too; its bytes stay readable. */
        void begin() {
            limit = length;
            length = 0;
            errorCode = 0;
            errorPosition = NONE;
            end = 0;
            step();
        }

        void fail(int code) {
            errorCode = code;
            errorPosition = start;
            throw new IllegalArgumentException("the text has an error");
        }

        void step() {
            start = end;
            while (start < limit && (byteAt(start) == ' ' || byteAt(start) == '\n')) {
                start++;
            }
            int b = byteAt(start);
            end = start + 1;
            if (start >= limit) {
                type = END;
                end = limit;
            } else if (isLetter(b)) {
                readWord();
            } else if (isDigit(b)) {
                readNumber();
            } else {
                type = b == ';' || b == '(' || b == ')' ? SIGN : INVALID;
                sign = b;
            }
        }

        private void readWord() {
            end = start;
            while (end < limit && isLetter(byteAt(end))) {
                end++;
            }
            type = end - start <= MOST_LETTERS ? WORD : INVALID;
            word = 0;
            for (int i = start; i < start + MOST_LETTERS; i++) {
                word = word << 8 | (i < end ? byteAt(i) : 0);
            }
        }

        private void readNumber() {
            end = start;
            while (end < limit && isDigit(byteAt(end))) {
                end++;
            }
            type = end - start <= MOST_DIGITS ? NUMBER : INVALID;
            number = 0;
            for (int i = start; i < end && i < start + MOST_DIGITS; i++) {
                number = number * 10 + byteAt(i) - '0';
            }
        }

        private int byteAt(int i) {
            return i >= 0 && i < limit && i < bytes.length ? bytes[i] & 255 : 0;
        }

        private static boolean isLetter(int b) {
            return b >= 'a' && b <= 'z';
        }

        private static boolean isDigit(int b) {
            return b >= '0' && b <= '9';
        }

        boolean isWord(String wanted) {
            return type == WORD && word == Words.packed(wanted);
        }

        boolean isSign(char wanted) {
            return type == SIGN && sign == wanted;
        }

        void takeWord(String wanted) {
            if (!isWord(wanted)) {
                fail(1);
            }
            step();
        }

        void takeSign(char wanted) {
            if (!isSign(wanted)) {
                fail(1);
            }
            step();
        }

        int takeNumber(int least, int most) {
            if (type != NUMBER) {
                fail(1);
            }
            if (number < least || number > most) {
                fail(2);
            }
            int taken = number;
            step();
            return taken;
        }
    }

    /** Reads a text into a fight; an error leaves that one half made. */
    private static final class TextReader {
        static void readInto(Fight fight, Tokens t) {
            fight.clear();
            boolean wheelTold = false;
            for (int n = 0; n < MOST_BYTES && t.type != Tokens.END; n++) {
                if (t.isWord("wheel")) {
                    if (wheelTold) {
                        t.fail(3);
                    }
                    wheelTold = true;
                    t.step();
                    fight.wheel = t.takeNumber(LEAST_WHEEL, MOST_WHEEL);
                } else if (t.isWord("fighter")) {
                    readFighter(fight, t);
                } else {
                    t.fail(1);
                }
                t.takeSign(';');
            }
        }

        private static void readFighter(Fight fight, Tokens t) {
            if (fight.count >= MOST_FIGHTERS) {
                t.fail(5);
            }
            t.step();
            Fighter f = fight.at(fight.count);
            f.name = readNewName(fight, t);
            f.side = readSide(t);
            t.takeWord("speed");
            f.speed = t.takeNumber(1, MOST_SPEED);
            t.takeWord("life");
            f.life = t.takeNumber(1, MOST_LIFE);
            if (t.isWord("luck")) {
                t.step();
                f.luck = t.takeNumber(0, MOST_LUCK);
            }
            t.takeWord("plan");
            readPlan(f, t);
            fight.count++;
        }

        private static long readNewName(Fight fight, Tokens t) {
            if (t.type != Tokens.WORD) {
                t.fail(1);
            }
            if (fight.numberOf(t.word) != NONE) {
                t.fail(3);
            }
            long name = t.word;
            t.step();
            return name;
        }

        private static int readSide(Tokens t) {
            if (t.isWord("left")) {
                t.step();
                return 0;
            }
            t.takeWord("right");
            return 1;
        }

        private static void readPlan(Fighter f, Tokens t) {
            for (int n = 0; n <= MOST_ACTS && (n == 0 || !t.isSign(';')); n++) {
                int kind = Acts.kindHere(t);
                if (kind == NONE) {
                    t.fail(1);
                }
                if (n == MOST_ACTS) {
                    t.fail(5);
                }
                t.step();
                f.addAct(kind, t.takeNumber(1, Acts.mostOf(kind)));
            }
        }
    }

    /** A command of a script, or the end of a "repeat". */
    private static final class Command {
        static final int TURN = 0;
        static final int PUSH = 1;
        static final int LIFT = 2;
        static final int EXTRA = 3;
        static final int SPEED = 4;
        static final int HEAL = 5;
        static final int WHEEL = 6;
        static final int ACT = 7;
        static final int REPEAT = 8;
        static final int WORDS = 9;
        static final int BACK = 9;

        int what = 0;
        int fighter = 0;
        int number = 0;
        int actKind = 0;
        int actAmount = 0;
        /** Of a REPEAT: how often it is still to be done; of a BACK: where its REPEAT stands. */
        int left = 0;

        void become(int newWhat) {
            what = newWhat;
            fighter = 0;
            number = 0;
            actKind = 0;
            actAmount = 0;
            left = 0;
        }

        static String wordOf(int what) {
            switch (what) {
                case TURN: return "turn";
                case PUSH: return "push";
                case LIFT: return "lift";
                case EXTRA: return "extra";
                case SPEED: return "speed";
                case HEAL: return "heal";
                case WHEEL: return "wheel";
                case ACT: return "act";
                case REPEAT: return "repeat";
                default: return "";
            }
        }

        /** FINE unless the method would throw or answer false. */
        int faultOn(Fight fight) {
            Fighter f = fight.at(fighter);
            switch (what) {
                case TURN: return fight.faultOfPlay(number);
                case PUSH:
                case LIFT: return f.faultOfShift(number);
                case EXTRA: return f.extras >= MOST_EXTRAS ? BAD_STATE : f.faultOfExtra();
                case SPEED: return f.faultOfSpeed(number);
                case HEAL: return f.faultOfHeal(number);
                case WHEEL: return fight.faultOfWheel(number);
                case ACT: return f.faultOfAct(number, actKind, actAmount);
                default: return BAD_STATE;
            }
        }

        void applyTo(Fight fight) {
            Fighter f = fight.at(fighter);
            switch (what) {
                case TURN:
                    fight.playOn(number);
                    break;
                case PUSH:
                    f.loseGauge(number);
                    break;
                case LIFT:
                    f.gainGauge(number);
                    break;
                case EXTRA:
                    f.gainExtras(1);
                    break;
                case SPEED:
                    f.speed = number;
                    break;
                case HEAL:
                    f.gainLife(number);
                    break;
                case WHEEL:
                    fight.wheel = number;
                    break;
                case ACT:
                    f.putAct(number, actKind, actAmount);
                    break;
                default:
                    break;
            }
        }
    }

    /** The commands of the script that is read, in a row in which the end of a "repeat" leads back. */
    private static final class Script {
        private static final int MOST_TOLD = 30;
        private static final int MOST_OPEN = 2;
        private static final int MOST_TIMES = 20;
        private static final int MOST_NUMBER = 999;
        private static final int MOST_DONE = 40;
        private static final int MOST_STEPS = 1000000;

        private final Command[] commands = new Command[2 * MOST_TOLD];
        private final int[] opened = new int[MOST_OPEN];
        private int size = 0;
        private int told = 0;
        private int open = 0;

        Script() {
            for (int i = 0; i < commands.length; i++) {
                commands[i] = new Command();
            }
        }

        void readFrom(Tokens t, Fight fight) {
            size = 0;
            told = 0;
            open = 0;
            for (int n = 0; n < MOST_BYTES && t.type != Tokens.END; n++) {
                if (open > 0 && t.isSign(')')) {
                    t.step();
                    t.takeSign(';');
                    closeRepeat();
                } else {
                    readCommand(t, fight);
                }
            }
            if (open > 0) {
                t.fail(1);
            }
        }

        private void readCommand(Tokens t, Fight fight) {
            int what = whatHere(t);
            if (what == NONE) {
                t.fail(1);
            }
            if (what == Command.REPEAT && open >= MOST_OPEN) {
                t.fail(3);
            }
            if (told >= MOST_TOLD) {
                t.fail(5);
            }
            told++;
            t.step();
            Command c = added(what);
            if (what == Command.REPEAT) {
                c.number = t.takeNumber(1, MOST_TIMES);
                t.takeSign('(');
                openRepeat();
            } else {
                readArguments(c, t, fight);
                t.takeSign(';');
            }
        }

        private static int whatHere(Tokens t) {
            for (int what = 0; what < Command.WORDS; what++) {
                if (t.isWord(Command.wordOf(what))) {
                    return what;
                }
            }
            return NONE;
        }

        private static void readArguments(Command c, Tokens t, Fight fight) {
            if (c.what != Command.TURN && c.what != Command.WHEEL) {
                c.fighter = readName(t, fight);
            }
            if (c.what != Command.EXTRA) {
                c.number = t.takeNumber(0, MOST_NUMBER);
            }
            if (c.what == Command.ACT) {
                c.actKind = Acts.kindHere(t);
                if (c.actKind == NONE) {
                    t.fail(1);
                }
                t.step();
                c.actAmount = t.takeNumber(0, MOST_NUMBER);
            }
        }

        private static int readName(Tokens t, Fight fight) {
            if (t.type != Tokens.WORD) {
                t.fail(1);
            }
            int number = fight.numberOf(t.word);
            if (number == NONE) {
                t.fail(4);
            }
            t.step();
            return number;
        }

        private Command added(int what) {
            int at = Math.max(0, Math.min(size, commands.length - 1));
            size = at + 1;
            commands[at].become(what);
            return commands[at];
        }

        private void openRepeat() {
            if (open >= 0 && open < opened.length) {
                opened[open] = size - 1;
                open++;
            }
        }

        private void closeRepeat() {
            if (open > 0 && open <= opened.length) {
                open--;
                added(Command.BACK).left = opened[open];
            }
        }

        /** How many commands were done. */
        int runOn(Fight fight) {
            int done = 0;
            int at = 0;
            for (int n = 0; n < MOST_STEPS && at >= 0 && at < size && at < commands.length; n++) {
                Command c = commands[at];
                at++;
                if (c.what == Command.REPEAT) {
                    c.left = c.number;
                } else if (c.what == Command.BACK) {
                    at = isToRepeat(c.left) ? c.left + 1 : at;
                } else if (done >= MOST_DONE || c.faultOn(fight) != FINE) {
                    return done;
                } else {
                    c.applyTo(fight);
                    done++;
                }
            }
            return done;
        }

        private boolean isToRepeat(int start) {
            if (start < 0 || start >= commands.length) {
                return false;
            }
            commands[start].left--;
            return commands[start].left > 0;
        }
    }

    /** What the latest changes changed, the oldest first. */
    private static final class History {
        private final Fight[] before = new Fight[MOST_KEPT];
        int size = 0;

        History() {
            for (int i = 0; i < before.length; i++) {
                before[i] = new Fight();
            }
        }

        void forget() {
            size = 0;
        }

        void keep(Fight fight) {
            if (size >= before.length) {
                dropOldest();
            }
            if (size >= 0 && size < before.length) {
                before[size].copyFrom(fight);
                size++;
            }
        }

        private void dropOldest() {
            Fight free = before[0];
            for (int i = 1; i < before.length; i++) {
                before[i - 1] = before[i];
            }
            before[before.length - 1] = free;
            size = before.length - 1;
        }

        boolean goBack(Fight fight) {
            if (size < 1 || size > before.length) {
                return false;
            }
            size--;
            fight.copyFrom(before[size]);
            return true;
        }
    }

    /** The latest report. */
    private static final class Sheet {
        private final byte[] bytes = new byte[MOST_REPORT];
        int length = 0;

        int byteAt(int i) {
            return i >= 0 && i < length && i < bytes.length ? bytes[i] & 255 : 0;
        }

        void write(Fight fight, int next) {
            length = 0;
            for (Fighter f : fight.all) {
                if (f.number < fight.count) {
                    writeLine(f, f.number == next);
                }
            }
        }

        private void writeLine(Fighter f, boolean isNext) {
            for (int i = 0; i < MOST_LETTERS && Words.letterAt(f.name, i) != 0; i++) {
                put(Words.letterAt(f.name, i));
            }
            put(' ');
            putNumber(f.life);
            put('/');
            putNumber(f.gauge);
            for (int i = 0; i < f.extras; i++) {
                put('+');
            }
            if (isNext) {
                put('*');
            }
            put('\n');
        }

        /** A number has four digits at most. */
        private void putNumber(int n) {
            if (n >= 1000) {
                put('0' + n / 1000 % 10);
            }
            if (n >= 100) {
                put('0' + n / 100 % 10);
            }
            if (n >= 10) {
                put('0' + n / 10 % 10);
            }
            put('0' + n % 10);
        }

        private void put(int b) {
            if (length >= 0 && length < bytes.length) {
                bytes[length] = (byte) b;
                length++;
            }
        }
    }
}
