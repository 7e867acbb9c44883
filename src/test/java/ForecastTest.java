/** Promises 25 to 30: forecasts. */
final class ForecastTest {
    public static void main(String[] args) {
        forecasts();
        likeDays();
        nothingChanges();
        beyondTheLastDay();
        hands();
        swaps();
        Due.end();
    }

    private static void forecasts() {
        SlipArchive x = new SlipArchive();
        x.slip(0, 4);
        x.slip(1, 2);
        x.slip(1, 1);
        x.slip(0, 1);
        Due.same("servedIn(0)", 3, x.servedIn(0));
        Due.same("servedIn(1)", 4, x.servedIn(1));
        Due.same("servedIn(2)", 1, x.servedIn(2));
        Due.same("servedIn(3): never back", -1, x.servedIn(3));
        Due.same("servedIn(4): no such place", -1, x.servedIn(4));
        Due.same("servedIn(-1)", -1, x.servedIn(-1));
        int[] served = {0, 1, 1, 2, 3, 3};
        for (int days = 0; days < served.length; days++) {
            Due.same("servedBy(" + days + ")", served[days], x.servedBy(days));
            Due.same("waitingIn(" + days + ")", 4 - served[days], x.waitingIn(days));
        }
        Due.same("servedBy(60)", 3, x.servedBy(60));
        Due.same("waitingIn(60)", 1, x.waitingIn(60));
        Due.illegal("servedBy(-1)", () -> x.servedBy(-1));
        Due.illegal("servedBy(61)", () -> x.servedBy(61));
        Due.illegal("waitingIn(-1)", () -> x.waitingIn(-1));
        Due.illegal("waitingIn(61)", () -> x.waitingIn(61));
    }

    private static void likeDays() {
        SlipArchive x = Due.made("archive 4 2 3 2;folder 8;folder 3 until 60;folder 9 until 63;folder 1;folder 5;");
        x.slip(0, 0);
        x.days(3);
        x.giveBack(0);
        x.slip(1, 0);
        x.slip(0, 1);
        x.slip(0, 3);
        x.slip(2, 2);
        x.slip(2, 4);
        Due.same("served on the 57th day", 57, x.servedIn(1));
        Due.same("served on the 60th day", 60, x.servedIn(3));
        x.setEmbargo(2, 64);
        Due.same("not served within 60 days", -1, x.servedIn(3));
        x.setEmbargo(2, 63);
        int all = x.servedBy(60);
        int waiting = x.waitingIn(60);
        Due.same("days like servedBy", all, x.days(60));
        Due.same("days like waitingIn", waiting, x.size(9));
    }

    private static void nothingChanges() {
        SlipArchive x = new SlipArchive();
        x.slip(0, 4);
        x.slip(1, 2);
        String state = Due.state(x);
        x.servedIn(0);
        x.servedBy(60);
        x.waitingIn(60);
        x.servedWith(6);
        x.missedAfter(99);
        Due.same("state behind forecasts", state, Due.state(x));
        Due.same("accounts behind forecasts", "2 0 0", Due.lasting(x));
        Due.same("undoCount behind forecasts", 2, x.undoCount());
        Due.same("no snapshot behind forecasts", 0, x.restoreSnapshot() ? 1 : 0);
    }

    private static void beyondTheLastDay() {
        SlipArchive x = Due.made("archive 7 1 1 1;folder 2;folder 1;folder 3;");
        for (int i = 0; i < 16; i++) {
            x.days(60);
        }
        x.days(39);
        Due.same("the last day", 999, x.size(0));
        x.slip(0, 1);
        Due.same("servedIn beyond DAY 999", 1, x.servedIn(0));
        Due.same("servedBy(60) beyond DAY 999", 1, x.servedBy(60));
        Due.same("waitingIn(60) beyond DAY 999", 0, x.waitingIn(60));
        Due.same("servedWith beyond DAY 999", 1, x.servedWith(1));
        Due.same("days beyond DAY 999", -2, x.days(1));
    }

    private static void hands() {
        SlipArchive x = Due.made("archive 14 1 8 5;folder 10;folder 9;folder 8;folder 7;folder 6;folder 5;");
        for (int i = 0; i < 6; i++) {
            x.slip(i, i);
        }
        // the one hand searches three times for each of 10, 9 and 8, as each is missed twice
        int[] served = {3, 6, 6, 6, 6, 6};
        for (int hands = 1; hands <= 6; hands++) {
            Due.same("servedWith(" + hands + ")", served[hands - 1], x.servedWith(hands));
        }
        Due.same("servedBy(10) with the hands that there are", served[0], x.servedBy(10));
        SlipArchive y = Due.made("archive 14 1 2 2;folder 1;folder 2 until 10;folder 3 until 11;");
        y.slip(0, 0);
        y.slip(0, 1);
        y.slip(1, 2);
        Due.same("servedWith looks at 10 days", 2, y.servedWith(6));
        Due.illegal("servedWith(0)", () -> x.servedWith(0));
        Due.illegal("servedWith(7)", () -> x.servedWith(7));
    }

    private static void swaps() {
        SlipArchive x = Due.made("archive 1 1 1 1;folder 40;folder 30;folder 20;folder 10;");
        Due.same("swapsLeft()", 6, x.swapsLeft());
        int[] missed = {3, 2, 2, 1, 1, 1, 0, 0};
        for (int swaps = 0; swaps < missed.length; swaps++) {
            Due.same("missedAfter(" + swaps + ")", missed[swaps], x.missedAfter(swaps));
        }
        Due.same("missedAfter(99)", 0, x.missedAfter(99));
        Due.illegal("missedAfter(-1)", () -> x.missedAfter(-1));
        Due.illegal("missedAfter(100)", () -> x.missedAfter(100));
        for (int swaps = 1; swaps < missed.length; swaps++) {
            Due.same("check(1)", swaps <= 6 ? 1 : 0, x.check(1));
            Due.same("missed()", missed[swaps], x.missed());
        }
    }
}
