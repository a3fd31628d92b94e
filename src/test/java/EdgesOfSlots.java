/** Promises 67 to 69 and the term on slots, sentence by sentence. What a row has is seen by what fits it. */
final class EdgesOfSlots {
    private static final String NO_SLOTS = EdgesOfSeen.NO_SLOTS;

    private final Sentences s;

    private EdgesOfSlots(Sentences s) {
        this.s = s;
    }

    static void hold(Sentences s) {
        EdgesOfSlots edges = new EdgesOfSlots(s);
        edges.term();
        edges.row();
        edges.write();
        edges.widths();
        edges.paste();
        edges.beyond();
    }

    private void term() {
        s.of("SLOTS");
        s.says("have rows of numbers of 1, 2, 4 or 8 bytes (WIDTH 0 .. 3), at most 60, or nothing.");
        for (int slot = 0; slot < 4; slot++) {
            for (int width = 0; width < 4; width++) {
                s.all(new WidowRoads(), "write(" + slot + ",0,1)=-6 row(" + slot + "," + width + ",60)=0 write(" + slot
                        + ",59,1)=0 write(" + slot + ",60,1)=-7 row(" + slot + "," + width + ",61)=-2 count(11)=1");
            }
        }
        s.says("-2 (-1,000) is asked ahead of -5, -6.");
        s.refusesBehind(Histories::full, -2, "bridge(40)");
        s.refusesBehind(Histories::full, -2, "keeps(2)");
        s.refusesBehind(Histories::full, -2, "rate(0,41)");
        s.refusesBehind(Histories::full, -2, "rate(2,1)");
        s.refuses(-2, "faced(3,#)", "-1 2");
        s.refuses(-2, "griefs(3,#)", "-1 2");
        s.refuses(-2, "ask(3,#)", "-1 2");
        s.refuses(-2, "leaves(3,#)", "-1 2");
        s.refusesWithoutColony(-2, "undo()");
        s.refusesWithoutColony(-2, "laws(3)");
        s.refusesWithoutColony(-2, "back(3)");
        s.refusesWithoutColony(-2, "write(4,0,0)");
        s.refusesWithoutColony(-2, "paste(3,0,4,0,0)");
        s.refusesWithoutColony(-2, "paste(4,0,3,0,0)");
    }

    private void row() {
        s.of(67);
        s.says("A SLOT (0 .. 3) has a row of n numbers of a WIDTH, all 0 (in place of another one): 0.");
        s.all(new WidowRoads(), "row(0,0,0)=0 row(1,1,1)=0 row(2,2,59)=0 row(3,3,60)=0 count(11)=4 write(0,0,0)=-7"
                + " write(1,0,0)=0 write(1,1,0)=-7 write(2,58,0)=0 write(2,59,0)=-7 write(3,59,0)=0 write(3,60,0)=-7");
        // all 0 again, shorter and longer, of another width
        s.told(Colonies.TWO_YEARS, "row(0,0,3)=0 laws(0)=15 write(0,0,5)=0 laws(0)=-2 row(0,0,3)=0 laws(0)=15 write(0,2,10)=0"
                + " laws(0)=0 row(0,3,60)=0 laws(0)=15 write(0,59,33)=0 laws(0)=-2 row(0,1,57)=0 laws(0)=15 row(0,1,60)=0"
                + " laws(0)=15 row(0,0,0)=0 laws(0)=15 write(0,0,0)=-7");
        s.says("-2: there is no such SLOT or WIDTH (0 .. 3)");
        s.refuses(-2, "row(#,0,3)", NO_SLOTS);
        s.refuses(-2, "row(0,#,3)", "-1 -2147483648 4 5 8 2147483647");
        s.refuses(-2, "row(3,#,3)", "-1 4");
        s.says("or n is above 60");
        s.refuses(-2, "row(0,0,#)", "61 62 64 2147483647");
        s.refuses(-2, "row(3,0,#)", "61 2147483647");
        s.refusesBehind(WidowRoads::new, -2, "row(0,0,61)");
        s.says("-3, and the SLOT stays: n is below 0.");
        s.refuses(-3, "row(0,0,#)", "-1 -3 -60 -2147483648");
        s.refuses(-3, "row(1,3,#)", "-1");
        s.refuses(-3, "row(3,0,#)", "-1 -2147483648");
        s.refusesBehind(WidowRoads::new, -3, "row(0,0,-1)");
        s.refusesBehind(Histories::full, -3, "row(3,0,-1)");
        // what is no slot or width is asked ahead of it
        s.refuses(-2, "row(4,0,#)", "-1");
        s.refuses(-2, "row(0,4,#)", "-1");
        s.told(Colonies.TWO_YEARS, "row(0,0,3)=0 write(0,2,10)=0 laws(0)=0 row(0,0,-1)=-3 laws(0)=0 write(0,2,0)=0 laws(0)=15");
    }

    private void write() {
        s.of(68);
        s.says("Number i of the SLOT's row is v, cut to its WIDTH: 0.");
        s.told(Colonies.TWO_YEARS, "row(0,0,3)=0 write(0,0,1)=0 write(0,1,1)=0 write(0,2,12)=0 laws(0)=15 faced(0,1)=1"
                + " write(0,2,1)=0 faced(0,1)=14 row(1,0,3)=0 faced(0,1)=14 faced(1,1)=15");
        s.says("-2: there is no such SLOT");
        s.refuses(-2, "write(#,0,1)", NO_SLOTS);
        s.refuses(-2, "write(4,#,1)", "-1 60");
        s.refusesBehind(WidowRoads::new, -2, "write(4,0,1)");
        s.says("-6: it has nothing");
        s.refuses(-6, "write(3,#,1)", "0 -1 60");
        s.refusesBehind(WidowRoads::new, -6, "write(0,0,1)");
        s.says("-7: there is no such number.");
        s.refuses(-7, "write(0,#,1)", "-1 -2147483648 6 7 59 60 2147483647");
        s.refuses(-7, "write(1,#,1)", "0 -1 1");
        s.refuses(-7, "write(2,#,1)", "60 61 -1 64");
        s.refusesBehind(Histories::full, -7, "write(3,60,1)");
    }

    /** Of 1 and 2, with whole turns of each width more or less: they are cut away where the width is so small. */
    private void widths() {
        s.of(68);
        s.says("cut to its WIDTH");
        long[] turns = {1L << 8, 1L << 16, 1L << 32};
        for (int width = 0; width < 4; width++) {
            WidowRoads x = Due.told(Colonies.TWO_YEARS);
            s.is("row", x.row(0, width, 3), 0);
            for (int t = 0; t < turns.length; t++) {
                s.is("write", x.write(0, 0, 1 + turns[t]), 0);
                s.is("write", x.write(0, 2, 2 - turns[t]), 0);
                s.is("width " + width + ", turn " + t, x.laws(0), width <= t ? 15 : -2);
            }
            for (long v : new long[] {Long.MIN_VALUE, Long.MAX_VALUE, -1, 255, 65_535, 4_294_967_295L, 127, 128, -128, 32_768}) {
                x.row(0, width, 3);
                s.is("write", x.write(0, 1, v), 0);
                // cut, a step is 0 or none such: below 0 or above 40, whichever sign it has
                long mask = width == 3 ? -1L : (1L << (8 << width)) - 1;
                s.is("width " + width + ", step " + v, x.laws(0), (v & mask) == 0 ? 15 : -2);
            }
        }
    }

    private void paste() {
        s.of(69);
        s.says("So many numbers of a SLOT's row, from one on, are put to another one's (or its own), from one on, as they"
                + " were: 0.");
        s.told(Colonies.TWO_YEARS, "row(0,0,3)=0 write(0,0,1)=0 write(0,1,1)=0 write(0,2,12)=0 row(1,0,6)=0 faced(1,1)=15"
                + " paste(0,0,1,3,3)=0 faced(1,1)=1 faced(0,1)=1 write(0,2,1)=0 faced(1,1)=1 faced(0,1)=14"
                + " paste(1,3,0,0,3)=0 faced(0,1)=1");
        // all sixty; none; to the row's very end, none
        s.told(Colonies.TWO_YEARS, "row(0,3,60)=0 row(1,3,60)=0 write(0,57,1)=0 write(0,58,1)=0 write(0,59,12)=0"
                + " paste(0,0,1,0,0)=0 faced(1,1)=15 paste(0,60,1,60,0)=0 faced(1,1)=15 paste(0,0,1,0,60)=0 faced(1,1)=1"
                + " paste(1,0,1,0,60)=0 faced(1,1)=1 row(2,3,0)=0 row(3,3,0)=0 paste(2,0,3,0,0)=0 paste(2,0,2,0,0)=0");
        // within one row, on and back: as they were
        s.told(Colonies.TWO_YEARS, "row(0,2,9)=0 write(0,0,1)=0 write(0,1,1)=0 write(0,2,12)=0 paste(0,0,0,3,6)=0"
                + " row(1,2,3)=0 paste(0,3,1,0,3)=0 faced(1,1)=1 paste(0,6,1,0,3)=0 faced(1,1)=15");
        s.told(Colonies.TWO_YEARS, "row(0,2,9)=0 write(0,6,1)=0 write(0,7,1)=0 write(0,8,12)=0 paste(0,3,0,0,6)=0"
                + " row(1,2,3)=0 paste(0,3,1,0,3)=0 faced(1,1)=1 paste(0,0,1,0,3)=0 faced(1,1)=15");
        s.says("-2: there is no such SLOT");
        s.refuses(-2, "paste(#,0,0,0,1)", NO_SLOTS);
        s.refuses(-2, "paste(0,0,#,0,1)", NO_SLOTS);
        s.refuses(-2, "paste(#,0,#,0,1)", NO_SLOTS);
        s.refuses(-2, "paste(3,0,#,-1,-1)", "4 -1");
        s.says("-6: one has nothing");
        s.refuses(-6, "paste(3,0,0,0,#)", "0 1 -1 61");
        s.refuses(-6, "paste(0,0,3,0,#)", "0 1 -1 61");
        s.refuses(-6, "paste(3,0,3,0,#)", "0 1 -1");
        s.refusesBehind(WidowRoads::new, -6, "paste(0,0,0,0,0)");
        s.says("-8: they are not of one WIDTH");
        s.refuses(-8, "paste(0,0,2,0,#)", "0 1 3 -1 61 2147483647");
        s.refuses(-8, "paste(2,0,0,0,#)", "0 1 3 -1 61");
        s.refuses(-8, "paste(0,#,1,0,0)", "0 -1 99");
        for (int width = 0; width < 4; width++) {
            for (int other = 0; other < 4; other++) {
                s.all(new WidowRoads(), "row(0," + width + ",1)=0 row(1," + other + ",1)=0 paste(0,0,1,0,1)="
                        + (width == other ? 0 : -8));
            }
        }
    }

    private void beyond() {
        s.of(69);
        s.says("-7, and nothing happens: some are beyond their rows");
        s.refuses(-7, "paste(2,0,2,1,#)", "60 61 2147483647");
        s.refuses(-7, "paste(2,1,2,0,#)", "60 61 2147483647");
        s.refuses(-7, "paste(2,#,2,0,1)", "60 61 2147483647");
        s.refuses(-7, "paste(2,0,2,#,1)", "60 61 2147483647");
        s.refuses(-7, "paste(2,58,2,0,#)", "3 4");
        s.refuses(-7, "paste(2,0,2,58,#)", "3 4");
        s.refuses(-7, "paste(1,0,1,0,#)", "1 2");
        s.refuses(-7, "paste(2,#,2,#,#)", "2147483647 1073741824");
        // of rows unlike in length: beyond the one or the other
        s.told(Colonies.TWO_YEARS, "row(0,0,3)=0 row(1,0,6)=0 write(1,0,1)=0 write(1,1,1)=0 write(1,2,12)=0"
                + " paste(1,0,0,0,4)=-7 faced(0,1)=15 paste(1,0,0,1,3)=-7 faced(0,1)=15 paste(0,0,1,0,4)=-7 faced(1,1)=1"
                + " paste(0,1,1,0,3)=-7 faced(1,1)=1 paste(1,0,0,0,3)=0 faced(0,1)=1 paste(1,3,1,0,4)=-7 faced(1,1)=1");
        s.says("or a place or n is below 0.");
        s.refuses(-7, "paste(2,#,2,0,1)", "-1 -2147483648");
        s.refuses(-7, "paste(2,0,2,#,1)", "-1 -2147483648");
        s.refuses(-7, "paste(2,0,2,0,#)", "-1 -60 -2147483648");
        s.refuses(-7, "paste(2,#,2,0,0)", "-1");
        s.refuses(-7, "paste(2,0,2,#,0)", "-1");
        s.refuses(-7, "paste(2,60,2,60,#)", "-1 -60");
    }
}
