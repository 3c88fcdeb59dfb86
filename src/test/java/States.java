/** Objects in the states that the document names as edges: empty, full, whole, with the bell on, with nobody left. */
final class States {
    private States() {
    }

    /** 6 MICE, 5 STEPS, 4 RATS, 6 SEEN, 8 that can be undone, both kept; MOUSE 0 is dead, 2 STEPS have one. */
    static BellTheCat full() {
        BellTheCat cat = Check.told("plain0 9 4;deaf1 8 3;coward2 7 2;brave3 6 1;plain4 5 0;deaf5 4 9;"
            + "step3;step4;step5;step6;step7;gain33");
        Check.tell(cat, "rat1 2 3;rat4 5 6;rat7 8 9;rat9 10 10");
        for (int s = 0; s < 5; s++) {
            cat.put(s, s);
        }
        cat.keep(0);
        Check.due("mouse 0 is caught", 0, cat.night(0));
        cat.keep(1);
        cat.put(0, 5);
        cat.clear();
        cat.put(0, 5);
        cat.put(1, 1);
        for (int i = 0; i < 6; i++) {
            cat.seen(4, 3);
        }
        Check.write(cat, "gain 5");
        return cat;
    }

    /** 2 MICE, who both live, do all 3 STEPS. */
    static BellTheCat whole() {
        BellTheCat cat = Check.told("plain2 30 1;brave1 40 2;step4;step0;step7");
        cat.put(0, 0);
        cat.put(1, 1);
        cat.put(2, 0);
        return cat;
    }

    /** One STEP lacks: the last, so that the others do not hide it. */
    static BellTheCat lacking() {
        BellTheCat cat = Check.told("plain2 30 1;brave1 40 2;step4;step0;step7");
        cat.put(0, 0);
        cat.put(1, 1);
        return cat;
    }

    /** The TEAM is WHOLE and the BELL on; only 0 is kept. */
    static BellTheCat belled() {
        BellTheCat cat = Check.told("plain9 1 1;plain9 2 2;step0;step9");
        cat.put(0, 0);
        cat.put(1, 1);
        cat.keep(0);
        Check.due("the bell is on", BellTheCat.NONE, cat.night(0));
        return cat;
    }

    /** The one MOUSE is dead. */
    static BellTheCat extinct() {
        BellTheCat cat = Check.told("plain0 10 5;step9");
        cat.put(0, 0);
        Check.due("mouse 0 is caught", 0, cat.night(0));
        return cat;
    }

    /** Who had TICKETS is dead; another lives without. */
    static BellTheCat ticketless() {
        BellTheCat cat = Check.told("plain0 10 5;plain0 20 0;step9");
        cat.put(0, 0);
        Check.due("mouse 0 is caught", 0, cat.night(0));
        return cat;
    }

    /** THE TEXT has 160 letters, and no FAULT. */
    static BellTheCat written() {
        BellTheCat cat = Check.told("plain2 30 1;step4");
        Check.write(cat, "step 3;".repeat(4) + "gain 77" + " ".repeat(125));
        Check.due("letters", 160, cat.count(10));
        return cat;
    }

    /** THE TEXT has a FAULT at its second CLAUSE. */
    static BellTheCat faulty() {
        BellTheCat cat = whole();
        cat.keep(1);
        cat.seen(0, 0);
        Check.write(cat, "house;step 16;gain 1");
        return cat;
    }
}
