/**
 * Long runs of calls of every kind on one object. What a call changes is asked for by the calls that
 * show it; changes are undone, and snapshots saved and restored. A row is a call and its answer.
 */
public final class RunsTest {
    private static final String ONE_ZONE = """
        shelfCount = 0 | lotCount = 0 | addShelf 0 20 = 0 | addShelf 0 12 = 1 | addShelf 0 12 = 2 | shelfCount = 3 | roomOf 2 = 12 | lotsOn 2 = 0
        zoneOf 1 = 0 | shelfToCount 0 = 0 | shelfToCount 2 = 2
        shelfFor 0 12 = 1 | receive 2 10 0 4 = 0 | shelfOf 0 = 1 | roomOf 1 = 2 | lotsOn 1 = 1 | shelfFor 0 2 = 1 | shelfFor 0 3 = 2 | received = 10
        stored = 10 | available 2 = 10 | firstToShip 2 = 0 | lotByExpiry 0 = 0
        receive 2 9 0 2 = 1 | shelfOf 1 = 2 | lotByExpiry 0 = 1 | lotByExpiry 1 = 0 | firstToShip 2 = 1 | available 2 = 19 | meanVolume = 9.5
        fewestShelves 0 = 1 | fewestShelvesBySearch 0 = 1
        split 0 4 = 2 | shelfOf 2 = 1 | volumeOf 0 = 6 | volumeOf 2 = 4 | expiryOf 2 = 4 | parentCount 2 = 1 | lotsOn 1 = 2 | roomOf 1 = 2
        descendants 0 = 1 | descendsFrom 2 0 = true | recallSize 0 = 2 | shelfToCount 0 = 1 | line 2 = 2k2z0v4e4@1<0
        undoCount = 6 | saveSnapshot = 3 | mix 2 1 = 3 | isOnShelf 1 = false | isOnShelf 2 = false | volumeOf 3 = 13 | expiryOf 3 = 2
        shelfOf 3 = 0 | roomOf 0 = 7 | roomOf 1 = 6 | roomOf 2 = 12 | parentCount 3 = 2 | descendants 0 = 2 | descendantsByTable 0 = 2
        descendants 1 = 1 | descendsFrom 3 0 = true | descendsFrom 1 0 = false | recallSize 1 = 1 | line 3 = 3k2z0v13e2@0<2<1 | line 1 = 1k2z0v0e2-
        fewestShelves 0 = 1 | available 2 = 19 | firstToShip 2 = 3 | lotByExpiry 1 = 0 | meanVolume = 9.5 | stored = 19 | received = 19
        count 0 = 1 | countedDay 0 = 0 | countedDay 1 = NoSuchElement | shelfToCount 0 = 1 | shelfToCount 1 = 2 | shelfToCount 2 = 0
        pass 2 = 0 | day = 2 | isExpired 3 = false | isExpired 1 = false | pass 1 = 1 | day = 3 | isExpired 3 = true | isExpired 1 = true
        line 1 = 1k2z0v0e2!- | available 2 = 6 | firstToShip 2 = 0 | expiredShare = 0.5 | line 3 = 3k2z0v13e2!@0<2<1
        split 3 2 = UnsupportedOperation | denial = 3 | denialDetail = 3 | mix 0 3 = UnsupportedOperation | denial = 3 | denialDetail = 3
        move 3 1 = UnsupportedOperation | denialDetail = 3 | ship 2 7 = UnsupportedOperation | denial = 6 | denialDetail = 6
        undo = 7 | day = 2 | isExpired 3 = false | available 2 = 19 | undo = 6 | undo = 5 | shelfToCount 0 = 0 | countedDay 0 = NoSuchElement
        undo = 4 | lotCount = 3 | volumeOf 1 = 9 | volumeOf 2 = 4 | shelfOf 1 = 2 | descendants 0 = 1 | roomOf 0 = 20 | roomOf 1 = 2
        line 3 = NoSuchElement | line 1 = 1k2z0v9e2@2
        ship 2 13 = 2 | volumeOf 1 = 0 | volumeOf 0 = 2 | volumeOf 2 = 4 | shipped = 13 | stored = 6 | roomOf 0 = 20 | roomOf 1 = 6 | roomOf 2 = 12
        lotsOn 2 = 0 | firstToShip 2 = 0 | available 2 = 6 | recallSize 0 = 2 | line 0 = 0k2z0v2e4@1
        restoreSnapshot = 3 | undoCount = 0 | undo = IllegalState | volumeOf 1 = 9 | available 2 = 19 | shipped = 0 | recall 0 = 2 | heapSize = 2
        heaped = 10 | nextCompost = 0 | nextCompostByScan = 0 | stored = 9 | recallSize 0 = 0 | isOnShelf 2 = false | line 2 = 2k2z0v4e4h<0
        compost = 6 | composted = 6 | heaped = 4 | heapSize = 1 | nextCompost = 2 | volumeOf 0 = 0 | line 0 = 0k2z0v0e4- | descendants 0 = 1
        undoCount = 2 | meanVolume = 9.0 | expiredShare = 0.0 | fewestShelves 0 = 1
        """;

    private static final String THREE_ZONES = """
        addShelf 0 9 = 0 | addShelf 1 15 = 1 | addShelf 2 7 = 2 | shelfCount = 3 | receive 0 7 2 3 = 0 | receive 0 8 1 1 = 1 | receive 0 9 0 2 = 2
        lotByExpiry 0 = 1 | lotByExpiry 1 = 2 | lotByExpiry 2 = 0 | lotByExpiry 3 = NoSuchElement
        fewestShelves 0 = 1 | fewestShelves 1 = 1 | fewestShelves 2 = 1 | available 0 = 24 | firstToShip 0 = 1 | shelfFor 0 1 = NoSuchElement
        shelfFor 1 7 = 1 | shelfFor 1 8 = NoSuchElement | shelfFor 2 1 = NoSuchElement
        receive 1 7 1 5 = 3 | shelfOf 3 = 1 | roomOf 1 = 0 | receive 1 1 1 0 = UnsupportedOperation | denial = 2 | denialDetail = 1
        addShelf 1 8 = 3 | receive 1 1 1 0 = 4 | shelfOf 4 = 3 | lotsOn 3 = 1 | fewestShelves 1 = 2 | fewestShelvesBySearch 1 = 2
        shelfToCount 0 = 1 | shelfToCount 1 = 0 | shelfToCount 2 = 2 | shelfToCount 3 = 3 | count 1 = 2 | count 3 = 1 | shelfToCount 0 = 0
        shelfToCount 1 = 2 | shelfToCount 2 = 1 | shelfToCount 3 = 3 | countedDay 3 = 0 | countedDay 0 = NoSuchElement
        move 3 3 = 0 | roomOf 1 = 7 | roomOf 3 = 0 | shelfToCount 2 = 3 | shelfToCount 3 = 1 | fewestShelves 1 = 2 | move 4 1 = 6 | shelfOf 4 = 1
        roomOf 3 = 1 | shelfToCount 2 = 1 | move 3 0 = UnsupportedOperation | denial = 4 | denialDetail = 0 | move 3 4 = IndexOutOfBounds
        move 3 3 = 1
        mix 0 2 = UnsupportedOperation | denial = 4 | denialDetail = 0 | mix 1 3 = UnsupportedOperation | denial = 4 | denialDetail = 1
        mix 1 2 = UnsupportedOperation | denialDetail = 0
        pass 1 = 1 | isExpired 4 = true | expiredShare = 0.2 | available 1 = 7 | firstToShip 1 = 3 | ship 1 8 = UnsupportedOperation | denial = 6
        denialDetail = 7 | ship 1 7 = 1 | lotsOn 3 = 0 | isOnShelf 3 = false | shipped = 7 | line 3 = 3k1z1v0e5- | fewestShelves 1 = 1
        count 3 = 0 | shelfToCount 3 = 3 | countedDay 3 = 1 | pass 1 = 1 | available 0 = 16 | firstToShip 0 = 2 | isExpired 1 = true
        isExpired 2 = false | ship 0 10 = 2 | volumeOf 2 = 0 | volumeOf 0 = 6 | roomOf 0 = 9 | roomOf 2 = 1 | shipped = 17 | line 2 = 2k0z0v0e2-
        line 0 = 0k0z2v6e3@2
        recall 1 = 1 | recall 4 = 1 | heapSize = 2 | nextCompost = 1 | heaped = 9 | stored = 6 | lotsOn 1 = 0 | roomOf 1 = 15 | fewestShelves 1 = 0
        available 0 = 6 | meanVolume = 6.0 | expiredShare = 0.0 | undo = 7 | heapSize = 1 | lotsOn 1 = 1 | expiredShare = 0.5 | undo = 6 | undo = 5
        volumeOf 0 = 7 | volumeOf 2 = 9 | shipped = 7 | firstToShip 0 = 2 | roomOf 2 = 0
        text wait 1;recall 1;recall 4 = 24 | day = 2 | execute = 3 | day = 3 | heapSize = 2 | nextCompost = 1 | undoCount = 6 | available 0 = 7
        firstToShip 0 = 0 | undo = 5 | day = 2 | heapSize = 0 | undoCount = 5
        """;

    private static final String RECALLS = """
        addShelf 1 40 = 0 | receive 3 20 1 9 = 0 | split 0 5 = 1 | split 1 2 = 2 | split 0 5 = 3 | mix 1 3 = 4 | descendants 0 = 4
        descendantsByTable 0 = 4 | descendants 1 = 2 | descendants 3 = 1 | descendants 2 = 0 | recallSize 0 = 3 | recallSize 1 = 2
        recallSize 3 = 1 | recallSize 4 = 1
        descendsFrom 4 0 = true | descendsFrom 2 1 = true | descendsFrom 2 3 = false | descendsFrom 4 3 = true | descendsFrom 0 0 = false
        parentCount 4 = 2 | parentCount 2 = 1 | parentCount 0 = 0 | line 4 = 4k3z1v8e9@0<1<3 | line 2 = 2k3z1v2e9@0<1 | line 1 = 1k3z1v0e9-<0
        lotsOn 0 = 3 | meanVolume = 6.666666666666667 | roomOf 0 = 20
        saveSnapshot = 5 | recall 3 = 1 | heapSize = 1 | nextCompost = 4 | isOnShelf 4 = false | heaped = 8 | stored = 12 | recallSize 0 = 2
        recallSize 4 = 0 | split 4 1 = UnsupportedOperation | denial = 5 | denialDetail = 4 | mix 4 0 = UnsupportedOperation | denialDetail = 4
        move 4 0 = UnsupportedOperation | denial = 5 | line 4 = 4k3z1v8e9h<1<3 | shelfOf 4 = NoSuchElement
        recall 4 = 0 | heapSize = 1 | undoCount = 8 | recall 1 = 1 | heapSize = 2 | nextCompost = 4 | nextCompostByScan = 4 | heaped = 10
        stored = 10 | recallSize 0 = 1 | recall 0 = 1 | heapSize = 3 | nextCompost = 0 | stored = 0 | received = 20 | meanVolume = Arithmetic
        expiredShare = Arithmetic | fewestShelves 1 = 0 | available 3 = 0 | firstToShip 3 = NoSuchElement | lotByExpiry 0 = NoSuchElement
        shelfToCount 0 = 0 | lotsOn 0 = 0
        compost = 10 | nextCompost = 4 | nextCompostByScan = 4 | composted = 10 | heaped = 10 | volumeOf 0 = 0 | expiryOf 0 = 9
        line 0 = 0k3z1v0e9- | compost = 8 | composted = 18 | nextCompost = 2 | compost = 2 | heapSize = 0 | nextCompost = NoSuchElement
        nextCompostByScan = NoSuchElement | compost = UnsupportedOperation | denial = 7 | denialDetail = 0 | heaped = 0 | composted = 20
        received = 20
        undo = 7 | nextCompost = 2 | heaped = 2 | composted = 18 | volumeOf 2 = 2 | line 2 = 2k3z1v2e9h<1 | undo = 6 | nextCompost = 4
        volumeOf 4 = 8 | undo = 5 | nextCompost = 0 | heapSize = 3 | undo = 4 | isOnShelf 0 = true | stored = 10 | firstToShip 3 = 0 | heapSize = 2
        nextCompost = 4 | undo = 3 | isOnShelf 2 = true | heapSize = 1 | undo = 2 | heapSize = 1 | undo = 1 | isOnShelf 4 = true | heapSize = 0
        nextCompost = NoSuchElement | stored = 20 | undoCount = 1
        pass 10 = 3 | recallSize 0 = 3 | expiredShare = 1.0 | recall 0 = 3 | heapSize = 3 | heaped = 20 | nextCompost = 0 | line 4 = 4k3z1v8e9!h<1<3
        line 2 = 2k3z1v2e9!h<1 | compost = 10 | restoreSnapshot = 5 | day = 0 | heapSize = 0 | composted = 0 | isOnShelf 4 = true
        line 4 = 4k3z1v8e9@0<1<3 | stored = 20 | received = 20
        receive 3 8 1 9 = 5 | receive 0 8 1 3 = 6 | receive 0 8 1 3 = UnsupportedOperation | denial = 2 | denialDetail = 8 | lotCount = 7
        ship 3 12 = 2 | volumeOf 4 = 8 | volumeOf 0 = 0 | volumeOf 2 = 0 | roomOf 0 = 16 | recall 5 = 1 | recall 6 = 1 | recall 0 = 1
        nextCompost = 6 | compost = 8 | nextCompost = 4 | nextCompostByScan = 4 | compost = 8 | nextCompost = 5 | compost = 8
        nextCompost = NoSuchElement | compost = UnsupportedOperation | composted = 24 | shipped = 12 | received = 36 | stored = 0
        """;

    private static final String TEXTS = """
        faultPosition = NoSuchElement | denial = NoSuchElement | denialCause = NoSuchElement | lineCharacter 0 = IndexOutOfBounds | undoCount = 0
        undo = IllegalState | restoreSnapshot = IllegalState | text shelf 0 30;receive 4 9 0+2;split 0 4;mix 0&1 = 44 | execute = 4 | undoCount = 1
        lotCount = 3 | line 2 = 2k4z0v9e2@0<0<1 | shelfCount = 1 | roomOf 0 = 21 | received = 9 | available 4 = 9 | fewestShelves 0 = 1
        saveSnapshot = 3 | undo = 0 | shelfCount = 0 | lotCount = 0 | received = 0 | undoCount = 0 | undo = IllegalState | restoreSnapshot = 3
        lotCount = 3 | undoCount = 0 | volumeOf 2 = 9
        text receive 4 5 0+1;wait 1;ship 4 3;recall 2 = 40 | execute = 4 | day = 1 | heapSize = 1 | shipped = 3 | heaped = 9 | volumeOf 3 = 2
        firstToShip 4 = 3 | descendants 2 = 0 | undoCount = 1 | line 3 = 3k4z0v2e1@0 | lineCharacter 0 = 3 | lineCharacter 9 = @
        lineCharacter 10 = 0
        text compost;compost = 15 | execute = UnsupportedOperation | denial = 8 | denialDetail = 1 | denialCause = 7 | heapSize = 1 | composted = 0
        undoCount = 1 | faultPosition = NoSuchElement | text x = 1 | execute = IllegalArgument | faultPosition = 0 | denialCause = 7
        text compost;shelf 1 7;move 3>1 = 26 | execute = UnsupportedOperation | denialDetail = 2 | denialCause = 4 | shelfCount = 1 | heapSize = 1
        undo = 0 | day = 0 | heapSize = 0 | lotCount = 3 | shipped = 0 | undoCount = 0 | denialCause = 4 | faultPosition = 0
        """;

    private static final String TEXTS_AND_UNDO = """
        addShelf 0 30 = 0 | receive 4 9 0 2 = 0 | recall 0 = 1 | receive 4 2 0 1 = 1 | saveSnapshot = 2
        text compost;count 0;shelf 0 7;move 1>1 = 34 | execute = 4 | shelfCount = 2 | heapSize = 0 | countedDay 0 = 0 | shelfOf 1 = 1
        roomOf 0 = 30 | roomOf 1 = 5 | shelfToCount 0 = 1 | shelfToCount 1 = 0 | composted = 9 | nextCompost = NoSuchElement | undoCount = 5
        pass 1 = 0 | text wait 1;ship 4 1 = 15 | execute = UnsupportedOperation | denial = 8 | denialDetail = 1 | denialCause = 6 | day = 1
        isExpired 1 = false | text wait 0 = 6 | execute = UnsupportedOperation | denialDetail = 0 | denialCause = 9 | text recall 40;x = 11
        execute = IllegalArgument | faultPosition = 10 | denialCause = 9 | text recall 40 = 9 | execute = UnsupportedOperation | denialDetail = 0
        denialCause = 9 | undoCount = 6
        undo = 5 | day = 0 | undo = 4 | shelfCount = 1 | heapSize = 1 | composted = 0 | heaped = 9 | countedDay 0 = NoSuchElement | shelfOf 1 = 0
        denialCause = 9 | faultPosition = 10 | undoCount = 4 | text wa = 2 | undo = 3 | lotCount = 1 | received = 9 | text it 2 = 6 | execute = 1
        day = 2 | undoCount = 4 | denialCause = 9 | isExpired 0 = false | isExpired 1 = NoSuchElement | line 0 = 0k4z0v9e2h
        text shelf 2 5;receive 0 5 2+0 = 25 | execute = 2 | shelfCount = 2 | line 1 = 1k0z2v5e2@1 | text receive 0 1 2+0 = 15
        execute = UnsupportedOperation | denial = 8 | denialDetail = 0 | denialCause = 2 | addShelf 9 9 = IllegalArgument | denialCause = 2
        receive 0 1 2 0 = UnsupportedOperation | denial = 2 | denialDetail = 1 | denialCause = NoSuchElement
        restoreSnapshot = 2 | shelfCount = 1 | lotCount = 2 | day = 0 | denial = 2 | faultPosition = 10 | undoCount = 0 | line 1 = 1k4z0v2e1@0
        isOnShelf 0 = false | heapSize = 1
        """;

    private static final String TWENTY_LOTS = """
        addShelf 2 40 = 0 | addShelf 2 40 = 1 | receive 5 1 2 0 = 0 | receive 5 2 2 1 = 1 | receive 5 3 2 2 = 2 | receive 5 4 2 3 = 3
        receive 5 5 2 4 = 4 | receive 5 6 2 5 = 5 | receive 5 7 2 6 = 6 | receive 5 8 2 7 = 7 | lotsOn 0 = 8 | roomOf 0 = 4 | stored = 36
        fewestShelves 2 = 1 | receive 5 9 2 8 = UnsupportedOperation | denial = 1 | denialDetail = 8 | split 7 1 = UnsupportedOperation | denial = 1
        denialDetail = 8 | lotByExpiry 7 = 7 | lotByExpiry 8 = NoSuchElement
        ship 5 6 = 3 | firstToShip 5 = 3 | lotByExpiry 0 = 3 | lotsOn 0 = 5 | available 5 = 30 | meanVolume = 6.0 | receive 5 9 2 0 = 8
        firstToShip 5 = 8 | lotByExpiry 0 = 8 | shelfOf 8 = 0 | mix 8 7 = 9 | lotCount = 10 | line 9 = 9k5z2v17e0@0<8<7 | firstToShip 5 = 9
        lotByExpiry 1 = 3 | roomOf 0 = 1 | roomOf 1 = 40 | lotsOn 0 = 5 | fewestShelves 2 = 1
        receive 5 30 2 9 = 10 | shelfOf 10 = 1 | fewestShelves 2 = 2 | fewestShelvesBySearch 2 = 2 | move 10 0 = UnsupportedOperation | denial = 2
        denialDetail = 30 | move 9 1 = UnsupportedOperation | move 6 1 = 3 | denialDetail = 17 | roomOf 1 = 3 | roomOf 0 = 8
        shelfFor 2 14 = NoSuchElement | saveSnapshot = 11 | lotCount = 11
        recall 9 = 1 | recall 10 = 1 | recall 4 = 1 | heapSize = 3 | nextCompost = 10 | heaped = 52 | receive 5 1 2 0 = 11 | receive 5 1 2 0 = 12
        receive 5 1 2 0 = 13 | receive 5 1 2 0 = 14 | receive 5 1 2 0 = 15 | receive 5 1 2 0 = UnsupportedOperation | denial = 1 | denialDetail = 8
        lotCount = 16 | lotsOn 0 = 7 | lotsOn 1 = 1 | lotByExpiry 4 = 15 | lotByExpiry 5 = 3 | shelfToCount 0 = 0
        ship 5 5 = 5 | available 5 = 17 | receive 5 1 2 0 = 16 | receive 5 1 2 0 = 17 | receive 5 1 2 0 = 18 | receive 5 1 2 0 = 19
        denialDetail = 8 | lotCount = 20 | ship 5 3 = 3 | receive 5 1 2 0 = UnsupportedOperation | receive 5 1 2 0 = UnsupportedOperation
        denial = 1 | denialDetail = 20 | split 6 1 = UnsupportedOperation | denialDetail = 20 | mix 5 6 = UnsupportedOperation | denialDetail = 20
        line 19 = 19k5z2v1e0@0 | recallSize 19 = 1 | descendsFrom 19 0 = false
        undoCount = 8 | compost = 30 | compost = 17 | compost = 5 | composted = 52 | shipped = 14 | stored = 18 | received = 84 | pass 7 = 4
        expiredShare = 1.0 | available 5 = 0 | recall 19 = 1 | nextCompost = 19 | line 19 = 19k5z2v1e0!h | undo = 7 | undo = 6 | expiredShare = 0.0
        firstToShip 5 = 19 | undo = 5 | undo = 4 | undo = 3 | nextCompost = 10 | undoCount = 3
        restoreSnapshot = 11 | lotCount = 11 | volumeOf 10 = 30 | shelfOf 10 = 1 | shelfOf 9 = 0 | heapSize = 0 | received = 75 | recallSize 8 = 1
        descendants 7 = 1 | line 9 = 9k5z2v17e0@0<8<7 | undo = IllegalState | undoCount = 0 | receive 5 1 2 0 = 11 | lotCount = 12
        """;

    private static final String PACKED_SHELVES = """
        addShelf 0 10 = 0 | addShelf 0 10 = 1 | addShelf 0 12 = 2 | addShelf 1 5 = 3 | receive 0 6 0 9 = 0 | shelfOf 0 = 0 | receive 1 5 0 9 = 1
        shelfOf 1 = 1 | receive 2 5 0 9 = 2 | shelfOf 2 = 1 | receive 3 4 0 9 = 3 | shelfOf 3 = 0 | receive 4 4 0 9 = 4 | shelfOf 4 = 2
        fewestShelves 0 = 3 | fewestShelvesBySearch 0 = 3 | shelfFor 0 1 = 2 | shelfFor 0 2 = 2 | shelfFor 0 3 = 2 | shelfFor 0 8 = 2
        lotsOn 0 = 2 | lotsOn 1 = 2 | lotsOn 2 = 1 | shelfToCount 0 = 0 | shelfToCount 1 = 1 | shelfToCount 2 = 2 | shelfToCount 3 = 3 | count 0 = 2
        pass 1 = 0 | count 1 = 2 | pass 1 = 0 | count 2 = 1 | shelfToCount 0 = 3 | shelfToCount 1 = 0 | shelfToCount 2 = 1 | shelfToCount 3 = 2
        count 0 = 2 | shelfToCount 1 = 1 | shelfToCount 2 = 0 | shelfToCount 3 = 2 | countedDay 0 = 2 | countedDay 1 = 1
        move 4 2 = 8 | roomOf 1 = 0 | roomOf 2 = 8 | shelfToCount 1 = 1 | move 2 2 = 3 | denial = NoSuchElement | denialDetail = NoSuchElement
        split 2 2 = 5 | shelfOf 5 = 2 | move 5 2 = 3 | roomOf 2 = 3 | lotsOn 2 = 3 | move 3 2 = UnsupportedOperation | denialDetail = 4
        fewestShelves 0 = 3 | lotsOn 1 = 1 | shelfToCount 2 = 2
        receive 5 5 1 9 = 6 | fewestShelves 1 = 1 | fewestShelves 0 = 3 | ship 0 6 = 1 | fewestShelves 0 = 2 | fewestShelvesBySearch 0 = 2
        shelfFor 0 6 = 0 | shelfFor 0 10 = NoSuchElement | addShelf 0 20 = 4 | fewestShelves 0 = 1 | fewestShelvesBySearch 0 = 1 | undo = 7
        undo = 6 | fewestShelves 0 = 3 | undo = 5 | fewestShelves 1 = 0 | lotCount = 6 | firstToShip 0 = 0 | lotByExpiry 5 = 5
        recall 2 = 2 | heapSize = 2 | fewestShelves 0 = 2 | lotsOn 1 = 1 | lotsOn 2 = 1 | undo = 5 | heapSize = 0 | lotsOn 2 = 3 | pass 99 = 6
        expiredShare = 1.0 | fewestShelves 0 = 3 | roomOf 2 = 3 | move 0 0 = UnsupportedOperation | denial = 3 | denialDetail = 0 | count 2 = 3
        lotsOn 2 = 3 | countedDay 2 = 101 | undo = 6 | undo = 5 | expiredShare = 0.0 | countedDay 2 = 2 | day = 2 | undoCount = 5
        """;

    private static final String[] RUNS = {ONE_ZONE, THREE_ZONES, RECALLS, TEXTS, TEXTS_AND_UNDO, TWENTY_LOTS, PACKED_SHELVES};

    public static void main(String[] args) {
        for (int i = 0; i < RUNS.length; i++) {
            new Run("run " + i, RUNS[i]).toItsEnd();
            new Run("run " + i + ", each change undone and made again", RUNS[i]).withEachChangeTwice().toItsEnd();
            new Run("run " + i + ", with refused calls", RUNS[i]).withRefusedCalls().toItsEnd();
        }
        objectsByTurns();
        Check.finish("RunsTest");
    }

    /** Several objects are used by turns: none knows of the others. */
    private static void objectsByTurns() {
        Run[] runs = new Run[2 * RUNS.length];
        for (int i = 0; i < runs.length; i++) {
            runs[i] = new Run("object " + i + " by turns", RUNS[i % RUNS.length]);
        }
        boolean goesOn = true;
        for (int turn = 0; goesOn; turn++) {
            goesOn = false;
            for (int i = 0; i < runs.length; i++) {
                boolean late = i >= RUNS.length && turn < 5;
                goesOn |= late || runs[i].step();
            }
        }
    }
}
