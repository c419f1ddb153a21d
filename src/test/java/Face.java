/** Calls the face by name; every argument is a number. */
final class Face {
    private Face() {
    }

    static Object call(BathLeague x, String name, int... a) {
        switch (name) {
            case "addBath": return x.addBath();
            case "runTap": return x.runTap(a[0], a[1], a[2]);
            case "setPlug": return x.setPlug(a[0], a[1] == 1);
            case "pour": return x.pour(a[0], a[1], a[2]);
            case "addDuck": return x.addDuck(a[0], a[1], a[2]);
            case "join": return x.join(a[0]);
            case "leave": return x.leave(a[0]);
            case "advance": return x.advance(a[0]);
            case "bathCount": return x.bathCount();
            case "volume": return x.volume(a[0]);
            case "heat": return x.heat(a[0]);
            case "temperature": return x.temperature(a[0]);
            case "exactTemperature": return x.exactTemperature(a[0]);
            case "isWarmer": return x.isWarmer(a[0], a[1]);
            case "isPlugged": return x.isPlugged(a[0]);
            case "bathByTemperature": return x.bathByTemperature(a[0]);
            case "litresToReach": return x.litresToReach(a[0], a[1], a[2]);
            case "litresToReachByFormula": return x.litresToReachByFormula(a[0], a[1], a[2]);
            case "isMember": return x.isMember(a[0]);
            case "memberCount": return x.memberCount();
            case "leagueHeat": return x.leagueHeat();
            case "leagueHeatByOthers": return x.leagueHeatByOthers();
            case "warmestMember": return x.warmestMember();
            case "coldestMember": return x.coldestMember();
            case "sharedHeat": return x.sharedHeat();
            case "ticksUntilDefection": return x.ticksUntilDefection(a[0]);
            case "heatAfter": return x.heatAfter(a[0], a[1]);
            case "duckCount": return x.duckCount();
            case "observedBath": return x.observedBath(a[0]);
            case "lowerBound": return x.lowerBound(a[0]);
            case "upperBound": return x.upperBound(a[0]);
            case "isContent": return x.isContent(a[0]);
            case "quacks": return x.quacks(a[0]);
            case "duckByQuacks": return x.duckByQuacks(a[0]);
            default: return callRecords(x, name, a);
        }
    }

    private static Object callRecords(BathLeague x, String name, int... a) {
        switch (name) {
            case "eventCount": return x.eventCount();
            case "eventKind": return x.eventKind(a[0]);
            case "eventBath": return x.eventBath(a[0]);
            case "eventLitres": return x.eventLitres(a[0]);
            case "time": return x.time();
            case "defectionTotal": return x.defectionTotal();
            case "tappedLitres": return x.tappedLitres();
            case "drainedLitres": return x.drainedLitres();
            case "tappedHeat": return x.tappedHeat();
            case "lostHeat": return x.lostHeat();
            case "contentShare": return x.contentShare();
            case "isConsistent": return x.isConsistent();
            case "renderBath": return x.renderBath(a[0]);
            case "outputAt": return x.outputAt(a[0]);
            case "type": return x.type((char) a[0]);
            case "runScript": return x.runScript();
            case "errorPosition": return x.errorPosition();
            case "failedCommand": return x.failedCommand();
            case "undo": return x.undo();
            case "save": return x.save();
            case "restore": return x.restore();
            default: throw new UnsupportedOperationException("the face has no " + name);
        }
    }
}
