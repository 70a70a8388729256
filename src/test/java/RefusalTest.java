import java.util.ArrayList;
import java.util.List;
import java.util.function.Consumer;
import java.util.function.Supplier;
import java.util.function.ToIntFunction;

/**
 * A refused call changes nothing at all, and neither does a getter: all getters answer after it as before, and the bus
 * then goes on as its twin does that was never asked, which would show a change that no getter tells.
 */
public final class RefusalTest {
    private static final int LOW = Integer.MIN_VALUE;
    private static final int HIGH = Integer.MAX_VALUE;
    private static final int[] NOT_MANAGERS = {LOW, -1, 2, HIGH};
    private static final int FALSE = 0;

    private record Call(String name, ToIntFunction<IdInterconnect> run) {
    }

    private record Scene(String name, Supplier<Watched> make) {
    }

    private static final List<Scene> SCENES = List.of(
        new Scene("a new bus", Scenes::fresh),
        new Scene("a new bus, dressed", () -> Scenes.dress(Scenes.fresh())),
        new Scene("a narrow bus", Scenes::narrow),
        new Scene("a waiting bus", Scenes::waiting),
        new Scene("a busy bus", Scenes::busy),
        new Scene("a full bus", Scenes::full),
        new Scene("a worn bus", Scenes::worn),
        new Scene("a piled up bus", () -> Scenes.dress(Scenes.piled())));

    private RefusalTest() {
    }

    public static void main(String[] args) {
        wrongIssues(false);
        wrongIssues(true);
        fullQueues(false);
        fullQueues(true);
        heldSlots(false);
        heldSlots(true);
        wrongData();
        fullData();
        wrongLatencies();
        wrongReady();
        wrongSteps();
        getters();
        Due.end();
    }

    // What is refused

    private static void wrongIssues(boolean write) {
        Due.sentence(write ? "promise 3" : "promise 2", "A refused call changes nothing at all", "ERR_ARG");
        List<Call> calls = new ArrayList<>();
        for (int m : NOT_MANAGERS) {
            calls.add(issue(write, m, 0, 0, 1));
        }
        for (int m = 0; m < 2; m++) {
            for (int id : new int[] {LOW, -1, 4, HIGH}) {
                calls.add(issue(write, m, id, 0, 1));
            }
            for (int addr : new int[] {LOW, -1, 32, HIGH}) {
                calls.add(issue(write, m, 0, addr, 1));
            }
            for (int len : new int[] {LOW, 0, 5, HIGH}) {
                calls.add(issue(write, m, 0, 0, len));
            }
            for (int len = 2; len <= 4; len++) {
                calls.add(issue(write, m, 0, 8 * len - 8 + 9 - len, len));
            }
        }
        everywhere(calls, IdInterconnect.ERR_ARG);
    }

    private static Call issue(boolean write, int m, int id, int addr, int len) {
        String name = (write ? "issueWrite(" : "issueRead(") + m + ", " + id + ", " + addr + ", " + len + ")";
        return new Call(name, x -> write ? x.issueWrite(m, id, addr, len) : x.issueRead(m, id, addr, len));
    }

    private static void fullQueues(boolean write) {
        Due.sentence(write ? "promise 3" : "promise 2", "A refused call changes nothing at all", "ERR_FULL");
        for (int m = 0; m < 2; m++) {
            int manager = m;
            List<Scene> scenes = List.of(
                new Scene("a new bus, one queue full", () -> fill(Scenes.fresh(), write, manager)),
                new Scene("a waiting bus, one queue full", () -> fill(Scenes.waiting(), write, manager)),
                new Scene("a busy bus, one queue full", () -> fill(Scenes.busy(), write, manager)),
                new Scene("a full bus", () -> Scenes.dress(Scenes.full())));
            for (Scene scene : scenes) {
                for (int id = 0; id < 4; id++) {
                    refuse(scene, issue(write, m, id, 8 * id, 1 + id), IdInterconnect.ERR_FULL);
                }
            }
        }
    }

    private static Watched fill(Watched x, boolean write, int m) {
        for (int i = 0; i < 4; i++) {
            x.issue(write, m, i, 8 * i, 2);
        }
        return Scenes.dress(x);
    }

    private static void heldSlots(boolean write) {
        Due.sentence(write ? "promise 3" : "promise 2", "A refused call changes nothing at all", "ERR_SLOT");
        List<Scene> scenes = new ArrayList<>();
        scenes.add(new Scene("a piled up bus", () -> Scenes.dress(Scenes.piled())));
        for (int state : new int[] {IdInterconnect.ST_QUEUED, IdInterconnect.ST_ACTIVE}) {
            for (int kind = 0; kind < 2; kind++) {
                boolean zero = kind == 1;
                scenes.add(new Scene("ticket 0 in state " + state, () -> Scenes.dress(Scenes.ticketZero(state, zero))));
            }
        }
        for (Scene scene : scenes) {
            for (int m = 0; m < 2; m++) {
                refuse(scene, issue(write, m, 0, 0, 1), IdInterconnect.ERR_SLOT);
                refuse(scene, issue(write, m, 3, 28, 4), IdInterconnect.ERR_SLOT);
            }
        }
    }

    private static void wrongData() {
        Due.sentence("promise 4", "answers false, changing nothing, if m is not in 0..1");
        List<Call> calls = new ArrayList<>();
        for (int m : NOT_MANAGERS) {
            for (int value : new int[] {LOW, 0, 77, HIGH}) {
                calls.add(writeData(m, value));
            }
        }
        everywhere(calls, FALSE);
    }

    private static Call writeData(int m, int value) {
        return new Call("writeData(" + m + ", " + value + ")", x -> x.writeData(m, value) ? 1 : 0);
    }

    private static void fullData() {
        Due.sentence("promise 4", "answers false, changing nothing, if .. m's W queue already holds 8 values");
        for (int m = 0; m < 2; m++) {
            int manager = m;
            List<Scene> scenes = List.of(
                new Scene("a new bus, one W queue full", () -> fillData(Scenes.fresh(), manager)),
                new Scene("a waiting bus, one W queue full", () -> fillData(Scenes.waiting(), manager)),
                new Scene("a worn bus, one W queue full", () -> fillData(Scenes.worn(), manager)),
                new Scene("a busy bus, dressed", () -> Scenes.dress(Scenes.busy())),
                new Scene("a piled up bus", () -> Scenes.dress(Scenes.piled())),
                new Scene("a full bus", () -> Scenes.dress(Scenes.full())));
            for (Scene scene : scenes) {
                for (int value : new int[] {LOW, 0, 77, HIGH}) {
                    refuse(scene, writeData(m, value), FALSE);
                }
            }
        }
    }

    private static Watched fillData(Watched x, int m) {
        for (int i = 0; i < 8; i++) {
            x.writeData(m, 600 + i);
        }
        return x;
    }

    private static void wrongLatencies() {
        Due.sentence("promise 5", "It answers false, changing nothing");
        List<Call> calls = new ArrayList<>();
        for (int s : new int[] {LOW, -1, 3, 4, HIGH}) {
            calls.add(setLatency(s, 0, 11));
            calls.add(setLatency(s, 3, 11));
        }
        for (int s = 0; s < 3; s++) {
            for (int idx : new int[] {LOW, -1, 4, HIGH}) {
                calls.add(setLatency(s, idx, 11));
            }
            for (int lat : new int[] {LOW, -1, 0, 16, HIGH}) {
                for (int idx = 0; idx < 4; idx++) {
                    calls.add(setLatency(s, idx, lat));
                }
            }
        }
        everywhere(calls, FALSE);
    }

    private static Call setLatency(int s, int idx, int lat) {
        return new Call("setLatency(" + s + ", " + idx + ", " + lat + ")", x -> x.setLatency(s, idx, lat) ? 1 : 0);
    }

    private static void wrongReady() {
        Due.sentence("promise 6", "It answers false, changing nothing, if m is not in 0..1");
        List<Call> calls = new ArrayList<>();
        for (int m : NOT_MANAGERS) {
            for (int flags = 0; flags < 4; flags++) {
                boolean b = (flags & 1) != 0;
                boolean r = (flags & 2) != 0;
                calls.add(new Call("setReady(" + m + ", " + b + ", " + r + ")", x -> x.setReady(m, b, r) ? 1 : 0));
            }
        }
        everywhere(calls, FALSE);
    }

    private static void wrongSteps() {
        Due.sentence("promise 7", "It answers false, changing nothing, if n is not in 1..MAX_STEPS");
        List<Call> calls = new ArrayList<>();
        for (int n : new int[] {LOW, -64, -1, 0, 65, 128, HIGH}) {
            calls.add(new Call("step(" + n + ")", x -> x.step(n) ? 1 : 0));
        }
        everywhere(calls, FALSE);
    }

    private static void everywhere(List<Call> calls, int due) {
        for (Scene scene : SCENES) {
            for (Call call : calls) {
                refuse(scene, call, due);
            }
        }
    }

    private static void refuse(Scene scene, Call call, int due) {
        String when = call.name + " on " + scene.name;
        IdInterconnect x = scene.make.get().bus;
        Answers before = Answers.of(x);
        Due.is(when, call.run.applyAsInt(x), due);
        Answers.of(x).mustBe("after " + when, before);
        goesOnAsTwin(when, scene, bus -> call.run.applyAsInt(bus));
    }

    /** Each way of going on starts anew, since it may hide what another one shows. */
    private static void goesOnAsTwin(String when, Scene scene, Consumer<IdInterconnect> calls) {
        for (int way = 0; way < 3; way++) {
            IdInterconnect x = scene.make.get().bus;
            Watched twin = scene.make.get();
            calls.accept(x);
            switch (way) {
                case 0 -> Twins.goOn(when, x, twin.bus, twin.tickets());
                case 1 -> Twins.pileUp(when, x, twin.bus, twin.tickets());
                default -> Twins.drain(when, x, twin.bus, twin.tickets());
            }
        }
    }

    // Getters

    private static void getters() {
        for (Scene scene : SCENES) {
            Due.sentence("promise 8", "It changes nothing");
            asks(scene, "cycle", (x, i) -> x.cycle());
            Due.sentence("promise 9", "It changes nothing");
            asks(scene, "status", IdInterconnect::status);
            Due.sentence("promise 10", "It changes nothing");
            asks(scene, "beats", IdInterconnect::beats);
            Due.sentence("promise 11", "It changes nothing");
            for (int beat : new int[] {LOW, -1, 0, 1, 2, 3, 4, HIGH}) {
                asks(scene, "readData", (x, t) -> x.readData(t, beat));
            }
            Due.sentence("promise 12", "Neither method changes anything");
            asks(scene, "doneOrder", IdInterconnect::doneOrder);
            asks(scene, "doneCycle", IdInterconnect::doneCycle);
            Due.sentence("promise 13", "Neither changes anything");
            asks(scene, "outstanding", IdInterconnect::outstanding);
            asks(scene, "subLoad", IdInterconnect::subLoad);
            Due.sentence("promise 14", "It changes nothing");
            asks(scene, "pendingData", IdInterconnect::pendingData);
            Due.sentence("promise 15", "It changes nothing");
            asks(scene, "memory", IdInterconnect::memory);
        }
    }

    private interface Getter {
        int ask(IdInterconnect x, int argument);
    }

    private static void asks(Scene scene, String name, Getter getter) {
        goesOnAsTwin(name + " on " + scene.name, scene, bus -> askAll(bus, name, getter));
    }

    private static void askAll(IdInterconnect x, String name, Getter getter) {
        for (int argument = -35; argument <= 110; argument++) {
            int first = getter.ask(x, argument);
            Due.is(name + "(" + argument + ") asked again", getter.ask(x, argument), first);
        }
        getter.ask(x, LOW);
        getter.ask(x, HIGH);
    }
}
