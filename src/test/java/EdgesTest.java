import java.nio.file.Path;

/** The document's boundary cases, sentence by sentence; each of its sentences needs a test. */
final class EdgesTest {
    private final Checks checks;
    private final Sentences sentences;

    EdgesTest(Checks checks, String document) throws Exception {
        this.checks = checks;
        this.sentences = new Sentences(Path.of(document));
    }

    void run() {
        Edges edges = new Edges(checks, sentences);
        new HeadEdges(edges).run();
        new DayEdges(edges).run();
        new TextEdges(edges).run();
        new ReservoirEdges(edges).run();
        new RoofEdges(edges).run();
        new UserEdges(edges).run();
        new RainEdges(edges).run();
        new RunEdges(edges).run();
        new WhatIfEdges(edges).run();
        new StateEdges(edges).run();
        checks.begin("the document");
        for (String sentence : sentences.withoutTest()) {
            checks.hold(false, "no test names " + sentence);
        }
    }
}
