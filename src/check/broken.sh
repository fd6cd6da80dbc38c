#!/bin/bash
# Breaks the class by one sentence at a time and looks whether the test of that sentence fails: see broken.txt.
cd "$(dirname "$0")/../.." || exit 1
out=$(mktemp -d) || exit 1
trap 'rm -rf "$out"' EXIT
mkdir "$out/tests" "$out/tool"
javac -encoding UTF-8 -d "$out/tests" src/main/java/IronStairs.java src/test/java/*.java &&
  javac -encoding UTF-8 -Xlint:all -d "$out/tool" src/check/BrokenSentences.java &&
  java -cp "$out/tool" BrokenSentences src/main/java/IronStairs.java src/check/broken.txt "$out/tests"
