/-! the methods: name, bytes, locals, answer, static, parameters; the places of their words (by wip/whole/mk_meth.py) -/
def sm_all {α : Type} (P : α → Prop) : List α → Prop
  | [] => True
  | a :: l => P a ∧ sm_all P l
theorem sm_all_at {α : Type} {P : α → Prop} : ∀ {l : List α}, sm_all P l → ∀ {i : Nat} {a : α}, l[i]? = some a → P a
  | [], _, i, a, h => by simp at h
  | b :: l, hp, 0, a, h => by
    rw [List.getElem?_cons_zero] at h
    cases h
    exact hp.1
  | b :: l, hp, i + 1, a, h => by
    rw [List.getElem?_cons_succ] at h
    exact sm_all_at hp.2 h
theorem sm_all_app {α : Type} {P : α → Prop} : ∀ {l r : List α}, sm_all P l → sm_all P r → sm_all P (l ++ r)
  | [], _, _, h => h
  | _ :: _, _, h, k => ⟨h.1, sm_all_app h.2 k⟩
abbrev sm_Y : Type := MethodName × ByteArray × Nat × Option FieldType × Bool × Nat
def sm_ml_0 : List sm_Y := [(⟨"java/lang/Integer", "bitCount", "(I)I"⟩, prog_15_method_49_code, 1, some .int, true, 1),
  (⟨"java/lang/Integer", "numberOfTrailingZeros", "(I)I"⟩, prog_15_method_48_code, 2, some .int, true, 1),
  (⟨"java/util/Arrays", "fill", "([II)V"⟩, prog_21_method_103_code, 4, none, true, 2),
  (⟨"WhatWasNearly$Standing", "<init>", "()V"⟩, prog_9_method_1_code, 1, none, false, 0),
  (⟨"WhatWasNearly$Standing", "copyFrom", "(LWhatWasNearly$Standing;)V"⟩, prog_9_method_2_code, 2, none, false, 1),
  (⟨"WhatWasNearly$Standing", "goBackTo", "(LWhatWasNearly$Standing;)V"⟩, prog_9_method_3_code, 3, none, false, 1),
  (⟨"WhatWasNearly$Standing", "piecesIn", "(I)I"⟩, prog_9_method_4_code, 4, some .int, false, 1),
  (⟨"WhatWasNearly$Standing", "emptyRooms", "()I"⟩, prog_9_method_5_code, 3, some .int, false, 0),
  (⟨"WhatWasNearly$Standing", "neighbours", "()I"⟩, prog_9_method_6_code, 4, some .int, false, 0),
  (⟨"WhatWasNearly$Needs", "<init>", "()V"⟩, prog_6_method_1_code, 1, none, false, 0),
  (⟨"WhatWasNearly$Needs", "require", "(IIII)V"⟩, prog_6_method_2_code, 5, none, false, 4),
  (⟨"WhatWasNearly$Needs", "copyFrom", "(LWhatWasNearly$Needs;)V"⟩, prog_6_method_3_code, 2, none, false, 1),
  (⟨"WhatWasNearly$Needs", "addChoice", "(IZ)V"⟩, prog_6_method_4_code, 3, none, false, 2),
  (⟨"WhatWasNearly$Needs", "addEvent", "(IZ)V"⟩, prog_6_method_5_code, 3, none, false, 2),
  (⟨"WhatWasNearly$Needs", "metBy", "(II)Z"⟩, prog_6_method_6_code, 3, some .boolean, false, 2),
  (⟨"WhatWasNearly$Text", "<init>", "()V"⟩, prog_12_method_1_code, 1, none, false, 0),
  (⟨"WhatWasNearly$Text", "clear", "()V"⟩, prog_12_method_2_code, 1, none, false, 0),
  (⟨"WhatWasNearly$Text", "addTerm", "(II)V"⟩, prog_12_method_3_code, 3, none, false, 2),
  (⟨"WhatWasNearly$Text", "addClause", "(III)V"⟩, prog_12_method_4_code, 4, none, false, 3),
  (⟨"WhatWasNearly$Steps", "<init>", "()V"⟩, prog_10_method_1_code, 2, none, false, 0),
  (⟨"WhatWasNearly$Steps", "push", "(LWhatWasNearly$Standing;)V"⟩, prog_10_method_2_code, 3, none, false, 1),
  (⟨"WhatWasNearly$Steps", "pop", "(LWhatWasNearly$Standing;)Z"⟩, prog_10_method_3_code, 2, some .boolean, false, 1),
  (⟨"WhatWasNearly$Steps", "copyFrom", "(LWhatWasNearly$Steps;)V"⟩, prog_10_method_4_code, 3, none, false, 1),
  (⟨"WhatWasNearly$Museum", "<init>", "()V"⟩, prog_5_method_1_code, 2, none, false, 0),
  (⟨"WhatWasNearly$Museum", "copyFrom", "(LWhatWasNearly$Museum;)V"⟩, prog_5_method_2_code, 3, none, false, 1),
  (⟨"WhatWasNearly$Museum", "wayCount", "()I"⟩, prog_5_method_3_code, 1, some .int, false, 0),
  (⟨"WhatWasNearly$Museum", "isWay", "(I)Z"⟩, prog_5_method_4_code, 2, some .boolean, false, 1),
  (⟨"WhatWasNearly$Museum", "allPieces", "()I"⟩, prog_5_method_5_code, 1, some .int, false, 0),
  (⟨"WhatWasNearly$Museum", "isPieceSet", "(I)Z"⟩, prog_5_method_6_code, 2, some .boolean, false, 1),
  (⟨"WhatWasNearly$Museum", "tellChoice", "(II)I"⟩, prog_5_method_7_code, 4, some .int, false, 2),
  (⟨"WhatWasNearly$Museum", "tellPiece", "(IIII)I"⟩, prog_5_method_8_code, 7, some .int, false, 4),
  (⟨"WhatWasNearly$Museum", "tellRoom", "(II)I"⟩, prog_5_method_9_code, 4, some .int, false, 2),
  (⟨"WhatWasNearly$Museum", "tellPerson", "(III)I"⟩, prog_5_method_10_code, 7, some .int, false, 3),
  (⟨"WhatWasNearly$Museum", "tellFact", "(IZZ)I"⟩, prog_5_method_11_code, 4, some .int, false, 3),
  (⟨"WhatWasNearly$Museum", "turnChoice", "(I)I"⟩, prog_5_method_12_code, 2, some .int, false, 1),
  (⟨"WhatWasNearly$Museum", "setRoom", "(II)Z"⟩, prog_5_method_13_code, 3, some .boolean, false, 2),
  (⟨"WhatWasNearly$Museum", "canPut", "(II)Z"⟩, prog_5_method_14_code, 3, some .boolean, false, 2),
  (⟨"WhatWasNearly$Museum", "putPiece", "(II)Z"⟩, prog_5_method_15_code, 3, some .boolean, false, 2),
  (⟨"WhatWasNearly$Museum", "takePiece", "(I)I"⟩, prog_5_method_16_code, 3, some .int, false, 1),
  (⟨"WhatWasNearly$Museum", "play", "(LWhatWasNearly$Text;)I"⟩, prog_5_method_17_code, 3, some .int, false, 1)]
def sm_ml_1 : List sm_Y := [(⟨"WhatWasNearly$Museum", "does", "(III)Z"⟩, prog_5_method_18_code, 4, some .boolean, false, 3),
  (⟨"WhatWasNearly$Museum", "passYears", "(II)I"⟩, prog_5_method_19_code, 5, some .int, false, 2),
  (⟨"WhatWasNearly$Museum", "passYear", "(I)V"⟩, prog_5_method_20_code, 4, none, false, 1),
  (⟨"WhatWasNearly$Museum", "takeBack", "()I"⟩, prog_5_method_21_code, 1, some .int, false, 0),
  (⟨"WhatWasNearly$Museum", "eldersOf", "(I)I"⟩, prog_5_method_22_code, 5, some .int, false, 1),
  (⟨"WhatWasNearly$Museum", "isCalled", "(II)Z"⟩, prog_5_method_23_code, 5, some .boolean, false, 2),
  (⟨"WhatWasNearly$Museum", "isThere", "(II)Z"⟩, prog_5_method_24_code, 5, some .boolean, false, 2),
  (⟨"WhatWasNearly$Museum", "peopleThere", "(I)I"⟩, prog_5_method_25_code, 4, some .int, false, 1),
  (⟨"WhatWasNearly$Tape", "<init>", "()V"⟩, prog_11_method_1_code, 1, none, false, 0),
  (⟨"WhatWasNearly$Tape", "hasSpace", "()Z"⟩, prog_11_method_2_code, 1, some .boolean, false, 0),
  (⟨"WhatWasNearly$Tape", "append", "(I)V"⟩, prog_11_method_3_code, 3, none, false, 1),
  (⟨"WhatWasNearly$Tape", "cut", "(I)Z"⟩, prog_11_method_4_code, 2, some .boolean, false, 1),
  (⟨"WhatWasNearly$Tape", "scan", "()V"⟩, prog_11_method_5_code, 2, none, false, 0),
  (⟨"WhatWasNearly$Tape", "goesOn", "(I)Z"⟩, prog_11_method_6_code, 3, some .boolean, false, 1),
  (⟨"WhatWasNearly$Tape", "scanToken", "(I)V"⟩, prog_11_method_7_code, 3, none, false, 1),
  (⟨"WhatWasNearly$Tape", "isLetter", "(I)Z"⟩, prog_11_method_8_code, 1, some .boolean, true, 1),
  (⟨"WhatWasNearly$Tape", "isDigit", "(I)Z"⟩, prog_11_method_9_code, 1, some .boolean, true, 1),
  (⟨"WhatWasNearly$Tape", "number", "(II)I"⟩, prog_11_method_10_code, 5, some .int, false, 2),
  (⟨"WhatWasNearly$Tape", "sign", "(II)I"⟩, prog_11_method_11_code, 2, some .int, true, 2),
  (⟨"WhatWasNearly$Tape", "spells", "(IILjava/lang/String;)Z"⟩, prog_11_method_12_code, 5, some .boolean, false, 3),
  (⟨"WhatWasNearly$Tape", "word", "(II)I"⟩, prog_11_method_13_code, 3, some .int, false, 2),
  (⟨"WhatWasNearly$Reader", "<init>", "(LWhatWasNearly$Tape;)V"⟩, prog_8_method_1_code, 2, none, false, 1),
  (⟨"WhatWasNearly$Reader", "read", "(LWhatWasNearly$Text;)Z"⟩, prog_8_method_2_code, 3, some .boolean, false, 1),
  (⟨"WhatWasNearly$Reader", "kind", "()I"⟩, prog_8_method_3_code, 1, some .int, false, 0),
  (⟨"WhatWasNearly$Reader", "goOn", "()V"⟩, prog_8_method_4_code, 1, none, false, 0),
  (⟨"WhatWasNearly$Reader", "refuse", "(I)V"⟩, prog_8_method_5_code, 2, none, false, 1),
  (⟨"WhatWasNearly$Reader", "expect", "(I)V"⟩, prog_8_method_6_code, 2, none, false, 1),
  (⟨"WhatWasNearly$Reader", "readNumber", "(II)I"⟩, prog_8_method_7_code, 4, some .int, false, 2),
  (⟨"WhatWasNearly$Reader", "readClause", "(I)V"⟩, prog_8_method_8_code, 4, none, false, 1),
  (⟨"WhatWasNearly$Reader", "isDeed", "(I)Z"⟩, prog_8_method_9_code, 1, some .boolean, true, 1),
  (⟨"WhatWasNearly$Reader", "readDeed", "(I)V"⟩, prog_8_method_10_code, 2, none, false, 1),
  (⟨"WhatWasNearly$Reader", "readPair", "(IIIII)V"⟩, prog_8_method_11_code, 6, none, false, 5),
  (⟨"WhatWasNearly$Reader", "readWhole", "()V"⟩, prog_8_method_12_code, 3, none, false, 0),
  (⟨"WhatWasNearly$Reader", "readEither", "(I)V"⟩, prog_8_method_13_code, 3, none, false, 1),
  (⟨"WhatWasNearly$Reader", "readBoth", "(I)V"⟩, prog_8_method_14_code, 3, none, false, 1),
  (⟨"WhatWasNearly$Reader", "readAsk", "(I)V"⟩, prog_8_method_15_code, 2, none, false, 1),
  (⟨"WhatWasNearly$Reader", "opens", "(I)Z"⟩, prog_8_method_16_code, 2, some .boolean, false, 1),
  (⟨"WhatWasNearly$Reader", "readCame", "()V"⟩, prog_8_method_17_code, 2, none, false, 0),
  (⟨"WhatWasNearly$Reader", "readCompared", "(I)V"⟩, prog_8_method_18_code, 3, none, false, 1),
  (⟨"WhatWasNearly$Reader", "readSum", "(I)V"⟩, prog_8_method_19_code, 4, none, false, 1)]
def sm_ml_2 : List sm_Y := [(⟨"WhatWasNearly$Reader", "readProduct", "(I)V"⟩, prog_8_method_20_code, 4, none, false, 1),
  (⟨"WhatWasNearly$Reader", "readOne", "(I)V"⟩, prog_8_method_21_code, 3, none, false, 1),
  (⟨"WhatWasNearly$Reader", "readCounted", "(I)V"⟩, prog_8_method_22_code, 4, none, false, 1),
  (⟨"WhatWasNearly$Laws", "<init>", "(LWhatWasNearly$Museum;)V"⟩, prog_3_method_1_code, 3, none, false, 1),
  (⟨"WhatWasNearly$Laws", "events", "(I)I"⟩, prog_3_method_2_code, 2, some .int, false, 1),
  (⟨"WhatWasNearly$Laws", "eventsBy", "(II)I"⟩, prog_3_method_3_code, 3, some .int, false, 2),
  (⟨"WhatWasNearly$Laws", "allows", "(I)Z"⟩, prog_3_method_4_code, 2, some .boolean, false, 1),
  (⟨"WhatWasNearly$Laws", "leaves", "(I)Z"⟩, prog_3_method_5_code, 3, some .boolean, false, 1),
  (⟨"WhatWasNearly$Laws", "eventsTold", "(I)I"⟩, prog_3_method_6_code, 2, some .int, false, 1),
  (⟨"WhatWasNearly$Laws", "waysAlike", "(I)I"⟩, prog_3_method_7_code, 5, some .int, false, 1),
  (⟨"WhatWasNearly$Laws", "waysUnlike", "(II)I"⟩, prog_3_method_8_code, 5, some .int, false, 2),
  (⟨"WhatWasNearly$Laws", "keepUp", "()V"⟩, prog_3_method_9_code, 5, none, false, 0),
  (⟨"WhatWasNearly$Laws", "outcome", "(II)I"⟩, prog_3_method_10_code, 3, some .int, false, 2),
  (⟨"WhatWasNearly$Laws", "workOut", "(LWhatWasNearly$Text;I)I"⟩, prog_3_method_11_code, 7, some .int, false, 2),
  (⟨"WhatWasNearly$Laws", "asked", "(LWhatWasNearly$Text;III)I"⟩, prog_3_method_12_code, 6, some .int, false, 4),
  (⟨"WhatWasNearly$Laws", "push", "(I)V"⟩, prog_3_method_13_code, 2, none, false, 1),
  (⟨"WhatWasNearly$Laws", "pop", "()I"⟩, prog_3_method_14_code, 1, some .int, false, 0),
  (⟨"WhatWasNearly$Laws", "work", "(IIII)V"⟩, prog_3_method_15_code, 5, none, false, 4),
  (⟨"WhatWasNearly$Laws", "countSo", "(I)V"⟩, prog_3_method_16_code, 4, none, false, 1),
  (⟨"WhatWasNearly$Laws", "join", "(I)V"⟩, prog_3_method_17_code, 4, none, false, 1),
  (⟨"WhatWasNearly$Laws", "reckoned", "(III)I"⟩, prog_3_method_18_code, 5, some .int, true, 3),
  (⟨"WhatWasNearly$MissingRoom", "<init>", "(LWhatWasNearly$Museum;LWhatWasNearly$Laws;)V"⟩, prog_4_method_1_code, 3, none, false, 2),
  (⟨"WhatWasNearly$MissingRoom", "howMany", "()I"⟩, prog_4_method_2_code, 3, some .int, false, 0),
  (⟨"WhatWasNearly$MissingRoom", "wayAt", "(I)I"⟩, prog_4_method_3_code, 4, some .int, false, 1),
  (⟨"WhatWasNearly$MissingRoom", "choicesAlike", "()I"⟩, prog_4_method_4_code, 4, some .int, false, 0),
  (⟨"WhatWasNearly$MissingRoom", "eventsAlike", "()I"⟩, prog_4_method_5_code, 4, some .int, false, 0),
  (⟨"WhatWasNearly$MissingRoom", "waysWith", "(I)I"⟩, prog_4_method_6_code, 4, some .int, false, 1),
  (⟨"WhatWasNearly$MissingRoom", "nearestHalf", "()I"⟩, prog_4_method_7_code, 7, some .int, false, 0),
  (⟨"WhatWasNearly$MissingRoom", "onesLeft", "(I)I"⟩, prog_4_method_8_code, 4, some .int, false, 1),
  (⟨"WhatWasNearly$MissingRoom", "fewestToAsk", "(I)I"⟩, prog_4_method_9_code, 5, some .int, false, 1),
  (⟨"WhatWasNearly$MissingRoom", "markApart", "(I)V"⟩, prog_4_method_10_code, 6, none, false, 1),
  (⟨"WhatWasNearly$MissingRoom", "spread", "(I)V"⟩, prog_4_method_11_code, 4, none, false, 1),
  (⟨"WhatWasNearly$Otherwise", "<init>", "(LWhatWasNearly$Museum;LWhatWasNearly$Laws;)V"⟩, prog_7_method_1_code, 3, none, false, 2),
  (⟨"WhatWasNearly$Otherwise", "fewestTurned", "(IZ)I"⟩, prog_7_method_2_code, 7, some .int, false, 2),
  (⟨"WhatWasNearly$Otherwise", "waysTurned", "(II)I"⟩, prog_7_method_3_code, 6, some .int, false, 2),
  (⟨"WhatWasNearly$Otherwise", "changedBy", "(I)I"⟩, prog_7_method_4_code, 4, some .int, false, 1),
  (⟨"WhatWasNearly$Otherwise", "idleFor", "(I)I"⟩, prog_7_method_5_code, 4, some .int, false, 1),
  (⟨"WhatWasNearly$Otherwise", "measure", "(I)V"⟩, prog_7_method_6_code, 7, none, false, 1),
  (⟨"WhatWasNearly$Otherwise", "doorsFrom", "(I)I"⟩, prog_7_method_7_code, 2, some .int, false, 1),
  (⟨"WhatWasNearly$Otherwise", "doorAt", "(II)I"⟩, prog_7_method_8_code, 5, some .int, false, 2)]
def sm_ml_3 : List sm_Y := [(⟨"WhatWasNearly$Otherwise", "nextChoice", "(I)I"⟩, prog_7_method_9_code, 3, some .int, false, 1),
  (⟨"WhatWasNearly$Otherwise", "weight", "(I)I"⟩, prog_7_method_10_code, 5, some .int, false, 1),
  (⟨"WhatWasNearly$Otherwise", "wholeWeight", "()I"⟩, prog_7_method_11_code, 3, some .int, false, 0),
  (⟨"WhatWasNearly$Otherwise", "weightWith", "(I)I"⟩, prog_7_method_12_code, 4, some .int, false, 1),
  (⟨"WhatWasNearly$Otherwise", "likeliestOther", "(I)I"⟩, prog_7_method_13_code, 6, some .int, false, 1),
  (⟨"WhatWasNearly$Collection", "<init>", "(LWhatWasNearly$Museum;LWhatWasNearly$Laws;)V"⟩, prog_2_method_1_code, 3, none, false, 2),
  (⟨"WhatWasNearly$Collection", "fits", "(II)Z"⟩, prog_2_method_2_code, 3, some .boolean, false, 2),
  (⟨"WhatWasNearly$Collection", "fitting", "(II)I"⟩, prog_2_method_3_code, 6, some .int, false, 2),
  (⟨"WhatWasNearly$Collection", "misplaced", "()I"⟩, prog_2_method_4_code, 3, some .int, false, 0),
  (⟨"WhatWasNearly$Collection", "waysFor", "(I)I"⟩, prog_2_method_5_code, 4, some .int, false, 1),
  (⟨"WhatWasNearly$Collection", "bestWay", "(I)I"⟩, prog_2_method_6_code, 6, some .int, false, 1),
  (⟨"WhatWasNearly$Collection", "fewestAtOdds", "(I)I"⟩, prog_2_method_7_code, 4, some .int, false, 1),
  (⟨"WhatWasNearly$Collection", "markTogether", "(I)V"⟩, prog_2_method_8_code, 4, none, false, 1),
  (⟨"WhatWasNearly$Collection", "mostLaid", "(I)I"⟩, prog_2_method_9_code, 2, some .int, false, 1),
  (⟨"WhatWasNearly$Collection", "roomLaid", "(II)I"⟩, prog_2_method_10_code, 7, some .int, false, 2),
  (⟨"WhatWasNearly$Collection", "openRooms", "(I)V"⟩, prog_2_method_11_code, 5, none, false, 1),
  (⟨"WhatWasNearly$Collection", "lowestRoom", "(III)I"⟩, prog_2_method_12_code, 5, some .int, false, 3),
  (⟨"WhatWasNearly$Collection", "mostInto", "(I)I"⟩, prog_2_method_13_code, 4, some .int, false, 1),
  (⟨"WhatWasNearly$Collection", "spaceIn", "(I)I"⟩, prog_2_method_14_code, 4, some .int, false, 1),
  (⟨"WhatWasNearly$Collection", "fitOutside", "(II)I"⟩, prog_2_method_15_code, 5, some .int, false, 2),
  (⟨"WhatWasNearly", "<init>", "()V"⟩, prog_1_method_1_code, 1, none, false, 0),
  (⟨"WhatWasNearly", "choice", "(II)I"⟩, prog_1_method_2_code, 4, some .int, false, 2),
  (⟨"WhatWasNearly", "piece", "(IIII)I"⟩, prog_1_method_3_code, 5, some .int, false, 4),
  (⟨"WhatWasNearly", "room", "(II)I"⟩, prog_1_method_4_code, 3, some .int, false, 2),
  (⟨"WhatWasNearly", "person", "(III)I"⟩, prog_1_method_5_code, 4, some .int, false, 3),
  (⟨"WhatWasNearly", "feed", "(IIIII)I"⟩, prog_1_method_6_code, 6, some .int, false, 5),
  (⟨"WhatWasNearly", "end", "(I)I"⟩, prog_1_method_7_code, 2, some .int, false, 1),
  (⟨"WhatWasNearly", "text", "()I"⟩, prog_1_method_8_code, 3, some .int, false, 0),
  (⟨"WhatWasNearly", "fault", "(I)I"⟩, prog_1_method_9_code, 2, some .int, false, 1),
  (⟨"WhatWasNearly", "by", "(I)Z"⟩, prog_1_method_10_code, 2, some .boolean, false, 1),
  (⟨"WhatWasNearly", "turn", "(I)I"⟩, prog_1_method_11_code, 2, some .int, false, 1),
  (⟨"WhatWasNearly", "set", "(II)Z"⟩, prog_1_method_12_code, 3, some .boolean, false, 2),
  (⟨"WhatWasNearly", "put", "(II)Z"⟩, prog_1_method_13_code, 3, some .boolean, false, 2),
  (⟨"WhatWasNearly", "take", "(I)I"⟩, prog_1_method_14_code, 2, some .int, false, 1),
  (⟨"WhatWasNearly", "played", "(I)I"⟩, prog_1_method_15_code, 3, some .int, false, 1),
  (⟨"WhatWasNearly", "years", "(II)I"⟩, prog_1_method_16_code, 3, some .int, false, 2),
  (⟨"WhatWasNearly", "undo", "()I"⟩, prog_1_method_17_code, 1, some .int, false, 0),
  (⟨"WhatWasNearly", "ofChoice", "(II)I"⟩, prog_1_method_18_code, 3, some .int, false, 2),
  (⟨"WhatWasNearly", "ofPiece", "(II)I"⟩, prog_1_method_19_code, 4, some .int, false, 2),
  (⟨"WhatWasNearly", "ofRoom", "(II)I"⟩, prog_1_method_20_code, 3, some .int, false, 2)]
def sm_ml_4 : List sm_Y := [(⟨"WhatWasNearly", "was", "()I"⟩, prog_1_method_21_code, 1, some .int, false, 0),
  (⟨"WhatWasNearly", "agrees", "(II)I"⟩, prog_1_method_22_code, 3, some .int, false, 2),
  (⟨"WhatWasNearly", "follows", "(I)I"⟩, prog_1_method_23_code, 2, some .int, false, 1),
  (⟨"WhatWasNearly", "mayBe", "(I)I"⟩, prog_1_method_24_code, 2, some .int, false, 1),
  (⟨"WhatWasNearly", "cannot", "()I"⟩, prog_1_method_25_code, 1, some .int, false, 0),
  (⟨"WhatWasNearly", "most", "(IZ)I"⟩, prog_1_method_26_code, 4, some .int, false, 2),
  (⟨"WhatWasNearly", "clash", "(I)I"⟩, prog_1_method_27_code, 2, some .int, false, 1),
  (⟨"WhatWasNearly", "fact", "(IZZ)I"⟩, prog_1_method_28_code, 4, some .int, false, 3),
  (⟨"WhatWasNearly", "left", "(I)I"⟩, prog_1_method_29_code, 2, some .int, false, 1),
  (⟨"WhatWasNearly", "sure", "(Z)I"⟩, prog_1_method_30_code, 2, some .int, false, 1),
  (⟨"WhatWasNearly", "ask", "(I)I"⟩, prog_1_method_31_code, 2, some .int, false, 1),
  (⟨"WhatWasNearly", "halves", "()I"⟩, prog_1_method_32_code, 1, some .int, false, 0),
  (⟨"WhatWasNearly", "leanOn", "(I)I"⟩, prog_1_method_33_code, 2, some .int, false, 1),
  (⟨"WhatWasNearly", "agreeIn", "(I)I"⟩, prog_1_method_34_code, 2, some .int, false, 1),
  (⟨"WhatWasNearly", "elders", "(I)I"⟩, prog_1_method_35_code, 2, some .int, false, 1),
  (⟨"WhatWasNearly", "nextDoor", "()I"⟩, prog_1_method_36_code, 1, some .int, false, 0),
  (⟨"WhatWasNearly", "empty", "()I"⟩, prog_1_method_37_code, 1, some .int, false, 0),
  (⟨"WhatWasNearly", "least", "(IZ)I"⟩, prog_1_method_38_code, 3, some .int, false, 2),
  (⟨"WhatWasNearly", "noMatter", "(I)I"⟩, prog_1_method_39_code, 2, some .int, false, 1),
  (⟨"WhatWasNearly", "turnsIt", "(IIZ)I"⟩, prog_1_method_40_code, 4, some .int, false, 3),
  (⟨"WhatWasNearly", "there", "(II)I"⟩, prog_1_method_41_code, 3, some .int, false, 2),
  (⟨"WhatWasNearly", "thereIn", "(I)I"⟩, prog_1_method_42_code, 2, some .int, false, 1),
  (⟨"WhatWasNearly", "lookedFor", "(I)I"⟩, prog_1_method_43_code, 3, some .int, false, 1),
  (⟨"WhatWasNearly", "walk", "(III)I"⟩, prog_1_method_44_code, 4, some .int, false, 3),
  (⟨"WhatWasNearly", "differ", "(III)I"⟩, prog_1_method_45_code, 4, some .int, false, 3),
  (⟨"WhatWasNearly", "unlike", "(II)I"⟩, prog_1_method_46_code, 3, some .int, false, 2),
  (⟨"WhatWasNearly", "gifts", "()I"⟩, prog_1_method_47_code, 1, some .int, false, 0),
  (⟨"WhatWasNearly", "chance", "(IZ)I"⟩, prog_1_method_48_code, 3, some .int, false, 2),
  (⟨"WhatWasNearly", "chanceOf", "(IZ)I"⟩, prog_1_method_49_code, 3, some .int, false, 2),
  (⟨"WhatWasNearly", "nearly", "(I)I"⟩, prog_1_method_50_code, 2, some .int, false, 1),
  (⟨"WhatWasNearly", "laidOut", "(II)I"⟩, prog_1_method_51_code, 4, some .int, false, 2),
  (⟨"WhatWasNearly", "alike", "(I)I"⟩, prog_1_method_52_code, 2, some .int, false, 1),
  (⟨"WhatWasNearly", "image", "()I"⟩, prog_1_method_53_code, 1, some .int, false, 0),
  (⟨"WhatWasNearly", "back", "()I"⟩, prog_1_method_54_code, 1, some .int, false, 0),
  (⟨"WhatWasNearly", "about", "(I)I"⟩, prog_1_method_55_code, 2, some .int, false, 1),
  (⟨"WhatWasNearly", "isOneOf", "(II)Z"⟩, prog_1_method_56_code, 2, some .boolean, true, 2),
  (⟨"WhatWasNearly", "lowestOf", "(I)I"⟩, prog_1_method_57_code, 1, some .int, true, 1),
  (⟨"WhatWasNearly", "fewer", "(II)I"⟩, prog_1_method_58_code, 2, some .int, true, 2),
  (⟨"WhatWasNearly", "inLowestTerms", "(IIZ)I"⟩, prog_1_method_59_code, 7, some .int, true, 3),
  (⟨"WhatWasNearlyModel", "<init>", "()V"⟩, prog_14_method_1_code, 1, none, false, 0)]
def sm_ml_5 : List sm_Y := [(⟨"WhatWasNearlyModel", "copy", "([I[I)V"⟩, prog_14_method_2_code, 3, none, true, 2),
  (⟨"WhatWasNearlyModel", "isIn", "(III)Z"⟩, prog_14_method_3_code, 3, some .boolean, true, 3),
  (⟨"WhatWasNearlyModel", "has", "(II)Z"⟩, prog_14_method_4_code, 2, some .boolean, true, 2),
  (⟨"WhatWasNearlyModel", "bits", "(I)I"⟩, prog_14_method_5_code, 3, some .int, true, 1),
  (⟨"WhatWasNearlyModel", "ways", "()I"⟩, prog_14_method_6_code, 1, some .int, false, 0),
  (⟨"WhatWasNearlyModel", "isWay", "(I)Z"⟩, prog_14_method_7_code, 2, some .boolean, false, 1),
  (⟨"WhatWasNearlyModel", "isChoice", "(I)Z"⟩, prog_14_method_8_code, 2, some .boolean, false, 1),
  (⟨"WhatWasNearlyModel", "isPiece", "(I)Z"⟩, prog_14_method_9_code, 2, some .boolean, false, 1),
  (⟨"WhatWasNearlyModel", "isRoom", "(I)Z"⟩, prog_14_method_10_code, 2, some .boolean, false, 1),
  (⟨"WhatWasNearlyModel", "isPerson", "(I)Z"⟩, prog_14_method_11_code, 2, some .boolean, false, 1),
  (⟨"WhatWasNearlyModel", "isEvent", "(I)Z"⟩, prog_14_method_12_code, 1, some .boolean, true, 1),
  (⟨"WhatWasNearlyModel", "arePieces", "(I)Z"⟩, prog_14_method_13_code, 2, some .boolean, false, 1),
  (⟨"WhatWasNearlyModel", "needs", "(II)I"⟩, prog_14_method_14_code, 3, some .int, false, 2),
  (⟨"WhatWasNearlyModel", "wayOf", "(I)I"⟩, prog_14_method_15_code, 2, some .int, false, 1),
  (⟨"WhatWasNearlyModel", "choice", "(II)I"⟩, prog_14_method_16_code, 4, some .int, false, 2),
  (⟨"WhatWasNearlyModel", "piece", "(IIII)I"⟩, prog_14_method_17_code, 6, some .int, false, 4),
  (⟨"WhatWasNearlyModel", "room", "(II)I"⟩, prog_14_method_18_code, 4, some .int, false, 2),
  (⟨"WhatWasNearlyModel", "person", "(III)I"⟩, prog_14_method_19_code, 5, some .int, false, 3),
  (⟨"WhatWasNearlyModel", "four", "(I)V"⟩, prog_14_method_20_code, 3, none, false, 1),
  (⟨"WhatWasNearlyModel", "feed", "(IIIII)I"⟩, prog_14_method_21_code, 6, some .int, false, 5),
  (⟨"WhatWasNearlyModel", "end", "(I)I"⟩, prog_14_method_22_code, 2, some .int, false, 1),
  (⟨"WhatWasNearlyModel", "byteAt", "(I)I"⟩, prog_14_method_23_code, 2, some .int, false, 1),
  (⟨"WhatWasNearlyModel", "isLetterByte", "(I)Z"⟩, prog_14_method_24_code, 1, some .boolean, true, 1),
  (⟨"WhatWasNearlyModel", "isFigure", "(I)Z"⟩, prog_14_method_25_code, 1, some .boolean, true, 1),
  (⟨"WhatWasNearlyModel", "isSign", "(I)Z"⟩, prog_14_method_26_code, 1, some .boolean, true, 1),
  (⟨"WhatWasNearlyModel", "nextToken", "()V"⟩, prog_14_method_27_code, 2, none, false, 0),
  (⟨"WhatWasNearlyModel", "w2", "(II)J"⟩, prog_14_method_28_code, 2, some .long, true, 2),
  (⟨"WhatWasNearlyModel", "w3", "(III)J"⟩, prog_14_method_29_code, 3, some .long, true, 3),
  (⟨"WhatWasNearlyModel", "w4", "(IIII)J"⟩, prog_14_method_30_code, 4, some .long, true, 4),
  (⟨"WhatWasNearlyModel", "w5", "(IIIII)J"⟩, prog_14_method_31_code, 5, some .long, true, 5),
  (⟨"WhatWasNearlyModel", "w6", "(IIIIII)J"⟩, prog_14_method_32_code, 6, some .long, true, 6),
  (⟨"WhatWasNearlyModel", "isWord", "(J)Z"⟩, prog_14_method_33_code, 3, some .boolean, false, 1),
  (⟨"WhatWasNearlyModel", "emit", "(II)V"⟩, prog_14_method_34_code, 3, none, false, 2),
  (⟨"WhatWasNearlyModel", "nameOf", "()I"⟩, prog_14_method_35_code, 1, some .int, false, 0),
  (⟨"WhatWasNearlyModel", "rank", "(I)I"⟩, prog_14_method_36_code, 1, some .int, true, 1),
  (⟨"WhatWasNearlyModel", "settle", "(I)V"⟩, prog_14_method_37_code, 2, none, false, 1),
  (⟨"WhatWasNearlyModel", "openNow", "()I"⟩, prog_14_method_38_code, 2, some .int, false, 0),
  (⟨"WhatWasNearlyModel", "isCompared", "()Z"⟩, prog_14_method_39_code, 2, some .boolean, false, 0),
  (⟨"WhatWasNearlyModel", "isAskHere", "()Z"⟩, prog_14_method_40_code, 1, some .boolean, false, 0),
  (⟨"WhatWasNearlyModel", "isAskAhead", "()Z"⟩, prog_14_method_41_code, 1, some .boolean, false, 0)]
def sm_ml_6 : List sm_Y := [(⟨"WhatWasNearlyModel", "opened", "(I)I"⟩, prog_14_method_42_code, 2, some .int, false, 1),
  (⟨"WhatWasNearlyModel", "asked", "(II)I"⟩, prog_14_method_43_code, 3, some .int, false, 2),
  (⟨"WhatWasNearlyModel", "beginOne", "()I"⟩, prog_14_method_44_code, 2, some .int, false, 0),
  (⟨"WhatWasNearlyModel", "compareOf", "()I"⟩, prog_14_method_45_code, 1, some .int, false, 0),
  (⟨"WhatWasNearlyModel", "betweenOf", "()I"⟩, prog_14_method_46_code, 2, some .int, false, 0),
  (⟨"WhatWasNearlyModel", "nextOfCount", "()I"⟩, prog_14_method_47_code, 1, some .int, false, 0),
  (⟨"WhatWasNearlyModel", "behindOne", "()I"⟩, prog_14_method_48_code, 3, some .int, false, 0),
  (⟨"WhatWasNearlyModel", "whole", "()I"⟩, prog_14_method_49_code, 2, some .int, false, 0),
  (⟨"WhatWasNearlyModel", "figure", "(III)I"⟩, prog_14_method_50_code, 4, some .int, false, 3),
  (⟨"WhatWasNearlyModel", "lawClause", "(I)I"⟩, prog_14_method_51_code, 3, some .int, false, 1),
  (⟨"WhatWasNearlyModel", "pair", "(IIJII)I"⟩, prog_14_method_52_code, 8, some .int, false, 5),
  (⟨"WhatWasNearlyModel", "body", "(II)I"⟩, prog_14_method_53_code, 3, some .int, false, 2),
  (⟨"WhatWasNearlyModel", "sortOf", "()I"⟩, prog_14_method_54_code, 1, some .int, false, 0),
  (⟨"WhatWasNearlyModel", "clause", "()I"⟩, prog_14_method_55_code, 5, some .int, false, 0),
  (⟨"WhatWasNearlyModel", "readText", "()I"⟩, prog_14_method_56_code, 2, some .int, false, 0),
  (⟨"WhatWasNearlyModel", "text", "()I"⟩, prog_14_method_57_code, 1, some .int, false, 0),
  (⟨"WhatWasNearlyModel", "fault", "(I)I"⟩, prog_14_method_58_code, 2, some .int, false, 1),
  (⟨"WhatWasNearlyModel", "by", "(I)Z"⟩, prog_14_method_59_code, 2, some .boolean, false, 1),
  (⟨"WhatWasNearlyModel", "clip", "(J)J"⟩, prog_14_method_60_code, 2, some .long, true, 1),
  (⟨"WhatWasNearlyModel", "two", "(IJJ)J"⟩, prog_14_method_61_code, 5, some .long, true, 3),
  (⟨"WhatWasNearlyModel", "isAsked", "(IJJ)Z"⟩, prog_14_method_62_code, 5, some .boolean, true, 3),
  (⟨"WhatWasNearlyModel", "counted", "(II)I"⟩, prog_14_method_63_code, 5, some .int, false, 2),
  (⟨"WhatWasNearlyModel", "isSo", "(IIII)Z"⟩, prog_14_method_64_code, 14, some .boolean, false, 4),
  (⟨"WhatWasNearlyModel", "eventsOf", "(I)I"⟩, prog_14_method_65_code, 4, some .int, false, 1),
  (⟨"WhatWasNearlyModel", "layWay", "(II)V"⟩, prog_14_method_66_code, 7, none, false, 2),
  (⟨"WhatWasNearlyModel", "layWays", "(I)V"⟩, prog_14_method_67_code, 3, none, false, 1),
  (⟨"WhatWasNearlyModel", "layAll", "()V"⟩, prog_14_method_68_code, 1, none, false, 0),
  (⟨"WhatWasNearlyModel", "areAgreed", "(II)Z"⟩, prog_14_method_69_code, 4, some .boolean, false, 2),
  (⟨"WhatWasNearlyModel", "keep", "()V"⟩, prog_14_method_70_code, 3, none, false, 0),
  (⟨"WhatWasNearlyModel", "undo", "()I"⟩, prog_14_method_71_code, 3, some .int, false, 0),
  (⟨"WhatWasNearlyModel", "was", "()I"⟩, prog_14_method_72_code, 3, some .int, false, 0),
  (⟨"WhatWasNearlyModel", "turn", "(I)I"⟩, prog_14_method_73_code, 2, some .int, false, 1),
  (⟨"WhatWasNearlyModel", "set", "(II)Z"⟩, prog_14_method_74_code, 3, some .boolean, false, 2),
  (⟨"WhatWasNearlyModel", "piecesIn", "(I)I"⟩, prog_14_method_75_code, 4, some .int, false, 1),
  (⟨"WhatWasNearlyModel", "canPut", "(II)Z"⟩, prog_14_method_76_code, 3, some .boolean, false, 2),
  (⟨"WhatWasNearlyModel", "put", "(II)Z"⟩, prog_14_method_77_code, 3, some .boolean, false, 2),
  (⟨"WhatWasNearlyModel", "take", "(I)I"⟩, prog_14_method_78_code, 3, some .int, false, 1),
  (⟨"WhatWasNearlyModel", "isPlayed", "(I)Z"⟩, prog_14_method_79_code, 4, some .boolean, false, 1),
  (⟨"WhatWasNearlyModel", "played", "(I)I"⟩, prog_14_method_80_code, 3, some .int, false, 1),
  (⟨"WhatWasNearlyModel", "happens", "(I)V"⟩, prog_14_method_81_code, 5, none, false, 1)]
def sm_ml_7 : List sm_Y := [(⟨"WhatWasNearlyModel", "years", "(II)I"⟩, prog_14_method_82_code, 5, some .int, false, 2),
  (⟨"WhatWasNearlyModel", "ofChoice", "(II)I"⟩, prog_14_method_83_code, 3, some .int, false, 2),
  (⟨"WhatWasNearlyModel", "ofPiece", "(II)I"⟩, prog_14_method_84_code, 3, some .int, false, 2),
  (⟨"WhatWasNearlyModel", "ofRoom", "(II)I"⟩, prog_14_method_85_code, 3, some .int, false, 2),
  (⟨"WhatWasNearlyModel", "agrees", "(II)I"⟩, prog_14_method_86_code, 3, some .int, false, 2),
  (⟨"WhatWasNearlyModel", "follows", "(I)I"⟩, prog_14_method_87_code, 2, some .int, false, 1),
  (⟨"WhatWasNearlyModel", "mayBe", "(I)I"⟩, prog_14_method_88_code, 2, some .int, false, 1),
  (⟨"WhatWasNearlyModel", "cannot", "()I"⟩, prog_14_method_89_code, 2, some .int, false, 0),
  (⟨"WhatWasNearlyModel", "agreed", "(II)I"⟩, prog_14_method_90_code, 5, some .int, false, 2),
  (⟨"WhatWasNearlyModel", "most", "(IZ)I"⟩, prog_14_method_91_code, 6, some .int, false, 2),
  (⟨"WhatWasNearlyModel", "isClash", "(I)Z"⟩, prog_14_method_92_code, 3, some .boolean, false, 1),
  (⟨"WhatWasNearlyModel", "clash", "(I)I"⟩, prog_14_method_93_code, 4, some .int, false, 1),
  (⟨"WhatWasNearlyModel", "fact", "(IZZ)I"⟩, prog_14_method_94_code, 5, some .int, false, 3),
  (⟨"WhatWasNearlyModel", "isLeft", "(I)Z"⟩, prog_14_method_95_code, 4, some .boolean, false, 1),
  (⟨"WhatWasNearlyModel", "left", "(I)I"⟩, prog_14_method_96_code, 4, some .int, false, 1),
  (⟨"WhatWasNearlyModel", "sure", "(Z)I"⟩, prog_14_method_97_code, 6, some .int, false, 1),
  (⟨"WhatWasNearlyModel", "isTelling", "(II)Z"⟩, prog_14_method_98_code, 5, some .boolean, false, 2),
  (⟨"WhatWasNearlyModel", "ask", "(I)I"⟩, prog_14_method_99_code, 4, some .int, false, 1),
  (⟨"WhatWasNearlyModel", "halves", "()I"⟩, prog_14_method_100_code, 7, some .int, false, 0),
  (⟨"WhatWasNearlyModel", "least", "(IZ)I"⟩, prog_14_method_101_code, 7, some .int, false, 2),
  (⟨"WhatWasNearlyModel", "changing", "(II)I"⟩, prog_14_method_102_code, 5, some .int, false, 2),
  (⟨"WhatWasNearlyModel", "noMatter", "(I)I"⟩, prog_14_method_103_code, 4, some .int, false, 1),
  (⟨"WhatWasNearlyModel", "common", "(JJ)J"⟩, prog_14_method_104_code, 10, some .long, true, 2),
  (⟨"WhatWasNearlyModel", "part", "(JJZ)I"⟩, prog_14_method_105_code, 5, some .int, true, 3),
  (⟨"WhatWasNearlyModel", "turnsIt", "(IIZ)I"⟩, prog_14_method_106_code, 4, some .int, false, 3),
  (⟨"WhatWasNearlyModel", "leanOn", "(I)I"⟩, prog_14_method_107_code, 4, some .int, false, 1),
  (⟨"WhatWasNearlyModel", "agreeIn", "(I)I"⟩, prog_14_method_108_code, 4, some .int, false, 1),
  (⟨"WhatWasNearlyModel", "isThere", "(II)Z"⟩, prog_14_method_109_code, 6, some .boolean, false, 2),
  (⟨"WhatWasNearlyModel", "there", "(II)I"⟩, prog_14_method_110_code, 3, some .int, false, 2),
  (⟨"WhatWasNearlyModel", "thereIn", "(I)I"⟩, prog_14_method_111_code, 4, some .int, false, 1),
  (⟨"WhatWasNearlyModel", "lookedFor", "(I)I"⟩, prog_14_method_112_code, 4, some .int, false, 1),
  (⟨"WhatWasNearlyModel", "elders", "(I)I"⟩, prog_14_method_113_code, 4, some .int, false, 1),
  (⟨"WhatWasNearlyModel", "findDoors", "(I)V"⟩, prog_14_method_114_code, 6, none, false, 1),
  (⟨"WhatWasNearlyModel", "walk", "(III)I"⟩, prog_14_method_115_code, 7, some .int, false, 3),
  (⟨"WhatWasNearlyModel", "nextDoor", "()I"⟩, prog_14_method_116_code, 4, some .int, false, 0),
  (⟨"WhatWasNearlyModel", "empty", "()I"⟩, prog_14_method_117_code, 3, some .int, false, 0),
  (⟨"WhatWasNearlyModel", "isText", "(I)Z"⟩, prog_14_method_118_code, 2, some .boolean, false, 1),
  (⟨"WhatWasNearlyModel", "unlikeOf", "(III)I"⟩, prog_14_method_119_code, 5, some .int, false, 3),
  (⟨"WhatWasNearlyModel", "differ", "(III)I"⟩, prog_14_method_120_code, 6, some .int, false, 3),
  (⟨"WhatWasNearlyModel", "unlike", "(II)I"⟩, prog_14_method_121_code, 5, some .int, false, 2)]
def sm_ml_8 : List sm_Y := [(⟨"WhatWasNearlyModel", "gifts", "()I"⟩, prog_14_method_122_code, 1, some .int, false, 0),
  (⟨"WhatWasNearlyModel", "oddsOf", "(I)I"⟩, prog_14_method_123_code, 4, some .int, false, 1),
  (⟨"WhatWasNearlyModel", "allOdds", "()I"⟩, prog_14_method_124_code, 3, some .int, false, 0),
  (⟨"WhatWasNearlyModel", "chance", "(IZ)I"⟩, prog_14_method_125_code, 5, some .int, false, 2),
  (⟨"WhatWasNearlyModel", "chanceOf", "(IZ)I"⟩, prog_14_method_126_code, 3, some .int, false, 2),
  (⟨"WhatWasNearlyModel", "nearly", "(I)I"⟩, prog_14_method_127_code, 5, some .int, false, 1),
  (⟨"WhatWasNearlyModel", "laidBy", "(II)I"⟩, prog_14_method_128_code, 7, some .int, false, 2),
  (⟨"WhatWasNearlyModel", "layOut", "(I)I"⟩, prog_14_method_129_code, 5, some .int, false, 1),
  (⟨"WhatWasNearlyModel", "laidOut", "(II)I"⟩, prog_14_method_130_code, 9, some .int, false, 2),
  (⟨"WhatWasNearlyModel", "alike", "(I)I"⟩, prog_14_method_131_code, 4, some .int, false, 1),
  (⟨"WhatWasNearlyModel", "image", "()I"⟩, prog_14_method_132_code, 1, some .int, false, 0),
  (⟨"WhatWasNearlyModel", "back", "()I"⟩, prog_14_method_133_code, 1, some .int, false, 0),
  (⟨"WhatWasNearlyModel", "about", "(I)I"⟩, prog_14_method_134_code, 2, some .int, false, 1)]
def sm_ml : List sm_Y := sm_ml_0 ++ (sm_ml_1 ++ (sm_ml_2 ++ (sm_ml_3 ++ (sm_ml_4 ++ (sm_ml_5 ++ (sm_ml_6 ++ (sm_ml_7 ++ (sm_ml_8))))))))
def sm_ym (y : Nat) : sm_Y := sm_ml.getD y (⟨"", "", ""⟩, ⟨#[]⟩, 0, none, false, 0)
def sm_yn (y : Nat) : MethodName := (sm_ym y).1
def sm_yb (y : Nat) : ByteArray := (sm_ym y).2.1
def sm_yl (y : Nat) : Nat := (sm_ym y).2.2.1
def sm_yr (y : Nat) : Option FieldType := (sm_ym y).2.2.2.1
def sm_ys (y : Nat) : Bool := (sm_ym y).2.2.2.2.1
def sm_yp (y : Nat) : Nat := (sm_ym y).2.2.2.2.2
def sm_mP (q : sm_Y) (h : Nat × Nat × Nat × Nat) : Prop :=
  sm_w h.1 = some (.code q.1 q.2.1 q.2.2.1 q.2.2.2.1) ∧ sm_w h.2.1 = some (match q.2.2.2.2.1 with
    | true => .static q.1
    | false => .instanceMethod q.1) ∧ (q.2.2.2.2.1 = true ∨ q.1.name = "<init>" ∨ sm_w h.2.2.1 = some (.selects q.1.cls q.1 q.1)) ∧ sm_w h.2.2.2 = some (.initialized q.1.cls) ∧ plainName q.1.cls = true ∧ (q.1.cls ≠ "java/lang/invoke/MethodHandle" ∧ q.1.cls ≠ "java/lang/invoke/VarHandle") ∧ (parseMethodDescriptor q.1.desc).map (fun d => d.parameters.length) = some q.2.2.2.2.2 ∧ q.2.2.1 ≤ 15
theorem mc_0 : plainName "java/lang/Integer" = true ∧ ("java/lang/Integer" ≠ "java/lang/invoke/MethodHandle" ∧ "java/lang/Integer" ≠ "java/lang/invoke/VarHandle") := by decide +kernel
theorem mc_1 : plainName "java/util/Arrays" = true ∧ ("java/util/Arrays" ≠ "java/lang/invoke/MethodHandle" ∧ "java/util/Arrays" ≠ "java/lang/invoke/VarHandle") := by decide +kernel
theorem mc_2 : plainName "WhatWasNearly$Standing" = true ∧ ("WhatWasNearly$Standing" ≠ "java/lang/invoke/MethodHandle" ∧ "WhatWasNearly$Standing" ≠ "java/lang/invoke/VarHandle") := by decide +kernel
theorem mc_3 : plainName "WhatWasNearly$Needs" = true ∧ ("WhatWasNearly$Needs" ≠ "java/lang/invoke/MethodHandle" ∧ "WhatWasNearly$Needs" ≠ "java/lang/invoke/VarHandle") := by decide +kernel
theorem mc_4 : plainName "WhatWasNearly$Text" = true ∧ ("WhatWasNearly$Text" ≠ "java/lang/invoke/MethodHandle" ∧ "WhatWasNearly$Text" ≠ "java/lang/invoke/VarHandle") := by decide +kernel
theorem mc_5 : plainName "WhatWasNearly$Steps" = true ∧ ("WhatWasNearly$Steps" ≠ "java/lang/invoke/MethodHandle" ∧ "WhatWasNearly$Steps" ≠ "java/lang/invoke/VarHandle") := by decide +kernel
theorem mc_6 : plainName "WhatWasNearly$Museum" = true ∧ ("WhatWasNearly$Museum" ≠ "java/lang/invoke/MethodHandle" ∧ "WhatWasNearly$Museum" ≠ "java/lang/invoke/VarHandle") := by decide +kernel
theorem mc_7 : plainName "WhatWasNearly$Tape" = true ∧ ("WhatWasNearly$Tape" ≠ "java/lang/invoke/MethodHandle" ∧ "WhatWasNearly$Tape" ≠ "java/lang/invoke/VarHandle") := by decide +kernel
theorem mc_8 : plainName "WhatWasNearly$Reader" = true ∧ ("WhatWasNearly$Reader" ≠ "java/lang/invoke/MethodHandle" ∧ "WhatWasNearly$Reader" ≠ "java/lang/invoke/VarHandle") := by decide +kernel
theorem mc_9 : plainName "WhatWasNearly$Laws" = true ∧ ("WhatWasNearly$Laws" ≠ "java/lang/invoke/MethodHandle" ∧ "WhatWasNearly$Laws" ≠ "java/lang/invoke/VarHandle") := by decide +kernel
theorem mc_10 : plainName "WhatWasNearly$MissingRoom" = true ∧ ("WhatWasNearly$MissingRoom" ≠ "java/lang/invoke/MethodHandle" ∧ "WhatWasNearly$MissingRoom" ≠ "java/lang/invoke/VarHandle") := by decide +kernel
theorem mc_11 : plainName "WhatWasNearly$Otherwise" = true ∧ ("WhatWasNearly$Otherwise" ≠ "java/lang/invoke/MethodHandle" ∧ "WhatWasNearly$Otherwise" ≠ "java/lang/invoke/VarHandle") := by decide +kernel
theorem mc_12 : plainName "WhatWasNearly$Collection" = true ∧ ("WhatWasNearly$Collection" ≠ "java/lang/invoke/MethodHandle" ∧ "WhatWasNearly$Collection" ≠ "java/lang/invoke/VarHandle") := by decide +kernel
theorem mc_13 : plainName "WhatWasNearly" = true ∧ ("WhatWasNearly" ≠ "java/lang/invoke/MethodHandle" ∧ "WhatWasNearly" ≠ "java/lang/invoke/VarHandle") := by decide +kernel
theorem mc_14 : plainName "WhatWasNearlyModel" = true ∧ ("WhatWasNearlyModel" ≠ "java/lang/invoke/MethodHandle" ∧ "WhatWasNearlyModel" ≠ "java/lang/invoke/VarHandle") := by decide +kernel
theorem md_0 : (parseMethodDescriptor "(I)I").map (fun d => d.parameters.length) = some 1 := by decide +kernel
theorem md_1 : (parseMethodDescriptor "([II)V").map (fun d => d.parameters.length) = some 2 := by decide +kernel
theorem md_2 : (parseMethodDescriptor "()V").map (fun d => d.parameters.length) = some 0 := by decide +kernel
theorem md_3 : (parseMethodDescriptor "(LWhatWasNearly$Standing;)V").map (fun d => d.parameters.length) = some 1 := by decide +kernel
theorem md_4 : (parseMethodDescriptor "()I").map (fun d => d.parameters.length) = some 0 := by decide +kernel
theorem md_5 : (parseMethodDescriptor "(IIII)V").map (fun d => d.parameters.length) = some 4 := by decide +kernel
theorem md_6 : (parseMethodDescriptor "(LWhatWasNearly$Needs;)V").map (fun d => d.parameters.length) = some 1 := by decide +kernel
theorem md_7 : (parseMethodDescriptor "(IZ)V").map (fun d => d.parameters.length) = some 2 := by decide +kernel
theorem md_8 : (parseMethodDescriptor "(II)Z").map (fun d => d.parameters.length) = some 2 := by decide +kernel
theorem md_9 : (parseMethodDescriptor "(II)V").map (fun d => d.parameters.length) = some 2 := by decide +kernel
theorem md_10 : (parseMethodDescriptor "(III)V").map (fun d => d.parameters.length) = some 3 := by decide +kernel
theorem md_11 : (parseMethodDescriptor "(LWhatWasNearly$Standing;)Z").map (fun d => d.parameters.length) = some 1 := by decide +kernel
theorem md_12 : (parseMethodDescriptor "(LWhatWasNearly$Steps;)V").map (fun d => d.parameters.length) = some 1 := by decide +kernel
theorem md_13 : (parseMethodDescriptor "(LWhatWasNearly$Museum;)V").map (fun d => d.parameters.length) = some 1 := by decide +kernel
theorem md_14 : (parseMethodDescriptor "(I)Z").map (fun d => d.parameters.length) = some 1 := by decide +kernel
theorem md_15 : (parseMethodDescriptor "(II)I").map (fun d => d.parameters.length) = some 2 := by decide +kernel
theorem md_16 : (parseMethodDescriptor "(IIII)I").map (fun d => d.parameters.length) = some 4 := by decide +kernel
theorem md_17 : (parseMethodDescriptor "(III)I").map (fun d => d.parameters.length) = some 3 := by decide +kernel
theorem md_18 : (parseMethodDescriptor "(IZZ)I").map (fun d => d.parameters.length) = some 3 := by decide +kernel
theorem md_19 : (parseMethodDescriptor "(LWhatWasNearly$Text;)I").map (fun d => d.parameters.length) = some 1 := by decide +kernel
theorem md_20 : (parseMethodDescriptor "(III)Z").map (fun d => d.parameters.length) = some 3 := by decide +kernel
theorem md_21 : (parseMethodDescriptor "(I)V").map (fun d => d.parameters.length) = some 1 := by decide +kernel
theorem md_22 : (parseMethodDescriptor "()Z").map (fun d => d.parameters.length) = some 0 := by decide +kernel
theorem md_23 : (parseMethodDescriptor "(IILjava/lang/String;)Z").map (fun d => d.parameters.length) = some 3 := by decide +kernel
theorem md_24 : (parseMethodDescriptor "(LWhatWasNearly$Tape;)V").map (fun d => d.parameters.length) = some 1 := by decide +kernel
theorem md_25 : (parseMethodDescriptor "(LWhatWasNearly$Text;)Z").map (fun d => d.parameters.length) = some 1 := by decide +kernel
theorem md_26 : (parseMethodDescriptor "(IIIII)V").map (fun d => d.parameters.length) = some 5 := by decide +kernel
theorem md_27 : (parseMethodDescriptor "(LWhatWasNearly$Text;I)I").map (fun d => d.parameters.length) = some 2 := by decide +kernel
theorem md_28 : (parseMethodDescriptor "(LWhatWasNearly$Text;III)I").map (fun d => d.parameters.length) = some 4 := by decide +kernel
theorem md_29 : (parseMethodDescriptor "(LWhatWasNearly$Museum;LWhatWasNearly$Laws;)V").map (fun d => d.parameters.length) = some 2 := by decide +kernel
theorem md_30 : (parseMethodDescriptor "(IZ)I").map (fun d => d.parameters.length) = some 2 := by decide +kernel
theorem md_31 : (parseMethodDescriptor "(IIIII)I").map (fun d => d.parameters.length) = some 5 := by decide +kernel
theorem md_32 : (parseMethodDescriptor "(Z)I").map (fun d => d.parameters.length) = some 1 := by decide +kernel
theorem md_33 : (parseMethodDescriptor "(IIZ)I").map (fun d => d.parameters.length) = some 3 := by decide +kernel
theorem md_34 : (parseMethodDescriptor "([I[I)V").map (fun d => d.parameters.length) = some 2 := by decide +kernel
theorem md_35 : (parseMethodDescriptor "(II)J").map (fun d => d.parameters.length) = some 2 := by decide +kernel
theorem md_36 : (parseMethodDescriptor "(III)J").map (fun d => d.parameters.length) = some 3 := by decide +kernel
theorem md_37 : (parseMethodDescriptor "(IIII)J").map (fun d => d.parameters.length) = some 4 := by decide +kernel
theorem md_38 : (parseMethodDescriptor "(IIIII)J").map (fun d => d.parameters.length) = some 5 := by decide +kernel
theorem md_39 : (parseMethodDescriptor "(IIIIII)J").map (fun d => d.parameters.length) = some 6 := by decide +kernel
theorem md_40 : (parseMethodDescriptor "(J)Z").map (fun d => d.parameters.length) = some 1 := by decide +kernel
theorem md_41 : (parseMethodDescriptor "(IIJII)I").map (fun d => d.parameters.length) = some 5 := by decide +kernel
theorem md_42 : (parseMethodDescriptor "(J)J").map (fun d => d.parameters.length) = some 1 := by decide +kernel
theorem md_43 : (parseMethodDescriptor "(IJJ)J").map (fun d => d.parameters.length) = some 3 := by decide +kernel
theorem md_44 : (parseMethodDescriptor "(IJJ)Z").map (fun d => d.parameters.length) = some 3 := by decide +kernel
theorem md_45 : (parseMethodDescriptor "(IIII)Z").map (fun d => d.parameters.length) = some 4 := by decide +kernel
theorem md_46 : (parseMethodDescriptor "(JJ)J").map (fun d => d.parameters.length) = some 2 := by decide +kernel
theorem md_47 : (parseMethodDescriptor "(JJZ)I").map (fun d => d.parameters.length) = some 3 := by decide +kernel
theorem mp_0 : sm_mP (⟨"java/lang/Integer", "bitCount", "(I)I"⟩, prog_15_method_49_code, 1, some .int, true, 1) (2207, 2206, 0, 1014) := ⟨rfl, rfl, Or.inl rfl, rfl, mc_0.1, mc_0.2, md_0, by decide⟩
theorem mp_1 : sm_mP (⟨"java/lang/Integer", "numberOfTrailingZeros", "(I)I"⟩, prog_15_method_48_code, 2, some .int, true, 1) (5203, 5202, 0, 1014) := ⟨rfl, rfl, Or.inl rfl, rfl, mc_0.1, mc_0.2, md_0, by decide⟩
theorem mp_2 : sm_mP (⟨"java/util/Arrays", "fill", "([II)V"⟩, prog_21_method_103_code, 4, none, true, 2) (4217, 4216, 0, 1021) := ⟨rfl, rfl, Or.inl rfl, rfl, mc_1.1, mc_1.2, md_1, by decide⟩
theorem mp_3 : sm_mP (⟨"WhatWasNearly$Standing", "<init>", "()V"⟩, prog_9_method_1_code, 1, none, false, 0) (1040, 1039, 0, 1003) := ⟨rfl, rfl, Or.inr (Or.inl rfl), rfl, mc_2.1, mc_2.2, md_2, by decide⟩
theorem mp_4 : sm_mP (⟨"WhatWasNearly$Standing", "copyFrom", "(LWhatWasNearly$Standing;)V"⟩, prog_9_method_2_code, 2, none, false, 1) (4034, 4032, 4033, 1003) := ⟨rfl, rfl, Or.inr (Or.inr rfl), rfl, mc_2.1, mc_2.2, md_3, by decide⟩
theorem mp_5 : sm_mP (⟨"WhatWasNearly$Standing", "goBackTo", "(LWhatWasNearly$Standing;)V"⟩, prog_9_method_3_code, 3, none, false, 1) (4116, 4114, 4115, 1003) := ⟨rfl, rfl, Or.inr (Or.inr rfl), rfl, mc_2.1, mc_2.2, md_3, by decide⟩
theorem mp_6 : sm_mP (⟨"WhatWasNearly$Standing", "piecesIn", "(I)I"⟩, prog_9_method_4_code, 4, some .int, false, 1) (4061, 4059, 4060, 1003) := ⟨rfl, rfl, Or.inr (Or.inr rfl), rfl, mc_2.1, mc_2.2, md_0, by decide⟩
theorem mp_7 : sm_mP (⟨"WhatWasNearly$Standing", "emptyRooms", "()I"⟩, prog_9_method_5_code, 3, some .int, false, 0) (5106, 5104, 5105, 1003) := ⟨rfl, rfl, Or.inr (Or.inr rfl), rfl, mc_2.1, mc_2.2, md_4, by decide⟩
theorem mp_8 : sm_mP (⟨"WhatWasNearly$Standing", "neighbours", "()I"⟩, prog_9_method_6_code, 4, some .int, false, 0) (5097, 5095, 5096, 1003) := ⟨rfl, rfl, Or.inr (Or.inr rfl), rfl, mc_2.1, mc_2.2, md_4, by decide⟩
theorem mp_9 : sm_mP (⟨"WhatWasNearly$Needs", "<init>", "()V"⟩, prog_6_method_1_code, 1, none, false, 0) (1112, 1111, 0, 1005) := ⟨rfl, rfl, Or.inr (Or.inl rfl), rfl, mc_3.1, mc_3.2, md_2, by decide⟩
theorem mp_10 : sm_mP (⟨"WhatWasNearly$Needs", "require", "(IIII)V"⟩, prog_6_method_2_code, 5, none, false, 4) (3001, 2239, 3000, 1005) := ⟨rfl, rfl, Or.inr (Or.inr rfl), rfl, mc_3.1, mc_3.2, md_5, by decide⟩
theorem mp_11 : sm_mP (⟨"WhatWasNearly$Needs", "copyFrom", "(LWhatWasNearly$Needs;)V"⟩, prog_6_method_3_code, 2, none, false, 1) (6067, 6065, 6066, 1005) := ⟨rfl, rfl, Or.inr (Or.inr rfl), rfl, mc_3.1, mc_3.2, md_6, by decide⟩
theorem mp_12 : sm_mP (⟨"WhatWasNearly$Needs", "addChoice", "(IZ)V"⟩, prog_6_method_4_code, 3, none, false, 2) (4237, 4235, 4236, 1005) := ⟨rfl, rfl, Or.inr (Or.inr rfl), rfl, mc_3.1, mc_3.2, md_7, by decide⟩
theorem mp_13 : sm_mP (⟨"WhatWasNearly$Needs", "addEvent", "(IZ)V"⟩, prog_6_method_5_code, 3, none, false, 2) (4233, 4231, 4232, 1005) := ⟨rfl, rfl, Or.inr (Or.inr rfl), rfl, mc_3.1, mc_3.2, md_7, by decide⟩
theorem mp_14 : sm_mP (⟨"WhatWasNearly$Needs", "metBy", "(II)Z"⟩, prog_6_method_6_code, 3, some .boolean, false, 2) (4155, 4153, 4154, 1005) := ⟨rfl, rfl, Or.inr (Or.inr rfl), rfl, mc_3.1, mc_3.2, md_8, by decide⟩
theorem mp_15 : sm_mP (⟨"WhatWasNearly$Text", "<init>", "()V"⟩, prog_12_method_1_code, 1, none, false, 0) (2014, 2013, 0, 1009) := ⟨rfl, rfl, Or.inr (Or.inl rfl), rfl, mc_4.1, mc_4.2, md_2, by decide⟩
theorem mp_16 : sm_mP (⟨"WhatWasNearly$Text", "clear", "()V"⟩, prog_12_method_2_code, 1, none, false, 0) (3055, 3053, 3054, 1009) := ⟨rfl, rfl, Or.inr (Or.inr rfl), rfl, mc_4.1, mc_4.2, md_2, by decide⟩
theorem mp_17 : sm_mP (⟨"WhatWasNearly$Text", "addTerm", "(II)V"⟩, prog_12_method_3_code, 3, none, false, 2) (3204, 3202, 3203, 1009) := ⟨rfl, rfl, Or.inr (Or.inr rfl), rfl, mc_4.1, mc_4.2, md_9, by decide⟩
theorem mp_18 : sm_mP (⟨"WhatWasNearly$Text", "addClause", "(III)V"⟩, prog_12_method_4_code, 4, none, false, 3) (4001, 3239, 4000, 1009) := ⟨rfl, rfl, Or.inr (Or.inr rfl), rfl, mc_4.1, mc_4.2, md_10, by decide⟩
theorem mp_19 : sm_mP (⟨"WhatWasNearly$Steps", "<init>", "()V"⟩, prog_10_method_1_code, 2, none, false, 0) (1090, 1089, 0, 1004) := ⟨rfl, rfl, Or.inr (Or.inl rfl), rfl, mc_5.1, mc_5.2, md_2, by decide⟩
theorem mp_20 : sm_mP (⟨"WhatWasNearly$Steps", "push", "(LWhatWasNearly$Standing;)V"⟩, prog_10_method_2_code, 3, none, false, 1) (4030, 4028, 4029, 1004) := ⟨rfl, rfl, Or.inr (Or.inr rfl), rfl, mc_5.1, mc_5.2, md_3, by decide⟩
theorem mp_21 : sm_mP (⟨"WhatWasNearly$Steps", "pop", "(LWhatWasNearly$Standing;)Z"⟩, prog_10_method_3_code, 2, some .boolean, false, 1) (4112, 4110, 4111, 1004) := ⟨rfl, rfl, Or.inr (Or.inr rfl), rfl, mc_5.1, mc_5.2, md_11, by decide⟩
theorem mp_22 : sm_mP (⟨"WhatWasNearly$Steps", "copyFrom", "(LWhatWasNearly$Steps;)V"⟩, prog_10_method_4_code, 3, none, false, 1) (6062, 6060, 6061, 1004) := ⟨rfl, rfl, Or.inr (Or.inr rfl), rfl, mc_5.1, mc_5.2, md_12, by decide⟩
theorem mp_23 : sm_mP (⟨"WhatWasNearly$Museum", "<init>", "()V"⟩, prog_5_method_1_code, 2, none, false, 0) (1034, 1033, 0, 1002) := ⟨rfl, rfl, Or.inr (Or.inl rfl), rfl, mc_6.1, mc_6.2, md_2, by decide⟩
theorem mp_24 : sm_mP (⟨"WhatWasNearly$Museum", "copyFrom", "(LWhatWasNearly$Museum;)V"⟩, prog_5_method_2_code, 3, none, false, 1) (6057, 6055, 6056, 1002) := ⟨rfl, rfl, Or.inr (Or.inr rfl), rfl, mc_6.1, mc_6.2, md_13, by decide⟩
theorem mp_25 : sm_mP (⟨"WhatWasNearly$Museum", "wayCount", "()I"⟩, prog_5_method_3_code, 1, some .int, false, 0) (2188, 2186, 2187, 1002) := ⟨rfl, rfl, Or.inr (Or.inr rfl), rfl, mc_6.1, mc_6.2, md_4, by decide⟩
theorem mp_26 : sm_mP (⟨"WhatWasNearly$Museum", "isWay", "(I)Z"⟩, prog_5_method_4_code, 2, some .boolean, false, 1) (3013, 3011, 3012, 1002) := ⟨rfl, rfl, Or.inr (Or.inr rfl), rfl, mc_6.1, mc_6.2, md_14, by decide⟩
theorem mp_27 : sm_mP (⟨"WhatWasNearly$Museum", "allPieces", "()I"⟩, prog_5_method_5_code, 1, some .int, false, 0) (4189, 4187, 4188, 1002) := ⟨rfl, rfl, Or.inr (Or.inr rfl), rfl, mc_6.1, mc_6.2, md_4, by decide⟩
theorem mp_28 : sm_mP (⟨"WhatWasNearly$Museum", "isPieceSet", "(I)Z"⟩, prog_5_method_6_code, 2, some .boolean, false, 1) (4185, 4183, 4184, 1002) := ⟨rfl, rfl, Or.inr (Or.inr rfl), rfl, mc_6.1, mc_6.2, md_14, by decide⟩
theorem mp_29 : sm_mP (⟨"WhatWasNearly$Museum", "tellChoice", "(II)I"⟩, prog_5_method_7_code, 4, some .int, false, 2) (2177, 2175, 2176, 1002) := ⟨rfl, rfl, Or.inr (Or.inr rfl), rfl, mc_6.1, mc_6.2, md_15, by decide⟩
theorem mp_30 : sm_mP (⟨"WhatWasNearly$Museum", "tellPiece", "(IIII)I"⟩, prog_5_method_8_code, 7, some .int, false, 4) (2237, 2235, 2236, 1002) := ⟨rfl, rfl, Or.inr (Or.inr rfl), rfl, mc_6.1, mc_6.2, md_16, by decide⟩
theorem mp_31 : sm_mP (⟨"WhatWasNearly$Museum", "tellRoom", "(II)I"⟩, prog_5_method_9_code, 4, some .int, false, 2) (3009, 3007, 3008, 1002) := ⟨rfl, rfl, Or.inr (Or.inr rfl), rfl, mc_6.1, mc_6.2, md_15, by decide⟩
theorem mp_32 : sm_mP (⟨"WhatWasNearly$Museum", "tellPerson", "(III)I"⟩, prog_5_method_10_code, 7, some .int, false, 3) (3022, 3020, 3021, 1002) := ⟨rfl, rfl, Or.inr (Or.inr rfl), rfl, mc_6.1, mc_6.2, md_17, by decide⟩
theorem mp_33 : sm_mP (⟨"WhatWasNearly$Museum", "tellFact", "(IZZ)I"⟩, prog_5_method_11_code, 4, some .int, false, 3) (4229, 4227, 4228, 1002) := ⟨rfl, rfl, Or.inr (Or.inr rfl), rfl, mc_6.1, mc_6.2, md_18, by decide⟩
theorem mp_34 : sm_mP (⟨"WhatWasNearly$Museum", "turnChoice", "(I)I"⟩, prog_5_method_12_code, 2, some .int, false, 1) (4026, 4024, 4025, 1002) := ⟨rfl, rfl, Or.inr (Or.inr rfl), rfl, mc_6.1, mc_6.2, md_0, by decide⟩
theorem mp_35 : sm_mP (⟨"WhatWasNearly$Museum", "setRoom", "(II)Z"⟩, prog_5_method_13_code, 3, some .boolean, false, 2) (4045, 4043, 4044, 1002) := ⟨rfl, rfl, Or.inr (Or.inr rfl), rfl, mc_6.1, mc_6.2, md_8, by decide⟩
theorem mp_36 : sm_mP (⟨"WhatWasNearly$Museum", "canPut", "(II)Z"⟩, prog_5_method_14_code, 3, some .boolean, false, 2) (4057, 4056, 31, 1002) := ⟨rfl, rfl, Or.inr (Or.inr rfl), rfl, mc_6.1, mc_6.2, md_8, by decide⟩
theorem mp_37 : sm_mP (⟨"WhatWasNearly$Museum", "putPiece", "(II)Z"⟩, prog_5_method_15_code, 3, some .boolean, false, 2) (4053, 4051, 4052, 1002) := ⟨rfl, rfl, Or.inr (Or.inr rfl), rfl, mc_6.1, mc_6.2, md_8, by decide⟩
theorem mp_38 : sm_mP (⟨"WhatWasNearly$Museum", "takePiece", "(I)I"⟩, prog_5_method_16_code, 3, some .int, false, 1) (4070, 4068, 4069, 1002) := ⟨rfl, rfl, Or.inr (Or.inr rfl), rfl, mc_6.1, mc_6.2, md_0, by decide⟩
theorem mp_39 : sm_mP (⟨"WhatWasNearly$Museum", "play", "(LWhatWasNearly$Text;)I"⟩, prog_5_method_17_code, 3, some .int, false, 1) (4078, 4076, 4077, 1002) := ⟨rfl, rfl, Or.inr (Or.inr rfl), rfl, mc_6.1, mc_6.2, md_19, by decide⟩
theorem mp_40 : sm_mP (⟨"WhatWasNearly$Museum", "does", "(III)Z"⟩, prog_5_method_18_code, 4, some .boolean, false, 3) (4082, 4081, 32, 1002) := ⟨rfl, rfl, Or.inr (Or.inr rfl), rfl, mc_6.1, mc_6.2, md_20, by decide⟩
theorem mp_41 : sm_mP (⟨"WhatWasNearly$Museum", "passYears", "(II)I"⟩, prog_5_method_19_code, 5, some .int, false, 2) (4096, 4094, 4095, 1002) := ⟨rfl, rfl, Or.inr (Or.inr rfl), rfl, mc_6.1, mc_6.2, md_15, by decide⟩
theorem mp_42 : sm_mP (⟨"WhatWasNearly$Museum", "passYear", "(I)V"⟩, prog_5_method_20_code, 4, none, false, 1) (4100, 4099, 33, 1002) := ⟨rfl, rfl, Or.inr (Or.inr rfl), rfl, mc_6.1, mc_6.2, md_21, by decide⟩
theorem mp_43 : sm_mP (⟨"WhatWasNearly$Museum", "takeBack", "()I"⟩, prog_5_method_21_code, 1, some .int, false, 0) (4108, 4106, 4107, 1002) := ⟨rfl, rfl, Or.inr (Or.inr rfl), rfl, mc_6.1, mc_6.2, md_4, by decide⟩
theorem mp_44 : sm_mP (⟨"WhatWasNearly$Museum", "eldersOf", "(I)I"⟩, prog_5_method_22_code, 5, some .int, false, 1) (5089, 5087, 5088, 1002) := ⟨rfl, rfl, Or.inr (Or.inr rfl), rfl, mc_6.1, mc_6.2, md_0, by decide⟩
theorem mp_45 : sm_mP (⟨"WhatWasNearly$Museum", "isCalled", "(II)Z"⟩, prog_5_method_23_code, 5, some .boolean, false, 2) (5150, 5149, 39, 1002) := ⟨rfl, rfl, Or.inr (Or.inr rfl), rfl, mc_6.1, mc_6.2, md_8, by decide⟩
theorem mp_46 : sm_mP (⟨"WhatWasNearly$Museum", "isThere", "(II)Z"⟩, prog_5_method_24_code, 5, some .boolean, false, 2) (5146, 5144, 5145, 1002) := ⟨rfl, rfl, Or.inr (Or.inr rfl), rfl, mc_6.1, mc_6.2, md_8, by decide⟩
theorem mp_47 : sm_mP (⟨"WhatWasNearly$Museum", "peopleThere", "(I)I"⟩, prog_5_method_25_code, 4, some .int, false, 1) (5167, 5165, 5166, 1002) := ⟨rfl, rfl, Or.inr (Or.inr rfl), rfl, mc_6.1, mc_6.2, md_0, by decide⟩
theorem mp_48 : sm_mP (⟨"WhatWasNearly$Tape", "<init>", "()V"⟩, prog_11_method_1_code, 1, none, false, 0) (1193, 1192, 0, 1006) := ⟨rfl, rfl, Or.inr (Or.inl rfl), rfl, mc_7.1, mc_7.2, md_2, by decide⟩
theorem mp_49 : sm_mP (⟨"WhatWasNearly$Tape", "hasSpace", "()Z"⟩, prog_11_method_2_code, 1, some .boolean, false, 0) (3030, 3028, 3029, 1006) := ⟨rfl, rfl, Or.inr (Or.inr rfl), rfl, mc_7.1, mc_7.2, md_22, by decide⟩
theorem mp_50 : sm_mP (⟨"WhatWasNearly$Tape", "append", "(I)V"⟩, prog_11_method_3_code, 3, none, false, 1) (3034, 3032, 3033, 1006) := ⟨rfl, rfl, Or.inr (Or.inr rfl), rfl, mc_7.1, mc_7.2, md_21, by decide⟩
theorem mp_51 : sm_mP (⟨"WhatWasNearly$Tape", "cut", "(I)Z"⟩, prog_11_method_4_code, 2, some .boolean, false, 1) (3042, 3040, 3041, 1006) := ⟨rfl, rfl, Or.inr (Or.inr rfl), rfl, mc_7.1, mc_7.2, md_14, by decide⟩
theorem mp_52 : sm_mP (⟨"WhatWasNearly$Tape", "scan", "()V"⟩, prog_11_method_5_code, 2, none, false, 0) (3059, 3057, 3058, 1006) := ⟨rfl, rfl, Or.inr (Or.inr rfl), rfl, mc_7.1, mc_7.2, md_2, by decide⟩
theorem mp_53 : sm_mP (⟨"WhatWasNearly$Tape", "goesOn", "(I)Z"⟩, prog_11_method_6_code, 3, some .boolean, false, 1) (3063, 3062, 7, 1006) := ⟨rfl, rfl, Or.inr (Or.inr rfl), rfl, mc_7.1, mc_7.2, md_14, by decide⟩
theorem mp_54 : sm_mP (⟨"WhatWasNearly$Tape", "scanToken", "(I)V"⟩, prog_11_method_7_code, 3, none, false, 1) (3073, 3072, 8, 1006) := ⟨rfl, rfl, Or.inr (Or.inr rfl), rfl, mc_7.1, mc_7.2, md_21, by decide⟩
theorem mp_55 : sm_mP (⟨"WhatWasNearly$Tape", "isLetter", "(I)Z"⟩, prog_11_method_8_code, 1, some .boolean, true, 1) (3066, 3065, 0, 1006) := ⟨rfl, rfl, Or.inl rfl, rfl, mc_7.1, mc_7.2, md_14, by decide⟩
theorem mp_56 : sm_mP (⟨"WhatWasNearly$Tape", "isDigit", "(I)Z"⟩, prog_11_method_9_code, 1, some .boolean, true, 1) (3069, 3068, 0, 1006) := ⟨rfl, rfl, Or.inl rfl, rfl, mc_7.1, mc_7.2, md_14, by decide⟩
theorem mp_57 : sm_mP (⟨"WhatWasNearly$Tape", "number", "(II)I"⟩, prog_11_method_10_code, 5, some .int, false, 2) (3077, 3076, 9, 1006) := ⟨rfl, rfl, Or.inr (Or.inr rfl), rfl, mc_7.1, mc_7.2, md_15, by decide⟩
theorem mp_58 : sm_mP (⟨"WhatWasNearly$Tape", "sign", "(II)I"⟩, prog_11_method_11_code, 2, some .int, true, 2) (3161, 3160, 0, 1006) := ⟨rfl, rfl, Or.inl rfl, rfl, mc_7.1, mc_7.2, md_15, by decide⟩
theorem mp_59 : sm_mP (⟨"WhatWasNearly$Tape", "spells", "(IILjava/lang/String;)Z"⟩, prog_11_method_12_code, 5, some .boolean, false, 3) (3089, 3088, 11, 1006) := ⟨rfl, rfl, Or.inr (Or.inr rfl), rfl, mc_7.1, mc_7.2, md_23, by decide⟩
theorem mp_60 : sm_mP (⟨"WhatWasNearly$Tape", "word", "(II)I"⟩, prog_11_method_13_code, 3, some .int, false, 2) (3084, 3083, 10, 1006) := ⟨rfl, rfl, Or.inr (Or.inr rfl), rfl, mc_7.1, mc_7.2, md_15, by decide⟩
theorem mp_61 : sm_mP (⟨"WhatWasNearly$Reader", "<init>", "(LWhatWasNearly$Tape;)V"⟩, prog_8_method_1_code, 2, none, false, 1) (1223, 1222, 0, 1007) := ⟨rfl, rfl, Or.inr (Or.inl rfl), rfl, mc_8.1, mc_8.2, md_24, by decide⟩
theorem mp_62 : sm_mP (⟨"WhatWasNearly$Reader", "read", "(LWhatWasNearly$Text;)Z"⟩, prog_8_method_2_code, 3, some .boolean, false, 1) (3051, 3049, 3050, 1007) := ⟨rfl, rfl, Or.inr (Or.inr rfl), rfl, mc_8.1, mc_8.2, md_25, by decide⟩
theorem mp_63 : sm_mP (⟨"WhatWasNearly$Reader", "kind", "()I"⟩, prog_8_method_3_code, 1, some .int, false, 0) (3165, 3164, 12, 1007) := ⟨rfl, rfl, Or.inr (Or.inr rfl), rfl, mc_8.1, mc_8.2, md_4, by decide⟩
theorem mp_64 : sm_mP (⟨"WhatWasNearly$Reader", "goOn", "()V"⟩, prog_8_method_4_code, 1, none, false, 0) (3180, 3179, 15, 1007) := ⟨rfl, rfl, Or.inr (Or.inr rfl), rfl, mc_8.1, mc_8.2, md_2, by decide⟩
theorem mp_65 : sm_mP (⟨"WhatWasNearly$Reader", "refuse", "(I)V"⟩, prog_8_method_5_code, 2, none, false, 1) (3176, 3175, 14, 1007) := ⟨rfl, rfl, Or.inr (Or.inr rfl), rfl, mc_8.1, mc_8.2, md_21, by decide⟩
theorem mp_66 : sm_mP (⟨"WhatWasNearly$Reader", "expect", "(I)V"⟩, prog_8_method_6_code, 2, none, false, 1) (3233, 3232, 27, 1007) := ⟨rfl, rfl, Or.inr (Or.inr rfl), rfl, mc_8.1, mc_8.2, md_21, by decide⟩
theorem mp_67 : sm_mP (⟨"WhatWasNearly$Reader", "readNumber", "(II)I"⟩, prog_8_method_7_code, 4, some .int, false, 2) (3208, 3207, 21, 1007) := ⟨rfl, rfl, Or.inr (Or.inr rfl), rfl, mc_8.1, mc_8.2, md_15, by decide⟩
theorem mp_68 : sm_mP (⟨"WhatWasNearly$Reader", "readClause", "(I)V"⟩, prog_8_method_8_code, 4, none, false, 1) (3169, 3168, 13, 1007) := ⟨rfl, rfl, Or.inr (Or.inr rfl), rfl, mc_8.1, mc_8.2, md_21, by decide⟩
theorem mp_69 : sm_mP (⟨"WhatWasNearly$Reader", "isDeed", "(I)Z"⟩, prog_8_method_9_code, 1, some .boolean, true, 1) (3172, 3171, 0, 1007) := ⟨rfl, rfl, Or.inl rfl, rfl, mc_8.1, mc_8.2, md_14, by decide⟩
theorem mp_70 : sm_mP (⟨"WhatWasNearly$Reader", "readDeed", "(I)V"⟩, prog_8_method_10_code, 2, none, false, 1) (4005, 4004, 29, 1007) := ⟨rfl, rfl, Or.inr (Or.inr rfl), rfl, mc_8.1, mc_8.2, md_21, by decide⟩
theorem mp_71 : sm_mP (⟨"WhatWasNearly$Reader", "readPair", "(IIIII)V"⟩, prog_8_method_11_code, 6, none, false, 5) (4009, 4008, 30, 1007) := ⟨rfl, rfl, Or.inr (Or.inr rfl), rfl, mc_8.1, mc_8.2, md_26, by decide⟩
theorem mp_72 : sm_mP (⟨"WhatWasNearly$Reader", "readWhole", "()V"⟩, prog_8_method_12_code, 3, none, false, 0) (3184, 3183, 16, 1007) := ⟨rfl, rfl, Or.inr (Or.inr rfl), rfl, mc_8.1, mc_8.2, md_2, by decide⟩
theorem mp_73 : sm_mP (⟨"WhatWasNearly$Reader", "readEither", "(I)V"⟩, prog_8_method_13_code, 3, none, false, 1) (3188, 3187, 17, 1007) := ⟨rfl, rfl, Or.inr (Or.inr rfl), rfl, mc_8.1, mc_8.2, md_21, by decide⟩
theorem mp_74 : sm_mP (⟨"WhatWasNearly$Reader", "readBoth", "(I)V"⟩, prog_8_method_14_code, 3, none, false, 1) (3192, 3191, 18, 1007) := ⟨rfl, rfl, Or.inr (Or.inr rfl), rfl, mc_8.1, mc_8.2, md_21, by decide⟩
theorem mp_75 : sm_mP (⟨"WhatWasNearly$Reader", "readAsk", "(I)V"⟩, prog_8_method_15_code, 2, none, false, 1) (3196, 3195, 19, 1007) := ⟨rfl, rfl, Or.inr (Or.inr rfl), rfl, mc_8.1, mc_8.2, md_21, by decide⟩
theorem mp_76 : sm_mP (⟨"WhatWasNearly$Reader", "opens", "(I)Z"⟩, prog_8_method_16_code, 2, some .boolean, false, 1) (3200, 3199, 20, 1007) := ⟨rfl, rfl, Or.inr (Or.inr rfl), rfl, mc_8.1, mc_8.2, md_14, by decide⟩
theorem mp_77 : sm_mP (⟨"WhatWasNearly$Reader", "readCame", "()V"⟩, prog_8_method_17_code, 2, none, false, 0) (3212, 3211, 22, 1007) := ⟨rfl, rfl, Or.inr (Or.inr rfl), rfl, mc_8.1, mc_8.2, md_2, by decide⟩
theorem mp_78 : sm_mP (⟨"WhatWasNearly$Reader", "readCompared", "(I)V"⟩, prog_8_method_18_code, 3, none, false, 1) (3217, 3216, 23, 1007) := ⟨rfl, rfl, Or.inr (Or.inr rfl), rfl, mc_8.1, mc_8.2, md_21, by decide⟩
theorem mp_79 : sm_mP (⟨"WhatWasNearly$Reader", "readSum", "(I)V"⟩, prog_8_method_19_code, 4, none, false, 1) (3221, 3220, 24, 1007) := ⟨rfl, rfl, Or.inr (Or.inr rfl), rfl, mc_8.1, mc_8.2, md_21, by decide⟩
theorem mp_80 : sm_mP (⟨"WhatWasNearly$Reader", "readProduct", "(I)V"⟩, prog_8_method_20_code, 4, none, false, 1) (3225, 3224, 25, 1007) := ⟨rfl, rfl, Or.inr (Or.inr rfl), rfl, mc_8.1, mc_8.2, md_21, by decide⟩
theorem mp_81 : sm_mP (⟨"WhatWasNearly$Reader", "readOne", "(I)V"⟩, prog_8_method_21_code, 3, none, false, 1) (3229, 3228, 26, 1007) := ⟨rfl, rfl, Or.inr (Or.inr rfl), rfl, mc_8.1, mc_8.2, md_21, by decide⟩
theorem mp_82 : sm_mP (⟨"WhatWasNearly$Reader", "readCounted", "(I)V"⟩, prog_8_method_22_code, 4, none, false, 1) (3237, 3236, 28, 1007) := ⟨rfl, rfl, Or.inr (Or.inr rfl), rfl, mc_8.1, mc_8.2, md_21, by decide⟩
theorem mp_83 : sm_mP (⟨"WhatWasNearly$Laws", "<init>", "(LWhatWasNearly$Museum;)V"⟩, prog_3_method_1_code, 3, none, false, 1) (2007, 2006, 0, 1008) := ⟨rfl, rfl, Or.inr (Or.inl rfl), rfl, mc_9.1, mc_9.2, md_13, by decide⟩
theorem mp_84 : sm_mP (⟨"WhatWasNearly$Laws", "events", "(I)I"⟩, prog_3_method_2_code, 2, some .int, false, 1) (4146, 4144, 4145, 1008) := ⟨rfl, rfl, Or.inr (Or.inr rfl), rfl, mc_9.1, mc_9.2, md_0, by decide⟩
theorem mp_85 : sm_mP (⟨"WhatWasNearly$Laws", "eventsBy", "(II)I"⟩, prog_3_method_3_code, 3, some .int, false, 2) (5197, 5195, 5196, 1008) := ⟨rfl, rfl, Or.inr (Or.inr rfl), rfl, mc_9.1, mc_9.2, md_15, by decide⟩
theorem mp_86 : sm_mP (⟨"WhatWasNearly$Laws", "allows", "(I)Z"⟩, prog_3_method_4_code, 2, some .boolean, false, 1) (4168, 4166, 4167, 1008) := ⟨rfl, rfl, Or.inr (Or.inr rfl), rfl, mc_9.1, mc_9.2, md_14, by decide⟩
theorem mp_87 : sm_mP (⟨"WhatWasNearly$Laws", "leaves", "(I)Z"⟩, prog_3_method_5_code, 3, some .boolean, false, 1) (5010, 5008, 5009, 1008) := ⟨rfl, rfl, Or.inr (Or.inr rfl), rfl, mc_9.1, mc_9.2, md_14, by decide⟩
theorem mp_88 : sm_mP (⟨"WhatWasNearly$Laws", "eventsTold", "(I)I"⟩, prog_3_method_6_code, 2, some .int, false, 1) (6080, 6078, 6079, 1008) := ⟨rfl, rfl, Or.inr (Or.inr rfl), rfl, mc_9.1, mc_9.2, md_0, by decide⟩
theorem mp_89 : sm_mP (⟨"WhatWasNearly$Laws", "waysAlike", "(I)I"⟩, prog_3_method_7_code, 5, some .int, false, 1) (6048, 6046, 6047, 1008) := ⟨rfl, rfl, Or.inr (Or.inr rfl), rfl, mc_9.1, mc_9.2, md_0, by decide⟩
theorem mp_90 : sm_mP (⟨"WhatWasNearly$Laws", "waysUnlike", "(II)I"⟩, prog_3_method_8_code, 5, some .int, false, 2) (5212, 5210, 5211, 1008) := ⟨rfl, rfl, Or.inr (Or.inr rfl), rfl, mc_9.1, mc_9.2, md_15, by decide⟩
theorem mp_91 : sm_mP (⟨"WhatWasNearly$Laws", "keepUp", "()V"⟩, prog_3_method_9_code, 5, none, false, 0) (2184, 2182, 2183, 1008) := ⟨rfl, rfl, Or.inr (Or.inr rfl), rfl, mc_9.1, mc_9.2, md_2, by decide⟩
theorem mp_92 : sm_mP (⟨"WhatWasNearly$Laws", "outcome", "(II)I"⟩, prog_3_method_10_code, 3, some .int, false, 2) (4150, 4149, 34, 1008) := ⟨rfl, rfl, Or.inr (Or.inr rfl), rfl, mc_9.1, mc_9.2, md_15, by decide⟩
theorem mp_93 : sm_mP (⟨"WhatWasNearly$Laws", "workOut", "(LWhatWasNearly$Text;I)I"⟩, prog_3_method_11_code, 7, some .int, false, 2) (2192, 2191, 0, 1008) := ⟨rfl, rfl, Or.inr (Or.inr rfl), rfl, mc_9.1, mc_9.2, md_27, by decide⟩
theorem mp_94 : sm_mP (⟨"WhatWasNearly$Laws", "asked", "(LWhatWasNearly$Text;III)I"⟩, prog_3_method_12_code, 6, some .int, false, 4) (2196, 2195, 1, 1008) := ⟨rfl, rfl, Or.inr (Or.inr rfl), rfl, mc_9.1, mc_9.2, md_28, by decide⟩
theorem mp_95 : sm_mP (⟨"WhatWasNearly$Laws", "push", "(I)V"⟩, prog_3_method_13_code, 2, none, false, 1) (2204, 2203, 3, 1008) := ⟨rfl, rfl, Or.inr (Or.inr rfl), rfl, mc_9.1, mc_9.2, md_21, by decide⟩
theorem mp_96 : sm_mP (⟨"WhatWasNearly$Laws", "pop", "()I"⟩, prog_3_method_14_code, 1, some .int, false, 0) (2214, 2213, 4, 1008) := ⟨rfl, rfl, Or.inr (Or.inr rfl), rfl, mc_9.1, mc_9.2, md_4, by decide⟩
theorem mp_97 : sm_mP (⟨"WhatWasNearly$Laws", "work", "(IIII)V"⟩, prog_3_method_15_code, 5, none, false, 4) (2200, 2199, 2, 1008) := ⟨rfl, rfl, Or.inr (Or.inr rfl), rfl, mc_9.1, mc_9.2, md_5, by decide⟩
theorem mp_98 : sm_mP (⟨"WhatWasNearly$Laws", "countSo", "(I)V"⟩, prog_3_method_16_code, 4, none, false, 1) (2218, 2217, 5, 1008) := ⟨rfl, rfl, Or.inr (Or.inr rfl), rfl, mc_9.1, mc_9.2, md_21, by decide⟩
theorem mp_99 : sm_mP (⟨"WhatWasNearly$Laws", "join", "(I)V"⟩, prog_3_method_17_code, 4, none, false, 1) (2222, 2221, 6, 1008) := ⟨rfl, rfl, Or.inr (Or.inr rfl), rfl, mc_9.1, mc_9.2, md_21, by decide⟩
theorem mp_100 : sm_mP (⟨"WhatWasNearly$Laws", "reckoned", "(III)I"⟩, prog_3_method_18_code, 5, some .int, true, 3) (2225, 2224, 0, 1008) := ⟨rfl, rfl, Or.inl rfl, rfl, mc_9.1, mc_9.2, md_17, by decide⟩
theorem mp_101 : sm_mP (⟨"WhatWasNearly$MissingRoom", "<init>", "(LWhatWasNearly$Museum;LWhatWasNearly$Laws;)V"⟩, prog_4_method_1_code, 3, none, false, 2) (2086, 2085, 0, 1010) := ⟨rfl, rfl, Or.inr (Or.inl rfl), rfl, mc_10.1, mc_10.2, md_29, by decide⟩
theorem mp_102 : sm_mP (⟨"WhatWasNearly$MissingRoom", "howMany", "()I"⟩, prog_4_method_2_code, 3, some .int, false, 0) (5005, 5003, 5004, 1010) := ⟨rfl, rfl, Or.inr (Or.inr rfl), rfl, mc_10.1, mc_10.2, md_4, by decide⟩
theorem mp_103 : sm_mP (⟨"WhatWasNearly$MissingRoom", "wayAt", "(I)I"⟩, prog_4_method_3_code, 4, some .int, false, 1) (5015, 5013, 5014, 1010) := ⟨rfl, rfl, Or.inr (Or.inr rfl), rfl, mc_10.1, mc_10.2, md_0, by decide⟩
theorem mp_104 : sm_mP (⟨"WhatWasNearly$MissingRoom", "choicesAlike", "()I"⟩, prog_4_method_4_code, 4, some .int, false, 0) (5029, 5027, 5028, 1010) := ⟨rfl, rfl, Or.inr (Or.inr rfl), rfl, mc_10.1, mc_10.2, md_4, by decide⟩
theorem mp_105 : sm_mP (⟨"WhatWasNearly$MissingRoom", "eventsAlike", "()I"⟩, prog_4_method_5_code, 4, some .int, false, 0) (5023, 5021, 5022, 1010) := ⟨rfl, rfl, Or.inr (Or.inr rfl), rfl, mc_10.1, mc_10.2, md_4, by decide⟩
theorem mp_106 : sm_mP (⟨"WhatWasNearly$MissingRoom", "waysWith", "(I)I"⟩, prog_4_method_6_code, 4, some .int, false, 1) (5158, 5156, 5157, 1010) := ⟨rfl, rfl, Or.inr (Or.inr rfl), rfl, mc_10.1, mc_10.2, md_0, by decide⟩
theorem mp_107 : sm_mP (⟨"WhatWasNearly$MissingRoom", "nearestHalf", "()I"⟩, prog_4_method_7_code, 7, some .int, false, 0) (5055, 5053, 5054, 1010) := ⟨rfl, rfl, Or.inr (Or.inr rfl), rfl, mc_10.1, mc_10.2, md_4, by decide⟩
theorem mp_108 : sm_mP (⟨"WhatWasNearly$MissingRoom", "onesLeft", "(I)I"⟩, prog_4_method_8_code, 4, some .int, false, 1) (5060, 5059, 38, 1010) := ⟨rfl, rfl, Or.inr (Or.inr rfl), rfl, mc_10.1, mc_10.2, md_0, by decide⟩
theorem mp_109 : sm_mP (⟨"WhatWasNearly$MissingRoom", "fewestToAsk", "(I)I"⟩, prog_4_method_9_code, 5, some .int, false, 1) (5037, 5035, 5036, 1010) := ⟨rfl, rfl, Or.inr (Or.inr rfl), rfl, mc_10.1, mc_10.2, md_0, by decide⟩
theorem mp_110 : sm_mP (⟨"WhatWasNearly$MissingRoom", "markApart", "(I)V"⟩, prog_4_method_10_code, 6, none, false, 1) (5041, 5040, 36, 1010) := ⟨rfl, rfl, Or.inr (Or.inr rfl), rfl, mc_10.1, mc_10.2, md_21, by decide⟩
theorem mp_111 : sm_mP (⟨"WhatWasNearly$MissingRoom", "spread", "(I)V"⟩, prog_4_method_11_code, 4, none, false, 1) (5046, 5045, 37, 1010) := ⟨rfl, rfl, Or.inr (Or.inr rfl), rfl, mc_10.1, mc_10.2, md_21, by decide⟩
theorem mp_112 : sm_mP (⟨"WhatWasNearly$Otherwise", "<init>", "(LWhatWasNearly$Museum;LWhatWasNearly$Laws;)V"⟩, prog_7_method_1_code, 3, none, false, 2) (2108, 2107, 0, 1011) := ⟨rfl, rfl, Or.inr (Or.inl rfl), rfl, mc_11.1, mc_11.2, md_29, by decide⟩
theorem mp_113 : sm_mP (⟨"WhatWasNearly$Otherwise", "fewestTurned", "(IZ)I"⟩, prog_7_method_2_code, 7, some .int, false, 2) (5115, 5113, 5114, 1011) := ⟨rfl, rfl, Or.inr (Or.inr rfl), rfl, mc_11.1, mc_11.2, md_30, by decide⟩
theorem mp_114 : sm_mP (⟨"WhatWasNearly$Otherwise", "waysTurned", "(II)I"⟩, prog_7_method_3_code, 6, some .int, false, 2) (5134, 5132, 5133, 1011) := ⟨rfl, rfl, Or.inr (Or.inr rfl), rfl, mc_11.1, mc_11.2, md_15, by decide⟩
theorem mp_115 : sm_mP (⟨"WhatWasNearly$Otherwise", "changedBy", "(I)I"⟩, prog_7_method_4_code, 4, some .int, false, 1) (5071, 5069, 5070, 1011) := ⟨rfl, rfl, Or.inr (Or.inr rfl), rfl, mc_11.1, mc_11.2, md_0, by decide⟩
theorem mp_116 : sm_mP (⟨"WhatWasNearly$Otherwise", "idleFor", "(I)I"⟩, prog_7_method_5_code, 4, some .int, false, 1) (5125, 5123, 5124, 1011) := ⟨rfl, rfl, Or.inr (Or.inr rfl), rfl, mc_11.1, mc_11.2, md_0, by decide⟩
theorem mp_117 : sm_mP (⟨"WhatWasNearly$Otherwise", "measure", "(I)V"⟩, prog_7_method_6_code, 7, none, false, 1) (5176, 5174, 5175, 1011) := ⟨rfl, rfl, Or.inr (Or.inr rfl), rfl, mc_11.1, mc_11.2, md_21, by decide⟩
theorem mp_118 : sm_mP (⟨"WhatWasNearly$Otherwise", "doorsFrom", "(I)I"⟩, prog_7_method_7_code, 2, some .int, false, 1) (5181, 5179, 5180, 1011) := ⟨rfl, rfl, Or.inr (Or.inr rfl), rfl, mc_11.1, mc_11.2, md_0, by decide⟩
theorem mp_119 : sm_mP (⟨"WhatWasNearly$Otherwise", "doorAt", "(II)I"⟩, prog_7_method_8_code, 5, some .int, false, 2) (5185, 5183, 5184, 1011) := ⟨rfl, rfl, Or.inr (Or.inr rfl), rfl, mc_11.1, mc_11.2, md_15, by decide⟩
theorem mp_120 : sm_mP (⟨"WhatWasNearly$Otherwise", "nextChoice", "(I)I"⟩, prog_7_method_9_code, 3, some .int, false, 1) (5189, 5188, 40, 1011) := ⟨rfl, rfl, Or.inr (Or.inr rfl), rfl, mc_11.1, mc_11.2, md_0, by decide⟩
theorem mp_121 : sm_mP (⟨"WhatWasNearly$Otherwise", "weight", "(I)I"⟩, prog_7_method_10_code, 5, some .int, false, 1) (5230, 5228, 5229, 1011) := ⟨rfl, rfl, Or.inr (Or.inr rfl), rfl, mc_11.1, mc_11.2, md_0, by decide⟩
theorem mp_122 : sm_mP (⟨"WhatWasNearly$Otherwise", "wholeWeight", "()I"⟩, prog_7_method_11_code, 3, some .int, false, 0) (5234, 5232, 5233, 1011) := ⟨rfl, rfl, Or.inr (Or.inr rfl), rfl, mc_11.1, mc_11.2, md_4, by decide⟩
theorem mp_123 : sm_mP (⟨"WhatWasNearly$Otherwise", "weightWith", "(I)I"⟩, prog_7_method_12_code, 4, some .int, false, 1) (5226, 5224, 5225, 1011) := ⟨rfl, rfl, Or.inr (Or.inr rfl), rfl, mc_11.1, mc_11.2, md_0, by decide⟩
theorem mp_124 : sm_mP (⟨"WhatWasNearly$Otherwise", "likeliestOther", "(I)I"⟩, prog_7_method_13_code, 6, some .int, false, 1) (6007, 6005, 6006, 1011) := ⟨rfl, rfl, Or.inr (Or.inr rfl), rfl, mc_11.1, mc_11.2, md_0, by decide⟩
theorem mp_125 : sm_mP (⟨"WhatWasNearly$Collection", "<init>", "(LWhatWasNearly$Museum;LWhatWasNearly$Laws;)V"⟩, prog_2_method_1_code, 3, none, false, 2) (2127, 2126, 0, 1012) := ⟨rfl, rfl, Or.inr (Or.inl rfl), rfl, mc_12.1, mc_12.2, md_29, by decide⟩
theorem mp_126 : sm_mP (⟨"WhatWasNearly$Collection", "fits", "(II)Z"⟩, prog_2_method_2_code, 3, some .boolean, false, 2) (4142, 4140, 4141, 1012) := ⟨rfl, rfl, Or.inr (Or.inr rfl), rfl, mc_12.1, mc_12.2, md_8, by decide⟩
theorem mp_127 : sm_mP (⟨"WhatWasNearly$Collection", "fitting", "(II)I"⟩, prog_2_method_3_code, 6, some .int, false, 2) (4199, 4197, 4198, 1012) := ⟨rfl, rfl, Or.inr (Or.inr rfl), rfl, mc_12.1, mc_12.2, md_15, by decide⟩
theorem mp_128 : sm_mP (⟨"WhatWasNearly$Collection", "misplaced", "()I"⟩, prog_2_method_4_code, 3, some .int, false, 0) (4176, 4174, 4175, 1012) := ⟨rfl, rfl, Or.inr (Or.inr rfl), rfl, mc_12.1, mc_12.2, md_4, by decide⟩
theorem mp_129 : sm_mP (⟨"WhatWasNearly$Collection", "waysFor", "(I)I"⟩, prog_2_method_5_code, 4, some .int, false, 1) (5081, 5079, 5080, 1012) := ⟨rfl, rfl, Or.inr (Or.inr rfl), rfl, mc_12.1, mc_12.2, md_0, by decide⟩
theorem mp_130 : sm_mP (⟨"WhatWasNearly$Collection", "bestWay", "(I)I"⟩, prog_2_method_6_code, 6, some .int, false, 1) (4193, 4191, 4192, 1012) := ⟨rfl, rfl, Or.inr (Or.inr rfl), rfl, mc_12.1, mc_12.2, md_0, by decide⟩
theorem mp_131 : sm_mP (⟨"WhatWasNearly$Collection", "fewestAtOdds", "(I)I"⟩, prog_2_method_7_code, 4, some .int, false, 1) (4210, 4208, 4209, 1012) := ⟨rfl, rfl, Or.inr (Or.inr rfl), rfl, mc_12.1, mc_12.2, md_0, by decide⟩
theorem mp_132 : sm_mP (⟨"WhatWasNearly$Collection", "markTogether", "(I)V"⟩, prog_2_method_8_code, 4, none, false, 1) (4214, 4213, 35, 1012) := ⟨rfl, rfl, Or.inr (Or.inr rfl), rfl, mc_12.1, mc_12.2, md_21, by decide⟩
theorem mp_133 : sm_mP (⟨"WhatWasNearly$Collection", "mostLaid", "(I)I"⟩, prog_2_method_9_code, 2, some .int, false, 1) (6015, 6013, 6014, 1012) := ⟨rfl, rfl, Or.inr (Or.inr rfl), rfl, mc_12.1, mc_12.2, md_0, by decide⟩
theorem mp_134 : sm_mP (⟨"WhatWasNearly$Collection", "roomLaid", "(II)I"⟩, prog_2_method_10_code, 7, some .int, false, 2) (6036, 6034, 6035, 1012) := ⟨rfl, rfl, Or.inr (Or.inr rfl), rfl, mc_12.1, mc_12.2, md_15, by decide⟩
theorem mp_135 : sm_mP (⟨"WhatWasNearly$Collection", "openRooms", "(I)V"⟩, prog_2_method_11_code, 5, none, false, 1) (6019, 6018, 41, 1012) := ⟨rfl, rfl, Or.inr (Or.inr rfl), rfl, mc_12.1, mc_12.2, md_21, by decide⟩
theorem mp_136 : sm_mP (⟨"WhatWasNearly$Collection", "lowestRoom", "(III)I"⟩, prog_2_method_12_code, 5, some .int, false, 3) (6040, 6039, 45, 1012) := ⟨rfl, rfl, Or.inr (Or.inr rfl), rfl, mc_12.1, mc_12.2, md_17, by decide⟩
theorem mp_137 : sm_mP (⟨"WhatWasNearly$Collection", "mostInto", "(I)I"⟩, prog_2_method_13_code, 4, some .int, false, 1) (6023, 6022, 42, 1012) := ⟨rfl, rfl, Or.inr (Or.inr rfl), rfl, mc_12.1, mc_12.2, md_0, by decide⟩
theorem mp_138 : sm_mP (⟨"WhatWasNearly$Collection", "spaceIn", "(I)I"⟩, prog_2_method_14_code, 4, some .int, false, 1) (6027, 6026, 43, 1012) := ⟨rfl, rfl, Or.inr (Or.inr rfl), rfl, mc_12.1, mc_12.2, md_0, by decide⟩
theorem mp_139 : sm_mP (⟨"WhatWasNearly$Collection", "fitOutside", "(II)I"⟩, prog_2_method_15_code, 5, some .int, false, 2) (6031, 6030, 44, 1012) := ⟨rfl, rfl, Or.inr (Or.inr rfl), rfl, mc_12.1, mc_12.2, md_15, by decide⟩
theorem mp_140 : sm_mP (⟨"WhatWasNearly", "<init>", "()V"⟩, prog_1_method_1_code, 1, none, false, 0) (1026, 1025, 0, 1001) := ⟨rfl, rfl, Or.inr (Or.inl rfl), rfl, mc_13.1, mc_13.2, md_2, by decide⟩
theorem mp_141 : sm_mP (⟨"WhatWasNearly", "choice", "(II)I"⟩, prog_1_method_2_code, 4, some .int, false, 2) (2173, 2171, 2172, 1001) := ⟨rfl, rfl, Or.inr (Or.inr rfl), rfl, mc_13.1, mc_13.2, md_15, by decide⟩
theorem mp_142 : sm_mP (⟨"WhatWasNearly", "piece", "(IIII)I"⟩, prog_1_method_3_code, 5, some .int, false, 4) (2233, 2231, 2232, 1001) := ⟨rfl, rfl, Or.inr (Or.inr rfl), rfl, mc_13.1, mc_13.2, md_16, by decide⟩
theorem mp_143 : sm_mP (⟨"WhatWasNearly", "room", "(II)I"⟩, prog_1_method_4_code, 3, some .int, false, 2) (3005, 3003, 3004, 1001) := ⟨rfl, rfl, Or.inr (Or.inr rfl), rfl, mc_13.1, mc_13.2, md_15, by decide⟩
theorem mp_144 : sm_mP (⟨"WhatWasNearly", "person", "(III)I"⟩, prog_1_method_5_code, 4, some .int, false, 3) (3018, 3016, 3017, 1001) := ⟨rfl, rfl, Or.inr (Or.inr rfl), rfl, mc_13.1, mc_13.2, md_17, by decide⟩
theorem mp_145 : sm_mP (⟨"WhatWasNearly", "feed", "(IIIII)I"⟩, prog_1_method_6_code, 6, some .int, false, 5) (3026, 3024, 3025, 1001) := ⟨rfl, rfl, Or.inr (Or.inr rfl), rfl, mc_13.1, mc_13.2, md_31, by decide⟩
theorem mp_146 : sm_mP (⟨"WhatWasNearly", "end", "(I)I"⟩, prog_1_method_7_code, 2, some .int, false, 1) (3038, 3036, 3037, 1001) := ⟨rfl, rfl, Or.inr (Or.inr rfl), rfl, mc_13.1, mc_13.2, md_0, by decide⟩
theorem mp_147 : sm_mP (⟨"WhatWasNearly", "text", "()I"⟩, prog_1_method_8_code, 3, some .int, false, 0) (3046, 3044, 3045, 1001) := ⟨rfl, rfl, Or.inr (Or.inr rfl), rfl, mc_13.1, mc_13.2, md_4, by decide⟩
theorem mp_148 : sm_mP (⟨"WhatWasNearly", "fault", "(I)I"⟩, prog_1_method_9_code, 2, some .int, false, 1) (4014, 4012, 4013, 1001) := ⟨rfl, rfl, Or.inr (Or.inr rfl), rfl, mc_13.1, mc_13.2, md_0, by decide⟩
theorem mp_149 : sm_mP (⟨"WhatWasNearly", "by", "(I)Z"⟩, prog_1_method_10_code, 2, some .boolean, false, 1) (4018, 4016, 4017, 1001) := ⟨rfl, rfl, Or.inr (Or.inr rfl), rfl, mc_13.1, mc_13.2, md_14, by decide⟩
theorem mp_150 : sm_mP (⟨"WhatWasNearly", "turn", "(I)I"⟩, prog_1_method_11_code, 2, some .int, false, 1) (4022, 4020, 4021, 1001) := ⟨rfl, rfl, Or.inr (Or.inr rfl), rfl, mc_13.1, mc_13.2, md_0, by decide⟩
theorem mp_151 : sm_mP (⟨"WhatWasNearly", "set", "(II)Z"⟩, prog_1_method_12_code, 3, some .boolean, false, 2) (4041, 4039, 4040, 1001) := ⟨rfl, rfl, Or.inr (Or.inr rfl), rfl, mc_13.1, mc_13.2, md_8, by decide⟩
theorem mp_152 : sm_mP (⟨"WhatWasNearly", "put", "(II)Z"⟩, prog_1_method_13_code, 3, some .boolean, false, 2) (4049, 4047, 4048, 1001) := ⟨rfl, rfl, Or.inr (Or.inr rfl), rfl, mc_13.1, mc_13.2, md_8, by decide⟩
theorem mp_153 : sm_mP (⟨"WhatWasNearly", "take", "(I)I"⟩, prog_1_method_14_code, 2, some .int, false, 1) (4066, 4064, 4065, 1001) := ⟨rfl, rfl, Or.inr (Or.inr rfl), rfl, mc_13.1, mc_13.2, md_0, by decide⟩
theorem mp_154 : sm_mP (⟨"WhatWasNearly", "played", "(I)I"⟩, prog_1_method_15_code, 3, some .int, false, 1) (4074, 4072, 4073, 1001) := ⟨rfl, rfl, Or.inr (Or.inr rfl), rfl, mc_13.1, mc_13.2, md_0, by decide⟩
theorem mp_155 : sm_mP (⟨"WhatWasNearly", "years", "(II)I"⟩, prog_1_method_16_code, 3, some .int, false, 2) (4092, 4090, 4091, 1001) := ⟨rfl, rfl, Or.inr (Or.inr rfl), rfl, mc_13.1, mc_13.2, md_15, by decide⟩
theorem mp_156 : sm_mP (⟨"WhatWasNearly", "undo", "()I"⟩, prog_1_method_17_code, 1, some .int, false, 0) (4104, 4102, 4103, 1001) := ⟨rfl, rfl, Or.inr (Or.inr rfl), rfl, mc_13.1, mc_13.2, md_4, by decide⟩
theorem mp_157 : sm_mP (⟨"WhatWasNearly", "ofChoice", "(II)I"⟩, prog_1_method_18_code, 3, some .int, false, 2) (4120, 4118, 4119, 1001) := ⟨rfl, rfl, Or.inr (Or.inr rfl), rfl, mc_13.1, mc_13.2, md_15, by decide⟩
theorem mp_158 : sm_mP (⟨"WhatWasNearly", "ofPiece", "(II)I"⟩, prog_1_method_19_code, 4, some .int, false, 2) (4124, 4122, 4123, 1001) := ⟨rfl, rfl, Or.inr (Or.inr rfl), rfl, mc_13.1, mc_13.2, md_15, by decide⟩
theorem mp_159 : sm_mP (⟨"WhatWasNearly", "ofRoom", "(II)I"⟩, prog_1_method_20_code, 3, some .int, false, 2) (4128, 4126, 4127, 1001) := ⟨rfl, rfl, Or.inr (Or.inr rfl), rfl, mc_13.1, mc_13.2, md_15, by decide⟩
theorem mp_160 : sm_mP (⟨"WhatWasNearly", "was", "()I"⟩, prog_1_method_21_code, 1, some .int, false, 0) (4133, 4131, 4132, 1001) := ⟨rfl, rfl, Or.inr (Or.inr rfl), rfl, mc_13.1, mc_13.2, md_4, by decide⟩
theorem mp_161 : sm_mP (⟨"WhatWasNearly", "agrees", "(II)I"⟩, prog_1_method_22_code, 3, some .int, false, 2) (4137, 4135, 4136, 1001) := ⟨rfl, rfl, Or.inr (Or.inr rfl), rfl, mc_13.1, mc_13.2, md_15, by decide⟩
theorem mp_162 : sm_mP (⟨"WhatWasNearly", "follows", "(I)I"⟩, prog_1_method_23_code, 2, some .int, false, 1) (4159, 4157, 4158, 1001) := ⟨rfl, rfl, Or.inr (Or.inr rfl), rfl, mc_13.1, mc_13.2, md_0, by decide⟩
theorem mp_163 : sm_mP (⟨"WhatWasNearly", "mayBe", "(I)I"⟩, prog_1_method_24_code, 2, some .int, false, 1) (4164, 4162, 4163, 1001) := ⟨rfl, rfl, Or.inr (Or.inr rfl), rfl, mc_13.1, mc_13.2, md_0, by decide⟩
theorem mp_164 : sm_mP (⟨"WhatWasNearly", "cannot", "()I"⟩, prog_1_method_25_code, 1, some .int, false, 0) (4172, 4170, 4171, 1001) := ⟨rfl, rfl, Or.inr (Or.inr rfl), rfl, mc_13.1, mc_13.2, md_4, by decide⟩
theorem mp_165 : sm_mP (⟨"WhatWasNearly", "most", "(IZ)I"⟩, prog_1_method_26_code, 4, some .int, false, 2) (4181, 4179, 4180, 1001) := ⟨rfl, rfl, Or.inr (Or.inr rfl), rfl, mc_13.1, mc_13.2, md_30, by decide⟩
theorem mp_166 : sm_mP (⟨"WhatWasNearly", "clash", "(I)I"⟩, prog_1_method_27_code, 2, some .int, false, 1) (4206, 4204, 4205, 1001) := ⟨rfl, rfl, Or.inr (Or.inr rfl), rfl, mc_13.1, mc_13.2, md_0, by decide⟩
theorem mp_167 : sm_mP (⟨"WhatWasNearly", "fact", "(IZZ)I"⟩, prog_1_method_28_code, 4, some .int, false, 3) (4225, 4223, 4224, 1001) := ⟨rfl, rfl, Or.inr (Or.inr rfl), rfl, mc_13.1, mc_13.2, md_18, by decide⟩
theorem mp_168 : sm_mP (⟨"WhatWasNearly", "left", "(I)I"⟩, prog_1_method_29_code, 2, some .int, false, 1) (5001, 4239, 5000, 1001) := ⟨rfl, rfl, Or.inr (Or.inr rfl), rfl, mc_13.1, mc_13.2, md_0, by decide⟩
theorem mp_169 : sm_mP (⟨"WhatWasNearly", "sure", "(Z)I"⟩, prog_1_method_30_code, 2, some .int, false, 1) (5019, 5017, 5018, 1001) := ⟨rfl, rfl, Or.inr (Or.inr rfl), rfl, mc_13.1, mc_13.2, md_32, by decide⟩
theorem mp_170 : sm_mP (⟨"WhatWasNearly", "ask", "(I)I"⟩, prog_1_method_31_code, 2, some .int, false, 1) (5033, 5031, 5032, 1001) := ⟨rfl, rfl, Or.inr (Or.inr rfl), rfl, mc_13.1, mc_13.2, md_0, by decide⟩
theorem mp_171 : sm_mP (⟨"WhatWasNearly", "halves", "()I"⟩, prog_1_method_32_code, 1, some .int, false, 0) (5051, 5049, 5050, 1001) := ⟨rfl, rfl, Or.inr (Or.inr rfl), rfl, mc_13.1, mc_13.2, md_4, by decide⟩
theorem mp_172 : sm_mP (⟨"WhatWasNearly", "leanOn", "(I)I"⟩, prog_1_method_33_code, 2, some .int, false, 1) (5067, 5065, 5066, 1001) := ⟨rfl, rfl, Or.inr (Or.inr rfl), rfl, mc_13.1, mc_13.2, md_0, by decide⟩
theorem mp_173 : sm_mP (⟨"WhatWasNearly", "agreeIn", "(I)I"⟩, prog_1_method_34_code, 2, some .int, false, 1) (5077, 5075, 5076, 1001) := ⟨rfl, rfl, Or.inr (Or.inr rfl), rfl, mc_13.1, mc_13.2, md_0, by decide⟩
theorem mp_174 : sm_mP (⟨"WhatWasNearly", "elders", "(I)I"⟩, prog_1_method_35_code, 2, some .int, false, 1) (5085, 5083, 5084, 1001) := ⟨rfl, rfl, Or.inr (Or.inr rfl), rfl, mc_13.1, mc_13.2, md_0, by decide⟩
theorem mp_175 : sm_mP (⟨"WhatWasNearly", "nextDoor", "()I"⟩, prog_1_method_36_code, 1, some .int, false, 0) (5093, 5091, 5092, 1001) := ⟨rfl, rfl, Or.inr (Or.inr rfl), rfl, mc_13.1, mc_13.2, md_4, by decide⟩
theorem mp_176 : sm_mP (⟨"WhatWasNearly", "empty", "()I"⟩, prog_1_method_37_code, 1, some .int, false, 0) (5102, 5100, 5101, 1001) := ⟨rfl, rfl, Or.inr (Or.inr rfl), rfl, mc_13.1, mc_13.2, md_4, by decide⟩
theorem mp_177 : sm_mP (⟨"WhatWasNearly", "least", "(IZ)I"⟩, prog_1_method_38_code, 3, some .int, false, 2) (5111, 5109, 5110, 1001) := ⟨rfl, rfl, Or.inr (Or.inr rfl), rfl, mc_13.1, mc_13.2, md_30, by decide⟩
theorem mp_178 : sm_mP (⟨"WhatWasNearly", "noMatter", "(I)I"⟩, prog_1_method_39_code, 2, some .int, false, 1) (5121, 5119, 5120, 1001) := ⟨rfl, rfl, Or.inr (Or.inr rfl), rfl, mc_13.1, mc_13.2, md_0, by decide⟩
theorem mp_179 : sm_mP (⟨"WhatWasNearly", "turnsIt", "(IIZ)I"⟩, prog_1_method_40_code, 4, some .int, false, 3) (5130, 5128, 5129, 1001) := ⟨rfl, rfl, Or.inr (Or.inr rfl), rfl, mc_13.1, mc_13.2, md_33, by decide⟩
theorem mp_180 : sm_mP (⟨"WhatWasNearly", "there", "(II)I"⟩, prog_1_method_41_code, 3, some .int, false, 2) (5142, 5140, 5141, 1001) := ⟨rfl, rfl, Or.inr (Or.inr rfl), rfl, mc_13.1, mc_13.2, md_15, by decide⟩
theorem mp_181 : sm_mP (⟨"WhatWasNearly", "thereIn", "(I)I"⟩, prog_1_method_42_code, 2, some .int, false, 1) (5154, 5152, 5153, 1001) := ⟨rfl, rfl, Or.inr (Or.inr rfl), rfl, mc_13.1, mc_13.2, md_0, by decide⟩
theorem mp_182 : sm_mP (⟨"WhatWasNearly", "lookedFor", "(I)I"⟩, prog_1_method_43_code, 3, some .int, false, 1) (5163, 5161, 5162, 1001) := ⟨rfl, rfl, Or.inr (Or.inr rfl), rfl, mc_13.1, mc_13.2, md_0, by decide⟩
theorem mp_183 : sm_mP (⟨"WhatWasNearly", "walk", "(III)I"⟩, prog_1_method_44_code, 4, some .int, false, 3) (5172, 5170, 5171, 1001) := ⟨rfl, rfl, Or.inr (Or.inr rfl), rfl, mc_13.1, mc_13.2, md_17, by decide⟩
theorem mp_184 : sm_mP (⟨"WhatWasNearly", "differ", "(III)I"⟩, prog_1_method_45_code, 4, some .int, false, 3) (5193, 5191, 5192, 1001) := ⟨rfl, rfl, Or.inr (Or.inr rfl), rfl, mc_13.1, mc_13.2, md_17, by decide⟩
theorem mp_185 : sm_mP (⟨"WhatWasNearly", "unlike", "(II)I"⟩, prog_1_method_46_code, 3, some .int, false, 2) (5208, 5206, 5207, 1001) := ⟨rfl, rfl, Or.inr (Or.inr rfl), rfl, mc_13.1, mc_13.2, md_15, by decide⟩
theorem mp_186 : sm_mP (⟨"WhatWasNearly", "gifts", "()I"⟩, prog_1_method_47_code, 1, some .int, false, 0) (5217, 5215, 5216, 1001) := ⟨rfl, rfl, Or.inr (Or.inr rfl), rfl, mc_13.1, mc_13.2, md_4, by decide⟩
theorem mp_187 : sm_mP (⟨"WhatWasNearly", "chance", "(IZ)I"⟩, prog_1_method_48_code, 3, some .int, false, 2) (5222, 5220, 5221, 1001) := ⟨rfl, rfl, Or.inr (Or.inr rfl), rfl, mc_13.1, mc_13.2, md_30, by decide⟩
theorem mp_188 : sm_mP (⟨"WhatWasNearly", "chanceOf", "(IZ)I"⟩, prog_1_method_49_code, 3, some .int, false, 2) (5238, 5236, 5237, 1001) := ⟨rfl, rfl, Or.inr (Or.inr rfl), rfl, mc_13.1, mc_13.2, md_30, by decide⟩
theorem mp_189 : sm_mP (⟨"WhatWasNearly", "nearly", "(I)I"⟩, prog_1_method_50_code, 2, some .int, false, 1) (6003, 6001, 6002, 1001) := ⟨rfl, rfl, Or.inr (Or.inr rfl), rfl, mc_13.1, mc_13.2, md_0, by decide⟩
theorem mp_190 : sm_mP (⟨"WhatWasNearly", "laidOut", "(II)I"⟩, prog_1_method_51_code, 4, some .int, false, 2) (6011, 6009, 6010, 1001) := ⟨rfl, rfl, Or.inr (Or.inr rfl), rfl, mc_13.1, mc_13.2, md_15, by decide⟩
theorem mp_191 : sm_mP (⟨"WhatWasNearly", "alike", "(I)I"⟩, prog_1_method_52_code, 2, some .int, false, 1) (6044, 6042, 6043, 1001) := ⟨rfl, rfl, Or.inr (Or.inr rfl), rfl, mc_13.1, mc_13.2, md_0, by decide⟩
theorem mp_192 : sm_mP (⟨"WhatWasNearly", "image", "()I"⟩, prog_1_method_53_code, 1, some .int, false, 0) (6053, 6051, 6052, 1001) := ⟨rfl, rfl, Or.inr (Or.inr rfl), rfl, mc_13.1, mc_13.2, md_4, by decide⟩
theorem mp_193 : sm_mP (⟨"WhatWasNearly", "back", "()I"⟩, prog_1_method_54_code, 1, some .int, false, 0) (6072, 6070, 6071, 1001) := ⟨rfl, rfl, Or.inr (Or.inr rfl), rfl, mc_13.1, mc_13.2, md_4, by decide⟩
theorem mp_194 : sm_mP (⟨"WhatWasNearly", "about", "(I)I"⟩, prog_1_method_55_code, 2, some .int, false, 1) (6076, 6074, 6075, 1001) := ⟨rfl, rfl, Or.inr (Or.inr rfl), rfl, mc_13.1, mc_13.2, md_0, by decide⟩
theorem mp_195 : sm_mP (⟨"WhatWasNearly", "isOneOf", "(II)Z"⟩, prog_1_method_56_code, 2, some .boolean, true, 2) (2180, 2179, 0, 1001) := ⟨rfl, rfl, Or.inl rfl, rfl, mc_13.1, mc_13.2, md_8, by decide⟩
theorem mp_196 : sm_mP (⟨"WhatWasNearly", "lowestOf", "(I)I"⟩, prog_1_method_57_code, 1, some .int, true, 1) (5200, 5199, 0, 1001) := ⟨rfl, rfl, Or.inl rfl, rfl, mc_13.1, mc_13.2, md_0, by decide⟩
theorem mp_197 : sm_mP (⟨"WhatWasNearly", "fewer", "(II)I"⟩, prog_1_method_58_code, 2, some .int, true, 2) (4221, 4220, 0, 1001) := ⟨rfl, rfl, Or.inl rfl, rfl, mc_13.1, mc_13.2, md_15, by decide⟩
theorem mp_198 : sm_mP (⟨"WhatWasNearly", "inLowestTerms", "(IIZ)I"⟩, prog_1_method_59_code, 7, some .int, true, 3) (5138, 5137, 0, 1001) := ⟨rfl, rfl, Or.inl rfl, rfl, mc_13.1, mc_13.2, md_33, by decide⟩
theorem mp_199 : sm_mP (⟨"WhatWasNearlyModel", "<init>", "()V"⟩, prog_14_method_1_code, 1, none, false, 0) (6085, 6084, 0, 1013) := ⟨rfl, rfl, Or.inr (Or.inl rfl), rfl, mc_14.1, mc_14.2, md_2, by decide⟩
theorem mp_200 : sm_mP (⟨"WhatWasNearlyModel", "copy", "([I[I)V"⟩, prog_14_method_2_code, 3, none, true, 2) (6089, 6088, 0, 1013) := ⟨rfl, rfl, Or.inl rfl, rfl, mc_14.1, mc_14.2, md_34, by decide⟩
theorem mp_201 : sm_mP (⟨"WhatWasNearlyModel", "isIn", "(III)Z"⟩, prog_14_method_3_code, 3, some .boolean, true, 3) (6201, 6200, 0, 1013) := ⟨rfl, rfl, Or.inl rfl, rfl, mc_14.1, mc_14.2, md_20, by decide⟩
theorem mp_202 : sm_mP (⟨"WhatWasNearlyModel", "has", "(II)Z"⟩, prog_14_method_4_code, 2, some .boolean, true, 2) (8003, 8002, 0, 1013) := ⟨rfl, rfl, Or.inl rfl, rfl, mc_14.1, mc_14.2, md_8, by decide⟩
theorem mp_203 : sm_mP (⟨"WhatWasNearlyModel", "bits", "(I)I"⟩, prog_14_method_5_code, 3, some .int, true, 1) (7190, 7189, 0, 1013) := ⟨rfl, rfl, Or.inl rfl, rfl, mc_14.1, mc_14.2, md_0, by decide⟩
theorem mp_204 : sm_mP (⟨"WhatWasNearlyModel", "ways", "()I"⟩, prog_14_method_6_code, 1, some .int, false, 0) (6217, 6216, 47, 1013) := ⟨rfl, rfl, Or.inr (Or.inr rfl), rfl, mc_14.1, mc_14.2, md_4, by decide⟩
theorem mp_205 : sm_mP (⟨"WhatWasNearlyModel", "isWay", "(I)Z"⟩, prog_14_method_7_code, 2, some .boolean, false, 1) (6213, 6212, 46, 1013) := ⟨rfl, rfl, Or.inr (Or.inr rfl), rfl, mc_14.1, mc_14.2, md_14, by decide⟩
theorem mp_206 : sm_mP (⟨"WhatWasNearlyModel", "isChoice", "(I)Z"⟩, prog_14_method_8_code, 2, some .boolean, false, 1) (7150, 7149, 74, 1013) := ⟨rfl, rfl, Or.inr (Or.inr rfl), rfl, mc_14.1, mc_14.2, md_14, by decide⟩
theorem mp_207 : sm_mP (⟨"WhatWasNearlyModel", "isPiece", "(I)Z"⟩, prog_14_method_9_code, 2, some .boolean, false, 1) (7179, 7178, 79, 1013) := ⟨rfl, rfl, Or.inr (Or.inr rfl), rfl, mc_14.1, mc_14.2, md_14, by decide⟩
theorem mp_208 : sm_mP (⟨"WhatWasNearlyModel", "isRoom", "(I)Z"⟩, prog_14_method_10_code, 2, some .boolean, false, 1) (7171, 7170, 78, 1013) := ⟨rfl, rfl, Or.inr (Or.inr rfl), rfl, mc_14.1, mc_14.2, md_14, by decide⟩
theorem mp_209 : sm_mP (⟨"WhatWasNearlyModel", "isPerson", "(I)Z"⟩, prog_14_method_11_code, 2, some .boolean, false, 1) (8132, 8131, 96, 1013) := ⟨rfl, rfl, Or.inr (Or.inr rfl), rfl, mc_14.1, mc_14.2, md_14, by decide⟩
theorem mp_210 : sm_mP (⟨"WhatWasNearlyModel", "isEvent", "(I)Z"⟩, prog_14_method_12_code, 1, some .boolean, true, 1) (8069, 8068, 0, 1013) := ⟨rfl, rfl, Or.inl rfl, rfl, mc_14.1, mc_14.2, md_14, by decide⟩
theorem mp_211 : sm_mP (⟨"WhatWasNearlyModel", "arePieces", "(I)Z"⟩, prog_14_method_13_code, 2, some .boolean, false, 1) (8050, 8049, 90, 1013) := ⟨rfl, rfl, Or.inr (Or.inr rfl), rfl, mc_14.1, mc_14.2, md_14, by decide⟩
theorem mp_212 : sm_mP (⟨"WhatWasNearlyModel", "needs", "(II)I"⟩, prog_14_method_14_code, 3, some .int, false, 2) (7162, 7161, 77, 1013) := ⟨rfl, rfl, Or.inr (Or.inr rfl), rfl, mc_14.1, mc_14.2, md_15, by decide⟩
theorem mp_213 : sm_mP (⟨"WhatWasNearlyModel", "wayOf", "(I)I"⟩, prog_14_method_15_code, 2, some .int, false, 1) (7158, 7157, 76, 1013) := ⟨rfl, rfl, Or.inr (Or.inr rfl), rfl, mc_14.1, mc_14.2, md_0, by decide⟩
theorem mp_214 : sm_mP (⟨"WhatWasNearlyModel", "choice", "(II)I"⟩, prog_14_method_16_code, 4, some .int, false, 2) (6198, 6196, 6197, 1013) := ⟨rfl, rfl, Or.inr (Or.inr rfl), rfl, mc_14.1, mc_14.2, md_15, by decide⟩
theorem mp_215 : sm_mP (⟨"WhatWasNearlyModel", "piece", "(IIII)I"⟩, prog_14_method_17_code, 6, some .int, false, 4) (6205, 6203, 6204, 1013) := ⟨rfl, rfl, Or.inr (Or.inr rfl), rfl, mc_14.1, mc_14.2, md_16, by decide⟩
theorem mp_216 : sm_mP (⟨"WhatWasNearlyModel", "room", "(II)I"⟩, prog_14_method_18_code, 4, some .int, false, 2) (6209, 6207, 6208, 1013) := ⟨rfl, rfl, Or.inr (Or.inr rfl), rfl, mc_14.1, mc_14.2, md_15, by decide⟩
theorem mp_217 : sm_mP (⟨"WhatWasNearlyModel", "person", "(III)I"⟩, prog_14_method_19_code, 5, some .int, false, 3) (6221, 6219, 6220, 1013) := ⟨rfl, rfl, Or.inr (Or.inr rfl), rfl, mc_14.1, mc_14.2, md_17, by decide⟩
theorem mp_218 : sm_mP (⟨"WhatWasNearlyModel", "four", "(I)V"⟩, prog_14_method_20_code, 3, none, false, 1) (6229, 6228, 48, 1013) := ⟨rfl, rfl, Or.inr (Or.inr rfl), rfl, mc_14.1, mc_14.2, md_21, by decide⟩
theorem mp_219 : sm_mP (⟨"WhatWasNearlyModel", "feed", "(IIIII)I"⟩, prog_14_method_21_code, 6, some .int, false, 5) (6225, 6223, 6224, 1013) := ⟨rfl, rfl, Or.inr (Or.inr rfl), rfl, mc_14.1, mc_14.2, md_31, by decide⟩
theorem mp_220 : sm_mP (⟨"WhatWasNearlyModel", "end", "(I)I"⟩, prog_14_method_22_code, 2, some .int, false, 1) (6233, 6231, 6232, 1013) := ⟨rfl, rfl, Or.inr (Or.inr rfl), rfl, mc_14.1, mc_14.2, md_0, by decide⟩
theorem mp_221 : sm_mP (⟨"WhatWasNearlyModel", "byteAt", "(I)I"⟩, prog_14_method_23_code, 2, some .int, false, 1) (7009, 7008, 51, 1013) := ⟨rfl, rfl, Or.inr (Or.inr rfl), rfl, mc_14.1, mc_14.2, md_0, by decide⟩
theorem mp_222 : sm_mP (⟨"WhatWasNearlyModel", "isLetterByte", "(I)Z"⟩, prog_14_method_24_code, 1, some .boolean, true, 1) (7016, 7015, 0, 1013) := ⟨rfl, rfl, Or.inl rfl, rfl, mc_14.1, mc_14.2, md_14, by decide⟩
theorem mp_223 : sm_mP (⟨"WhatWasNearlyModel", "isFigure", "(I)Z"⟩, prog_14_method_25_code, 1, some .boolean, true, 1) (7012, 7011, 0, 1013) := ⟨rfl, rfl, Or.inl rfl, rfl, mc_14.1, mc_14.2, md_14, by decide⟩
theorem mp_224 : sm_mP (⟨"WhatWasNearlyModel", "isSign", "(I)Z"⟩, prog_14_method_26_code, 1, some .boolean, true, 1) (7020, 7019, 0, 1013) := ⟨rfl, rfl, Or.inl rfl, rfl, mc_14.1, mc_14.2, md_14, by decide⟩
theorem mp_225 : sm_mP (⟨"WhatWasNearlyModel", "nextToken", "()V"⟩, prog_14_method_27_code, 2, none, false, 0) (7005, 7004, 50, 1013) := ⟨rfl, rfl, Or.inr (Or.inr rfl), rfl, mc_14.1, mc_14.2, md_2, by decide⟩
theorem mp_226 : sm_mP (⟨"WhatWasNearlyModel", "w2", "(II)J"⟩, prog_14_method_28_code, 2, some .long, true, 2) (7034, 7033, 0, 1013) := ⟨rfl, rfl, Or.inl rfl, rfl, mc_14.1, mc_14.2, md_35, by decide⟩
theorem mp_227 : sm_mP (⟨"WhatWasNearlyModel", "w3", "(III)J"⟩, prog_14_method_29_code, 3, some .long, true, 3) (7031, 7030, 0, 1013) := ⟨rfl, rfl, Or.inl rfl, rfl, mc_14.1, mc_14.2, md_36, by decide⟩
theorem mp_228 : sm_mP (⟨"WhatWasNearlyModel", "w4", "(IIII)J"⟩, prog_14_method_30_code, 4, some .long, true, 4) (7044, 7043, 0, 1013) := ⟨rfl, rfl, Or.inl rfl, rfl, mc_14.1, mc_14.2, md_37, by decide⟩
theorem mp_229 : sm_mP (⟨"WhatWasNearlyModel", "w5", "(IIIII)J"⟩, prog_14_method_31_code, 5, some .long, true, 5) (7041, 7040, 0, 1013) := ⟨rfl, rfl, Or.inl rfl, rfl, mc_14.1, mc_14.2, md_38, by decide⟩
theorem mp_230 : sm_mP (⟨"WhatWasNearlyModel", "w6", "(IIIIII)J"⟩, prog_14_method_32_code, 6, some .long, true, 6) (7047, 7046, 0, 1013) := ⟨rfl, rfl, Or.inl rfl, rfl, mc_14.1, mc_14.2, md_39, by decide⟩
theorem mp_231 : sm_mP (⟨"WhatWasNearlyModel", "isWord", "(J)Z"⟩, prog_14_method_33_code, 3, some .boolean, false, 1) (7038, 7037, 54, 1013) := ⟨rfl, rfl, Or.inr (Or.inr rfl), rfl, mc_14.1, mc_14.2, md_40, by decide⟩
theorem mp_232 : sm_mP (⟨"WhatWasNearlyModel", "emit", "(II)V"⟩, prog_14_method_34_code, 3, none, false, 2) (7102, 7101, 67, 1013) := ⟨rfl, rfl, Or.inr (Or.inr rfl), rfl, mc_14.1, mc_14.2, md_9, by decide⟩
theorem mp_233 : sm_mP (⟨"WhatWasNearlyModel", "nameOf", "()I"⟩, prog_14_method_35_code, 1, some .int, false, 0) (7114, 7113, 70, 1013) := ⟨rfl, rfl, Or.inr (Or.inr rfl), rfl, mc_14.1, mc_14.2, md_4, by decide⟩
theorem mp_234 : sm_mP (⟨"WhatWasNearlyModel", "rank", "(I)I"⟩, prog_14_method_36_code, 1, some .int, true, 1) (7090, 7089, 0, 1013) := ⟨rfl, rfl, Or.inl rfl, rfl, mc_14.1, mc_14.2, md_0, by decide⟩
theorem mp_235 : sm_mP (⟨"WhatWasNearlyModel", "settle", "(I)V"⟩, prog_14_method_37_code, 2, none, false, 1) (7098, 7097, 66, 1013) := ⟨rfl, rfl, Or.inr (Or.inr rfl), rfl, mc_14.1, mc_14.2, md_21, by decide⟩
theorem mp_236 : sm_mP (⟨"WhatWasNearlyModel", "openNow", "()I"⟩, prog_14_method_38_code, 2, some .int, false, 0) (7083, 7082, 63, 1013) := ⟨rfl, rfl, Or.inr (Or.inr rfl), rfl, mc_14.1, mc_14.2, md_4, by decide⟩
theorem mp_237 : sm_mP (⟨"WhatWasNearlyModel", "isCompared", "()Z"⟩, prog_14_method_39_code, 2, some .boolean, false, 0) (7087, 7086, 64, 1013) := ⟨rfl, rfl, Or.inr (Or.inr rfl), rfl, mc_14.1, mc_14.2, md_22, by decide⟩
theorem mp_238 : sm_mP (⟨"WhatWasNearlyModel", "isAskHere", "()Z"⟩, prog_14_method_40_code, 1, some .boolean, false, 0) (7079, 7078, 62, 1013) := ⟨rfl, rfl, Or.inr (Or.inr rfl), rfl, mc_14.1, mc_14.2, md_22, by decide⟩
theorem mp_239 : sm_mP (⟨"WhatWasNearlyModel", "isAskAhead", "()Z"⟩, prog_14_method_41_code, 1, some .boolean, false, 0) (7122, 7121, 72, 1013) := ⟨rfl, rfl, Or.inr (Or.inr rfl), rfl, mc_14.1, mc_14.2, md_22, by decide⟩
theorem mp_240 : sm_mP (⟨"WhatWasNearlyModel", "opened", "(I)I"⟩, prog_14_method_42_code, 2, some .int, false, 1) (7118, 7117, 71, 1013) := ⟨rfl, rfl, Or.inr (Or.inr rfl), rfl, mc_14.1, mc_14.2, md_0, by decide⟩
theorem mp_241 : sm_mP (⟨"WhatWasNearlyModel", "asked", "(II)I"⟩, prog_14_method_43_code, 3, some .int, false, 2) (7126, 7125, 73, 1013) := ⟨rfl, rfl, Or.inr (Or.inr rfl), rfl, mc_14.1, mc_14.2, md_15, by decide⟩
theorem mp_242 : sm_mP (⟨"WhatWasNearlyModel", "beginOne", "()I"⟩, prog_14_method_44_code, 2, some .int, false, 0) (7110, 7109, 69, 1013) := ⟨rfl, rfl, Or.inr (Or.inr rfl), rfl, mc_14.1, mc_14.2, md_4, by decide⟩
theorem mp_243 : sm_mP (⟨"WhatWasNearlyModel", "compareOf", "()I"⟩, prog_14_method_45_code, 1, some .int, false, 0) (7094, 7093, 65, 1013) := ⟨rfl, rfl, Or.inr (Or.inr rfl), rfl, mc_14.1, mc_14.2, md_4, by decide⟩
theorem mp_244 : sm_mP (⟨"WhatWasNearlyModel", "betweenOf", "()I"⟩, prog_14_method_46_code, 2, some .int, false, 0) (7075, 7074, 61, 1013) := ⟨rfl, rfl, Or.inr (Or.inr rfl), rfl, mc_14.1, mc_14.2, md_4, by decide⟩
theorem mp_245 : sm_mP (⟨"WhatWasNearlyModel", "nextOfCount", "()I"⟩, prog_14_method_47_code, 1, some .int, false, 0) (7106, 7105, 68, 1013) := ⟨rfl, rfl, Or.inr (Or.inr rfl), rfl, mc_14.1, mc_14.2, md_4, by decide⟩
theorem mp_246 : sm_mP (⟨"WhatWasNearlyModel", "behindOne", "()I"⟩, prog_14_method_48_code, 3, some .int, false, 0) (7071, 7070, 60, 1013) := ⟨rfl, rfl, Or.inr (Or.inr rfl), rfl, mc_14.1, mc_14.2, md_4, by decide⟩
theorem mp_247 : sm_mP (⟨"WhatWasNearlyModel", "whole", "()I"⟩, prog_14_method_49_code, 2, some .int, false, 0) (7067, 7066, 59, 1013) := ⟨rfl, rfl, Or.inr (Or.inr rfl), rfl, mc_14.1, mc_14.2, md_4, by decide⟩
theorem mp_248 : sm_mP (⟨"WhatWasNearlyModel", "figure", "(III)I"⟩, prog_14_method_50_code, 4, some .int, false, 3) (7059, 7058, 57, 1013) := ⟨rfl, rfl, Or.inr (Or.inr rfl), rfl, mc_14.1, mc_14.2, md_17, by decide⟩
theorem mp_249 : sm_mP (⟨"WhatWasNearlyModel", "lawClause", "(I)I"⟩, prog_14_method_51_code, 3, some .int, false, 1) (7063, 7062, 58, 1013) := ⟨rfl, rfl, Or.inr (Or.inr rfl), rfl, mc_14.1, mc_14.2, md_0, by decide⟩
theorem mp_250 : sm_mP (⟨"WhatWasNearlyModel", "pair", "(IIJII)I"⟩, prog_14_method_52_code, 8, some .int, false, 5) (7055, 7054, 56, 1013) := ⟨rfl, rfl, Or.inr (Or.inr rfl), rfl, mc_14.1, mc_14.2, md_41, by decide⟩
theorem mp_251 : sm_mP (⟨"WhatWasNearlyModel", "body", "(II)I"⟩, prog_14_method_53_code, 3, some .int, false, 2) (7051, 7050, 55, 1013) := ⟨rfl, rfl, Or.inr (Or.inr rfl), rfl, mc_14.1, mc_14.2, md_15, by decide⟩
theorem mp_252 : sm_mP (⟨"WhatWasNearlyModel", "sortOf", "()I"⟩, prog_14_method_54_code, 1, some .int, false, 0) (7028, 7027, 53, 1013) := ⟨rfl, rfl, Or.inr (Or.inr rfl), rfl, mc_14.1, mc_14.2, md_4, by decide⟩
theorem mp_253 : sm_mP (⟨"WhatWasNearlyModel", "clause", "()I"⟩, prog_14_method_55_code, 5, some .int, false, 0) (7024, 7023, 52, 1013) := ⟨rfl, rfl, Or.inr (Or.inr rfl), rfl, mc_14.1, mc_14.2, md_4, by decide⟩
theorem mp_254 : sm_mP (⟨"WhatWasNearlyModel", "readText", "()I"⟩, prog_14_method_56_code, 2, some .int, false, 0) (7001, 7000, 49, 1013) := ⟨rfl, rfl, Or.inr (Or.inr rfl), rfl, mc_14.1, mc_14.2, md_4, by decide⟩
theorem mp_255 : sm_mP (⟨"WhatWasNearlyModel", "text", "()I"⟩, prog_14_method_57_code, 1, some .int, false, 0) (6237, 6235, 6236, 1013) := ⟨rfl, rfl, Or.inr (Or.inr rfl), rfl, mc_14.1, mc_14.2, md_4, by decide⟩
theorem mp_256 : sm_mP (⟨"WhatWasNearlyModel", "fault", "(I)I"⟩, prog_14_method_58_code, 2, some .int, false, 1) (7130, 7128, 7129, 1013) := ⟨rfl, rfl, Or.inr (Or.inr rfl), rfl, mc_14.1, mc_14.2, md_0, by decide⟩
theorem mp_257 : sm_mP (⟨"WhatWasNearlyModel", "by", "(I)Z"⟩, prog_14_method_59_code, 2, some .boolean, false, 1) (7134, 7132, 7133, 1013) := ⟨rfl, rfl, Or.inr (Or.inr rfl), rfl, mc_14.1, mc_14.2, md_14, by decide⟩
theorem mp_258 : sm_mP (⟨"WhatWasNearlyModel", "clip", "(J)J"⟩, prog_14_method_60_code, 2, some .long, true, 1) (8013, 8012, 0, 1013) := ⟨rfl, rfl, Or.inl rfl, rfl, mc_14.1, mc_14.2, md_42, by decide⟩
theorem mp_259 : sm_mP (⟨"WhatWasNearlyModel", "two", "(IJJ)J"⟩, prog_14_method_61_code, 5, some .long, true, 3) (8010, 8009, 0, 1013) := ⟨rfl, rfl, Or.inl rfl, rfl, mc_14.1, mc_14.2, md_43, by decide⟩
theorem mp_260 : sm_mP (⟨"WhatWasNearlyModel", "isAsked", "(IJJ)Z"⟩, prog_14_method_62_code, 5, some .boolean, true, 3) (8018, 8017, 0, 1013) := ⟨rfl, rfl, Or.inl rfl, rfl, mc_14.1, mc_14.2, md_44, by decide⟩
theorem mp_261 : sm_mP (⟨"WhatWasNearlyModel", "counted", "(II)I"⟩, prog_14_method_63_code, 5, some .int, false, 2) (8007, 8006, 86, 1013) := ⟨rfl, rfl, Or.inr (Or.inr rfl), rfl, mc_14.1, mc_14.2, md_15, by decide⟩
theorem mp_262 : sm_mP (⟨"WhatWasNearlyModel", "isSo", "(IIII)Z"⟩, prog_14_method_64_code, 14, some .boolean, false, 4) (8000, 7239, 85, 1013) := ⟨rfl, rfl, Or.inr (Or.inr rfl), rfl, mc_14.1, mc_14.2, md_45, by decide⟩
theorem mp_263 : sm_mP (⟨"WhatWasNearlyModel", "eventsOf", "(I)I"⟩, prog_14_method_65_code, 4, some .int, false, 1) (8236, 8235, 105, 1013) := ⟨rfl, rfl, Or.inr (Or.inr rfl), rfl, mc_14.1, mc_14.2, md_0, by decide⟩
theorem mp_264 : sm_mP (⟨"WhatWasNearlyModel", "layWay", "(II)V"⟩, prog_14_method_66_code, 7, none, false, 2) (7236, 7235, 84, 1013) := ⟨rfl, rfl, Or.inr (Or.inr rfl), rfl, mc_14.1, mc_14.2, md_9, by decide⟩
theorem mp_265 : sm_mP (⟨"WhatWasNearlyModel", "layWays", "(I)V"⟩, prog_14_method_67_code, 3, none, false, 1) (8042, 8041, 89, 1013) := ⟨rfl, rfl, Or.inr (Or.inr rfl), rfl, mc_14.1, mc_14.2, md_21, by decide⟩
theorem mp_266 : sm_mP (⟨"WhatWasNearlyModel", "layAll", "()V"⟩, prog_14_method_68_code, 1, none, false, 0) (8038, 8037, 88, 1013) := ⟨rfl, rfl, Or.inr (Or.inr rfl), rfl, mc_14.1, mc_14.2, md_2, by decide⟩
theorem mp_267 : sm_mP (⟨"WhatWasNearlyModel", "areAgreed", "(II)Z"⟩, prog_14_method_69_code, 4, some .boolean, false, 2) (8022, 8021, 87, 1013) := ⟨rfl, rfl, Or.inr (Or.inr rfl), rfl, mc_14.1, mc_14.2, md_8, by decide⟩
theorem mp_268 : sm_mP (⟨"WhatWasNearlyModel", "keep", "()V"⟩, prog_14_method_70_code, 3, none, false, 0) (7154, 7153, 75, 1013) := ⟨rfl, rfl, Or.inr (Or.inr rfl), rfl, mc_14.1, mc_14.2, md_2, by decide⟩
theorem mp_269 : sm_mP (⟨"WhatWasNearlyModel", "undo", "()I"⟩, prog_14_method_71_code, 3, some .int, false, 0) (7138, 7136, 7137, 1013) := ⟨rfl, rfl, Or.inr (Or.inr rfl), rfl, mc_14.1, mc_14.2, md_4, by decide⟩
theorem mp_270 : sm_mP (⟨"WhatWasNearlyModel", "was", "()I"⟩, prog_14_method_72_code, 3, some .int, false, 0) (7142, 7140, 7141, 1013) := ⟨rfl, rfl, Or.inr (Or.inr rfl), rfl, mc_14.1, mc_14.2, md_4, by decide⟩
theorem mp_271 : sm_mP (⟨"WhatWasNearlyModel", "turn", "(I)I"⟩, prog_14_method_73_code, 2, some .int, false, 1) (7146, 7144, 7145, 1013) := ⟨rfl, rfl, Or.inr (Or.inr rfl), rfl, mc_14.1, mc_14.2, md_0, by decide⟩
theorem mp_272 : sm_mP (⟨"WhatWasNearlyModel", "set", "(II)Z"⟩, prog_14_method_74_code, 3, some .boolean, false, 2) (7167, 7165, 7166, 1013) := ⟨rfl, rfl, Or.inr (Or.inr rfl), rfl, mc_14.1, mc_14.2, md_8, by decide⟩
theorem mp_273 : sm_mP (⟨"WhatWasNearlyModel", "piecesIn", "(I)I"⟩, prog_14_method_75_code, 4, some .int, false, 1) (7187, 7186, 81, 1013) := ⟨rfl, rfl, Or.inr (Or.inr rfl), rfl, mc_14.1, mc_14.2, md_0, by decide⟩
theorem mp_274 : sm_mP (⟨"WhatWasNearlyModel", "canPut", "(II)Z"⟩, prog_14_method_76_code, 3, some .boolean, false, 2) (7183, 7182, 80, 1013) := ⟨rfl, rfl, Or.inr (Or.inr rfl), rfl, mc_14.1, mc_14.2, md_8, by decide⟩
theorem mp_275 : sm_mP (⟨"WhatWasNearlyModel", "put", "(II)Z"⟩, prog_14_method_77_code, 3, some .boolean, false, 2) (7175, 7173, 7174, 1013) := ⟨rfl, rfl, Or.inr (Or.inr rfl), rfl, mc_14.1, mc_14.2, md_8, by decide⟩
theorem mp_276 : sm_mP (⟨"WhatWasNearlyModel", "take", "(I)I"⟩, prog_14_method_78_code, 3, some .int, false, 1) (7194, 7192, 7193, 1013) := ⟨rfl, rfl, Or.inr (Or.inr rfl), rfl, mc_14.1, mc_14.2, md_0, by decide⟩
theorem mp_277 : sm_mP (⟨"WhatWasNearlyModel", "isPlayed", "(I)Z"⟩, prog_14_method_79_code, 4, some .boolean, false, 1) (7202, 7201, 82, 1013) := ⟨rfl, rfl, Or.inr (Or.inr rfl), rfl, mc_14.1, mc_14.2, md_14, by decide⟩
theorem mp_278 : sm_mP (⟨"WhatWasNearlyModel", "played", "(I)I"⟩, prog_14_method_80_code, 3, some .int, false, 1) (7198, 7196, 7197, 1013) := ⟨rfl, rfl, Or.inr (Or.inr rfl), rfl, mc_14.1, mc_14.2, md_0, by decide⟩
theorem mp_279 : sm_mP (⟨"WhatWasNearlyModel", "happens", "(I)V"⟩, prog_14_method_81_code, 5, none, false, 1) (7216, 7215, 83, 1013) := ⟨rfl, rfl, Or.inr (Or.inr rfl), rfl, mc_14.1, mc_14.2, md_21, by decide⟩
theorem mp_280 : sm_mP (⟨"WhatWasNearlyModel", "years", "(II)I"⟩, prog_14_method_82_code, 5, some .int, false, 2) (7212, 7210, 7211, 1013) := ⟨rfl, rfl, Or.inr (Or.inr rfl), rfl, mc_14.1, mc_14.2, md_15, by decide⟩
theorem mp_281 : sm_mP (⟨"WhatWasNearlyModel", "ofChoice", "(II)I"⟩, prog_14_method_83_code, 3, some .int, false, 2) (7220, 7218, 7219, 1013) := ⟨rfl, rfl, Or.inr (Or.inr rfl), rfl, mc_14.1, mc_14.2, md_15, by decide⟩
theorem mp_282 : sm_mP (⟨"WhatWasNearlyModel", "ofPiece", "(II)I"⟩, prog_14_method_84_code, 3, some .int, false, 2) (7224, 7222, 7223, 1013) := ⟨rfl, rfl, Or.inr (Or.inr rfl), rfl, mc_14.1, mc_14.2, md_15, by decide⟩
theorem mp_283 : sm_mP (⟨"WhatWasNearlyModel", "ofRoom", "(II)I"⟩, prog_14_method_85_code, 3, some .int, false, 2) (7228, 7226, 7227, 1013) := ⟨rfl, rfl, Or.inr (Or.inr rfl), rfl, mc_14.1, mc_14.2, md_15, by decide⟩
theorem mp_284 : sm_mP (⟨"WhatWasNearlyModel", "agrees", "(II)I"⟩, prog_14_method_86_code, 3, some .int, false, 2) (7232, 7230, 7231, 1013) := ⟨rfl, rfl, Or.inr (Or.inr rfl), rfl, mc_14.1, mc_14.2, md_15, by decide⟩
theorem mp_285 : sm_mP (⟨"WhatWasNearlyModel", "follows", "(I)I"⟩, prog_14_method_87_code, 2, some .int, false, 1) (8026, 8024, 8025, 1013) := ⟨rfl, rfl, Or.inr (Or.inr rfl), rfl, mc_14.1, mc_14.2, md_0, by decide⟩
theorem mp_286 : sm_mP (⟨"WhatWasNearlyModel", "mayBe", "(I)I"⟩, prog_14_method_88_code, 2, some .int, false, 1) (8030, 8028, 8029, 1013) := ⟨rfl, rfl, Or.inr (Or.inr rfl), rfl, mc_14.1, mc_14.2, md_0, by decide⟩
theorem mp_287 : sm_mP (⟨"WhatWasNearlyModel", "cannot", "()I"⟩, prog_14_method_89_code, 2, some .int, false, 0) (8034, 8032, 8033, 1013) := ⟨rfl, rfl, Or.inr (Or.inr rfl), rfl, mc_14.1, mc_14.2, md_4, by decide⟩
theorem mp_288 : sm_mP (⟨"WhatWasNearlyModel", "agreed", "(II)I"⟩, prog_14_method_90_code, 5, some .int, false, 2) (8054, 8053, 91, 1013) := ⟨rfl, rfl, Or.inr (Or.inr rfl), rfl, mc_14.1, mc_14.2, md_15, by decide⟩
theorem mp_289 : sm_mP (⟨"WhatWasNearlyModel", "most", "(IZ)I"⟩, prog_14_method_91_code, 6, some .int, false, 2) (8046, 8044, 8045, 1013) := ⟨rfl, rfl, Or.inr (Or.inr rfl), rfl, mc_14.1, mc_14.2, md_30, by decide⟩
theorem mp_290 : sm_mP (⟨"WhatWasNearlyModel", "isClash", "(I)Z"⟩, prog_14_method_92_code, 3, some .boolean, false, 1) (8062, 8061, 92, 1013) := ⟨rfl, rfl, Or.inr (Or.inr rfl), rfl, mc_14.1, mc_14.2, md_14, by decide⟩
theorem mp_291 : sm_mP (⟨"WhatWasNearlyModel", "clash", "(I)I"⟩, prog_14_method_93_code, 4, some .int, false, 1) (8058, 8056, 8057, 1013) := ⟨rfl, rfl, Or.inr (Or.inr rfl), rfl, mc_14.1, mc_14.2, md_0, by decide⟩
theorem mp_292 : sm_mP (⟨"WhatWasNearlyModel", "fact", "(IZZ)I"⟩, prog_14_method_94_code, 5, some .int, false, 3) (8066, 8064, 8065, 1013) := ⟨rfl, rfl, Or.inr (Or.inr rfl), rfl, mc_14.1, mc_14.2, md_18, by decide⟩
theorem mp_293 : sm_mP (⟨"WhatWasNearlyModel", "isLeft", "(I)Z"⟩, prog_14_method_95_code, 4, some .boolean, false, 1) (8077, 8076, 93, 1013) := ⟨rfl, rfl, Or.inr (Or.inr rfl), rfl, mc_14.1, mc_14.2, md_14, by decide⟩
theorem mp_294 : sm_mP (⟨"WhatWasNearlyModel", "left", "(I)I"⟩, prog_14_method_96_code, 4, some .int, false, 1) (8073, 8071, 8072, 1013) := ⟨rfl, rfl, Or.inr (Or.inr rfl), rfl, mc_14.1, mc_14.2, md_0, by decide⟩
theorem mp_295 : sm_mP (⟨"WhatWasNearlyModel", "sure", "(Z)I"⟩, prog_14_method_97_code, 6, some .int, false, 1) (8081, 8079, 8080, 1013) := ⟨rfl, rfl, Or.inr (Or.inr rfl), rfl, mc_14.1, mc_14.2, md_32, by decide⟩
theorem mp_296 : sm_mP (⟨"WhatWasNearlyModel", "isTelling", "(II)Z"⟩, prog_14_method_98_code, 5, some .boolean, false, 2) (8089, 8088, 94, 1013) := ⟨rfl, rfl, Or.inr (Or.inr rfl), rfl, mc_14.1, mc_14.2, md_8, by decide⟩
theorem mp_297 : sm_mP (⟨"WhatWasNearlyModel", "ask", "(I)I"⟩, prog_14_method_99_code, 4, some .int, false, 1) (8085, 8083, 8084, 1013) := ⟨rfl, rfl, Or.inr (Or.inr rfl), rfl, mc_14.1, mc_14.2, md_0, by decide⟩
theorem mp_298 : sm_mP (⟨"WhatWasNearlyModel", "halves", "()I"⟩, prog_14_method_100_code, 7, some .int, false, 0) (8093, 8091, 8092, 1013) := ⟨rfl, rfl, Or.inr (Or.inr rfl), rfl, mc_14.1, mc_14.2, md_4, by decide⟩
theorem mp_299 : sm_mP (⟨"WhatWasNearlyModel", "least", "(IZ)I"⟩, prog_14_method_101_code, 7, some .int, false, 2) (8098, 8096, 8097, 1013) := ⟨rfl, rfl, Or.inr (Or.inr rfl), rfl, mc_14.1, mc_14.2, md_30, by decide⟩
theorem mp_300 : sm_mP (⟨"WhatWasNearlyModel", "changing", "(II)I"⟩, prog_14_method_102_code, 5, some .int, false, 2) (8106, 8105, 95, 1013) := ⟨rfl, rfl, Or.inr (Or.inr rfl), rfl, mc_14.1, mc_14.2, md_15, by decide⟩
theorem mp_301 : sm_mP (⟨"WhatWasNearlyModel", "noMatter", "(I)I"⟩, prog_14_method_103_code, 4, some .int, false, 1) (8102, 8100, 8101, 1013) := ⟨rfl, rfl, Or.inr (Or.inr rfl), rfl, mc_14.1, mc_14.2, md_0, by decide⟩
theorem mp_302 : sm_mP (⟨"WhatWasNearlyModel", "common", "(JJ)J"⟩, prog_14_method_104_code, 10, some .long, true, 2) (8116, 8115, 0, 1013) := ⟨rfl, rfl, Or.inl rfl, rfl, mc_14.1, mc_14.2, md_46, by decide⟩
theorem mp_303 : sm_mP (⟨"WhatWasNearlyModel", "part", "(JJZ)I"⟩, prog_14_method_105_code, 5, some .int, true, 3) (8113, 8112, 0, 1013) := ⟨rfl, rfl, Or.inl rfl, rfl, mc_14.1, mc_14.2, md_47, by decide⟩
theorem mp_304 : sm_mP (⟨"WhatWasNearlyModel", "turnsIt", "(IIZ)I"⟩, prog_14_method_106_code, 4, some .int, false, 3) (8110, 8108, 8109, 1013) := ⟨rfl, rfl, Or.inr (Or.inr rfl), rfl, mc_14.1, mc_14.2, md_33, by decide⟩
theorem mp_305 : sm_mP (⟨"WhatWasNearlyModel", "leanOn", "(I)I"⟩, prog_14_method_107_code, 4, some .int, false, 1) (8120, 8118, 8119, 1013) := ⟨rfl, rfl, Or.inr (Or.inr rfl), rfl, mc_14.1, mc_14.2, md_0, by decide⟩
theorem mp_306 : sm_mP (⟨"WhatWasNearlyModel", "agreeIn", "(I)I"⟩, prog_14_method_108_code, 4, some .int, false, 1) (8124, 8122, 8123, 1013) := ⟨rfl, rfl, Or.inr (Or.inr rfl), rfl, mc_14.1, mc_14.2, md_0, by decide⟩
theorem mp_307 : sm_mP (⟨"WhatWasNearlyModel", "isThere", "(II)Z"⟩, prog_14_method_109_code, 6, some .boolean, false, 2) (8136, 8135, 97, 1013) := ⟨rfl, rfl, Or.inr (Or.inr rfl), rfl, mc_14.1, mc_14.2, md_8, by decide⟩
theorem mp_308 : sm_mP (⟨"WhatWasNearlyModel", "there", "(II)I"⟩, prog_14_method_110_code, 3, some .int, false, 2) (8128, 8126, 8127, 1013) := ⟨rfl, rfl, Or.inr (Or.inr rfl), rfl, mc_14.1, mc_14.2, md_15, by decide⟩
theorem mp_309 : sm_mP (⟨"WhatWasNearlyModel", "thereIn", "(I)I"⟩, prog_14_method_111_code, 4, some .int, false, 1) (8140, 8138, 8139, 1013) := ⟨rfl, rfl, Or.inr (Or.inr rfl), rfl, mc_14.1, mc_14.2, md_0, by decide⟩
theorem mp_310 : sm_mP (⟨"WhatWasNearlyModel", "lookedFor", "(I)I"⟩, prog_14_method_112_code, 4, some .int, false, 1) (8144, 8142, 8143, 1013) := ⟨rfl, rfl, Or.inr (Or.inr rfl), rfl, mc_14.1, mc_14.2, md_0, by decide⟩
theorem mp_311 : sm_mP (⟨"WhatWasNearlyModel", "elders", "(I)I"⟩, prog_14_method_113_code, 4, some .int, false, 1) (8148, 8146, 8147, 1013) := ⟨rfl, rfl, Or.inr (Or.inr rfl), rfl, mc_14.1, mc_14.2, md_0, by decide⟩
theorem mp_312 : sm_mP (⟨"WhatWasNearlyModel", "findDoors", "(I)V"⟩, prog_14_method_114_code, 6, none, false, 1) (8156, 8155, 98, 1013) := ⟨rfl, rfl, Or.inr (Or.inr rfl), rfl, mc_14.1, mc_14.2, md_21, by decide⟩
theorem mp_313 : sm_mP (⟨"WhatWasNearlyModel", "walk", "(III)I"⟩, prog_14_method_115_code, 7, some .int, false, 3) (8152, 8150, 8151, 1013) := ⟨rfl, rfl, Or.inr (Or.inr rfl), rfl, mc_14.1, mc_14.2, md_17, by decide⟩
theorem mp_314 : sm_mP (⟨"WhatWasNearlyModel", "nextDoor", "()I"⟩, prog_14_method_116_code, 4, some .int, false, 0) (8160, 8158, 8159, 1013) := ⟨rfl, rfl, Or.inr (Or.inr rfl), rfl, mc_14.1, mc_14.2, md_4, by decide⟩
theorem mp_315 : sm_mP (⟨"WhatWasNearlyModel", "empty", "()I"⟩, prog_14_method_117_code, 3, some .int, false, 0) (8164, 8162, 8163, 1013) := ⟨rfl, rfl, Or.inr (Or.inr rfl), rfl, mc_14.1, mc_14.2, md_4, by decide⟩
theorem mp_316 : sm_mP (⟨"WhatWasNearlyModel", "isText", "(I)Z"⟩, prog_14_method_118_code, 2, some .boolean, false, 1) (8172, 8171, 99, 1013) := ⟨rfl, rfl, Or.inr (Or.inr rfl), rfl, mc_14.1, mc_14.2, md_14, by decide⟩
theorem mp_317 : sm_mP (⟨"WhatWasNearlyModel", "unlikeOf", "(III)I"⟩, prog_14_method_119_code, 5, some .int, false, 3) (8176, 8175, 100, 1013) := ⟨rfl, rfl, Or.inr (Or.inr rfl), rfl, mc_14.1, mc_14.2, md_17, by decide⟩
theorem mp_318 : sm_mP (⟨"WhatWasNearlyModel", "differ", "(III)I"⟩, prog_14_method_120_code, 6, some .int, false, 3) (8168, 8166, 8167, 1013) := ⟨rfl, rfl, Or.inr (Or.inr rfl), rfl, mc_14.1, mc_14.2, md_17, by decide⟩
theorem mp_319 : sm_mP (⟨"WhatWasNearlyModel", "unlike", "(II)I"⟩, prog_14_method_121_code, 5, some .int, false, 2) (8180, 8178, 8179, 1013) := ⟨rfl, rfl, Or.inr (Or.inr rfl), rfl, mc_14.1, mc_14.2, md_15, by decide⟩
theorem mp_320 : sm_mP (⟨"WhatWasNearlyModel", "gifts", "()I"⟩, prog_14_method_122_code, 1, some .int, false, 0) (8184, 8182, 8183, 1013) := ⟨rfl, rfl, Or.inr (Or.inr rfl), rfl, mc_14.1, mc_14.2, md_4, by decide⟩
theorem mp_321 : sm_mP (⟨"WhatWasNearlyModel", "oddsOf", "(I)I"⟩, prog_14_method_123_code, 4, some .int, false, 1) (8192, 8191, 101, 1013) := ⟨rfl, rfl, Or.inr (Or.inr rfl), rfl, mc_14.1, mc_14.2, md_0, by decide⟩
theorem mp_322 : sm_mP (⟨"WhatWasNearlyModel", "allOdds", "()I"⟩, prog_14_method_124_code, 3, some .int, false, 0) (8196, 8195, 102, 1013) := ⟨rfl, rfl, Or.inr (Or.inr rfl), rfl, mc_14.1, mc_14.2, md_4, by decide⟩
theorem mp_323 : sm_mP (⟨"WhatWasNearlyModel", "chance", "(IZ)I"⟩, prog_14_method_125_code, 5, some .int, false, 2) (8188, 8186, 8187, 1013) := ⟨rfl, rfl, Or.inr (Or.inr rfl), rfl, mc_14.1, mc_14.2, md_30, by decide⟩
theorem mp_324 : sm_mP (⟨"WhatWasNearlyModel", "chanceOf", "(IZ)I"⟩, prog_14_method_126_code, 3, some .int, false, 2) (8200, 8198, 8199, 1013) := ⟨rfl, rfl, Or.inr (Or.inr rfl), rfl, mc_14.1, mc_14.2, md_30, by decide⟩
theorem mp_325 : sm_mP (⟨"WhatWasNearlyModel", "nearly", "(I)I"⟩, prog_14_method_127_code, 5, some .int, false, 1) (8204, 8202, 8203, 1013) := ⟨rfl, rfl, Or.inr (Or.inr rfl), rfl, mc_14.1, mc_14.2, md_0, by decide⟩
theorem mp_326 : sm_mP (⟨"WhatWasNearlyModel", "laidBy", "(II)I"⟩, prog_14_method_128_code, 7, some .int, false, 2) (8216, 8215, 104, 1013) := ⟨rfl, rfl, Or.inr (Or.inr rfl), rfl, mc_14.1, mc_14.2, md_15, by decide⟩
theorem mp_327 : sm_mP (⟨"WhatWasNearlyModel", "layOut", "(I)I"⟩, prog_14_method_129_code, 5, some .int, false, 1) (8212, 8211, 103, 1013) := ⟨rfl, rfl, Or.inr (Or.inr rfl), rfl, mc_14.1, mc_14.2, md_0, by decide⟩
theorem mp_328 : sm_mP (⟨"WhatWasNearlyModel", "laidOut", "(II)I"⟩, prog_14_method_130_code, 9, some .int, false, 2) (8208, 8206, 8207, 1013) := ⟨rfl, rfl, Or.inr (Or.inr rfl), rfl, mc_14.1, mc_14.2, md_15, by decide⟩
theorem mp_329 : sm_mP (⟨"WhatWasNearlyModel", "alike", "(I)I"⟩, prog_14_method_131_code, 4, some .int, false, 1) (8220, 8218, 8219, 1013) := ⟨rfl, rfl, Or.inr (Or.inr rfl), rfl, mc_14.1, mc_14.2, md_0, by decide⟩
theorem mp_330 : sm_mP (⟨"WhatWasNearlyModel", "image", "()I"⟩, prog_14_method_132_code, 1, some .int, false, 0) (8224, 8222, 8223, 1013) := ⟨rfl, rfl, Or.inr (Or.inr rfl), rfl, mc_14.1, mc_14.2, md_4, by decide⟩
theorem mp_331 : sm_mP (⟨"WhatWasNearlyModel", "back", "()I"⟩, prog_14_method_133_code, 1, some .int, false, 0) (8228, 8226, 8227, 1013) := ⟨rfl, rfl, Or.inr (Or.inr rfl), rfl, mc_14.1, mc_14.2, md_4, by decide⟩
theorem mp_332 : sm_mP (⟨"WhatWasNearlyModel", "about", "(I)I"⟩, prog_14_method_134_code, 2, some .int, false, 1) (8232, 8230, 8231, 1013) := ⟨rfl, rfl, Or.inr (Or.inr rfl), rfl, mc_14.1, mc_14.2, md_0, by decide⟩
theorem mq_0 : sm_all (fun q => ∃ h, sm_mP q h) sm_ml_0 := ⟨⟨_, mp_0⟩, ⟨_, mp_1⟩, ⟨_, mp_2⟩, ⟨_, mp_3⟩, ⟨_, mp_4⟩, ⟨_, mp_5⟩, ⟨_, mp_6⟩, ⟨_, mp_7⟩, ⟨_, mp_8⟩, ⟨_, mp_9⟩, ⟨_, mp_10⟩, ⟨_, mp_11⟩, ⟨_, mp_12⟩, ⟨_, mp_13⟩, ⟨_, mp_14⟩, ⟨_, mp_15⟩, ⟨_, mp_16⟩, ⟨_, mp_17⟩, ⟨_, mp_18⟩, ⟨_, mp_19⟩, ⟨_, mp_20⟩, ⟨_, mp_21⟩, ⟨_, mp_22⟩, ⟨_, mp_23⟩, ⟨_, mp_24⟩, ⟨_, mp_25⟩, ⟨_, mp_26⟩, ⟨_, mp_27⟩, ⟨_, mp_28⟩, ⟨_, mp_29⟩, ⟨_, mp_30⟩, ⟨_, mp_31⟩, ⟨_, mp_32⟩, ⟨_, mp_33⟩, ⟨_, mp_34⟩, ⟨_, mp_35⟩, ⟨_, mp_36⟩, ⟨_, mp_37⟩, ⟨_, mp_38⟩, ⟨_, mp_39⟩, trivial⟩
theorem mq_1 : sm_all (fun q => ∃ h, sm_mP q h) sm_ml_1 := ⟨⟨_, mp_40⟩, ⟨_, mp_41⟩, ⟨_, mp_42⟩, ⟨_, mp_43⟩, ⟨_, mp_44⟩, ⟨_, mp_45⟩, ⟨_, mp_46⟩, ⟨_, mp_47⟩, ⟨_, mp_48⟩, ⟨_, mp_49⟩, ⟨_, mp_50⟩, ⟨_, mp_51⟩, ⟨_, mp_52⟩, ⟨_, mp_53⟩, ⟨_, mp_54⟩, ⟨_, mp_55⟩, ⟨_, mp_56⟩, ⟨_, mp_57⟩, ⟨_, mp_58⟩, ⟨_, mp_59⟩, ⟨_, mp_60⟩, ⟨_, mp_61⟩, ⟨_, mp_62⟩, ⟨_, mp_63⟩, ⟨_, mp_64⟩, ⟨_, mp_65⟩, ⟨_, mp_66⟩, ⟨_, mp_67⟩, ⟨_, mp_68⟩, ⟨_, mp_69⟩, ⟨_, mp_70⟩, ⟨_, mp_71⟩, ⟨_, mp_72⟩, ⟨_, mp_73⟩, ⟨_, mp_74⟩, ⟨_, mp_75⟩, ⟨_, mp_76⟩, ⟨_, mp_77⟩, ⟨_, mp_78⟩, ⟨_, mp_79⟩, trivial⟩
theorem mq_2 : sm_all (fun q => ∃ h, sm_mP q h) sm_ml_2 := ⟨⟨_, mp_80⟩, ⟨_, mp_81⟩, ⟨_, mp_82⟩, ⟨_, mp_83⟩, ⟨_, mp_84⟩, ⟨_, mp_85⟩, ⟨_, mp_86⟩, ⟨_, mp_87⟩, ⟨_, mp_88⟩, ⟨_, mp_89⟩, ⟨_, mp_90⟩, ⟨_, mp_91⟩, ⟨_, mp_92⟩, ⟨_, mp_93⟩, ⟨_, mp_94⟩, ⟨_, mp_95⟩, ⟨_, mp_96⟩, ⟨_, mp_97⟩, ⟨_, mp_98⟩, ⟨_, mp_99⟩, ⟨_, mp_100⟩, ⟨_, mp_101⟩, ⟨_, mp_102⟩, ⟨_, mp_103⟩, ⟨_, mp_104⟩, ⟨_, mp_105⟩, ⟨_, mp_106⟩, ⟨_, mp_107⟩, ⟨_, mp_108⟩, ⟨_, mp_109⟩, ⟨_, mp_110⟩, ⟨_, mp_111⟩, ⟨_, mp_112⟩, ⟨_, mp_113⟩, ⟨_, mp_114⟩, ⟨_, mp_115⟩, ⟨_, mp_116⟩, ⟨_, mp_117⟩, ⟨_, mp_118⟩, ⟨_, mp_119⟩, trivial⟩
theorem mq_3 : sm_all (fun q => ∃ h, sm_mP q h) sm_ml_3 := ⟨⟨_, mp_120⟩, ⟨_, mp_121⟩, ⟨_, mp_122⟩, ⟨_, mp_123⟩, ⟨_, mp_124⟩, ⟨_, mp_125⟩, ⟨_, mp_126⟩, ⟨_, mp_127⟩, ⟨_, mp_128⟩, ⟨_, mp_129⟩, ⟨_, mp_130⟩, ⟨_, mp_131⟩, ⟨_, mp_132⟩, ⟨_, mp_133⟩, ⟨_, mp_134⟩, ⟨_, mp_135⟩, ⟨_, mp_136⟩, ⟨_, mp_137⟩, ⟨_, mp_138⟩, ⟨_, mp_139⟩, ⟨_, mp_140⟩, ⟨_, mp_141⟩, ⟨_, mp_142⟩, ⟨_, mp_143⟩, ⟨_, mp_144⟩, ⟨_, mp_145⟩, ⟨_, mp_146⟩, ⟨_, mp_147⟩, ⟨_, mp_148⟩, ⟨_, mp_149⟩, ⟨_, mp_150⟩, ⟨_, mp_151⟩, ⟨_, mp_152⟩, ⟨_, mp_153⟩, ⟨_, mp_154⟩, ⟨_, mp_155⟩, ⟨_, mp_156⟩, ⟨_, mp_157⟩, ⟨_, mp_158⟩, ⟨_, mp_159⟩, trivial⟩
theorem mq_4 : sm_all (fun q => ∃ h, sm_mP q h) sm_ml_4 := ⟨⟨_, mp_160⟩, ⟨_, mp_161⟩, ⟨_, mp_162⟩, ⟨_, mp_163⟩, ⟨_, mp_164⟩, ⟨_, mp_165⟩, ⟨_, mp_166⟩, ⟨_, mp_167⟩, ⟨_, mp_168⟩, ⟨_, mp_169⟩, ⟨_, mp_170⟩, ⟨_, mp_171⟩, ⟨_, mp_172⟩, ⟨_, mp_173⟩, ⟨_, mp_174⟩, ⟨_, mp_175⟩, ⟨_, mp_176⟩, ⟨_, mp_177⟩, ⟨_, mp_178⟩, ⟨_, mp_179⟩, ⟨_, mp_180⟩, ⟨_, mp_181⟩, ⟨_, mp_182⟩, ⟨_, mp_183⟩, ⟨_, mp_184⟩, ⟨_, mp_185⟩, ⟨_, mp_186⟩, ⟨_, mp_187⟩, ⟨_, mp_188⟩, ⟨_, mp_189⟩, ⟨_, mp_190⟩, ⟨_, mp_191⟩, ⟨_, mp_192⟩, ⟨_, mp_193⟩, ⟨_, mp_194⟩, ⟨_, mp_195⟩, ⟨_, mp_196⟩, ⟨_, mp_197⟩, ⟨_, mp_198⟩, ⟨_, mp_199⟩, trivial⟩
theorem mq_5 : sm_all (fun q => ∃ h, sm_mP q h) sm_ml_5 := ⟨⟨_, mp_200⟩, ⟨_, mp_201⟩, ⟨_, mp_202⟩, ⟨_, mp_203⟩, ⟨_, mp_204⟩, ⟨_, mp_205⟩, ⟨_, mp_206⟩, ⟨_, mp_207⟩, ⟨_, mp_208⟩, ⟨_, mp_209⟩, ⟨_, mp_210⟩, ⟨_, mp_211⟩, ⟨_, mp_212⟩, ⟨_, mp_213⟩, ⟨_, mp_214⟩, ⟨_, mp_215⟩, ⟨_, mp_216⟩, ⟨_, mp_217⟩, ⟨_, mp_218⟩, ⟨_, mp_219⟩, ⟨_, mp_220⟩, ⟨_, mp_221⟩, ⟨_, mp_222⟩, ⟨_, mp_223⟩, ⟨_, mp_224⟩, ⟨_, mp_225⟩, ⟨_, mp_226⟩, ⟨_, mp_227⟩, ⟨_, mp_228⟩, ⟨_, mp_229⟩, ⟨_, mp_230⟩, ⟨_, mp_231⟩, ⟨_, mp_232⟩, ⟨_, mp_233⟩, ⟨_, mp_234⟩, ⟨_, mp_235⟩, ⟨_, mp_236⟩, ⟨_, mp_237⟩, ⟨_, mp_238⟩, ⟨_, mp_239⟩, trivial⟩
theorem mq_6 : sm_all (fun q => ∃ h, sm_mP q h) sm_ml_6 := ⟨⟨_, mp_240⟩, ⟨_, mp_241⟩, ⟨_, mp_242⟩, ⟨_, mp_243⟩, ⟨_, mp_244⟩, ⟨_, mp_245⟩, ⟨_, mp_246⟩, ⟨_, mp_247⟩, ⟨_, mp_248⟩, ⟨_, mp_249⟩, ⟨_, mp_250⟩, ⟨_, mp_251⟩, ⟨_, mp_252⟩, ⟨_, mp_253⟩, ⟨_, mp_254⟩, ⟨_, mp_255⟩, ⟨_, mp_256⟩, ⟨_, mp_257⟩, ⟨_, mp_258⟩, ⟨_, mp_259⟩, ⟨_, mp_260⟩, ⟨_, mp_261⟩, ⟨_, mp_262⟩, ⟨_, mp_263⟩, ⟨_, mp_264⟩, ⟨_, mp_265⟩, ⟨_, mp_266⟩, ⟨_, mp_267⟩, ⟨_, mp_268⟩, ⟨_, mp_269⟩, ⟨_, mp_270⟩, ⟨_, mp_271⟩, ⟨_, mp_272⟩, ⟨_, mp_273⟩, ⟨_, mp_274⟩, ⟨_, mp_275⟩, ⟨_, mp_276⟩, ⟨_, mp_277⟩, ⟨_, mp_278⟩, ⟨_, mp_279⟩, trivial⟩
theorem mq_7 : sm_all (fun q => ∃ h, sm_mP q h) sm_ml_7 := ⟨⟨_, mp_280⟩, ⟨_, mp_281⟩, ⟨_, mp_282⟩, ⟨_, mp_283⟩, ⟨_, mp_284⟩, ⟨_, mp_285⟩, ⟨_, mp_286⟩, ⟨_, mp_287⟩, ⟨_, mp_288⟩, ⟨_, mp_289⟩, ⟨_, mp_290⟩, ⟨_, mp_291⟩, ⟨_, mp_292⟩, ⟨_, mp_293⟩, ⟨_, mp_294⟩, ⟨_, mp_295⟩, ⟨_, mp_296⟩, ⟨_, mp_297⟩, ⟨_, mp_298⟩, ⟨_, mp_299⟩, ⟨_, mp_300⟩, ⟨_, mp_301⟩, ⟨_, mp_302⟩, ⟨_, mp_303⟩, ⟨_, mp_304⟩, ⟨_, mp_305⟩, ⟨_, mp_306⟩, ⟨_, mp_307⟩, ⟨_, mp_308⟩, ⟨_, mp_309⟩, ⟨_, mp_310⟩, ⟨_, mp_311⟩, ⟨_, mp_312⟩, ⟨_, mp_313⟩, ⟨_, mp_314⟩, ⟨_, mp_315⟩, ⟨_, mp_316⟩, ⟨_, mp_317⟩, ⟨_, mp_318⟩, ⟨_, mp_319⟩, trivial⟩
theorem mq_8 : sm_all (fun q => ∃ h, sm_mP q h) sm_ml_8 := ⟨⟨_, mp_320⟩, ⟨_, mp_321⟩, ⟨_, mp_322⟩, ⟨_, mp_323⟩, ⟨_, mp_324⟩, ⟨_, mp_325⟩, ⟨_, mp_326⟩, ⟨_, mp_327⟩, ⟨_, mp_328⟩, ⟨_, mp_329⟩, ⟨_, mp_330⟩, ⟨_, mp_331⟩, ⟨_, mp_332⟩, trivial⟩
theorem sm_mall : sm_all (fun q => ∃ h, sm_mP q h) sm_ml := sm_all_app mq_0 (sm_all_app mq_1 (sm_all_app mq_2 (sm_all_app mq_3 (sm_all_app mq_4 (sm_all_app mq_5 (sm_all_app mq_6 (sm_all_app mq_7 (mq_8))))))))
