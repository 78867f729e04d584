section
-- ===== PART A: goes FIRST, ahead of the names: the tables' words, and 'selects' of the private methods out of them =====
/-- a private method of a class that the tables say can be made, by its rows of tables_1 -/
def lw_okq (q : MethodName × Nat) : Prop := (q.1.cls ≠ "java/lang/invoke/MethodHandle" ∧ q.1.cls ≠ "java/lang/invoke/VarHandle") ∧ Cond.instantiable q.1.cls q.2 ∈ tables_1 ∧ Cond.privateMethod q.1 ∈ tables_1 ∧ Cond.instanceMethod q.1 ∈ tables_1
theorem lw_p0 : lw_okq (⟨"NoKnot", "refuse", "(I)I"⟩, 17) := ⟨⟨by decide +kernel, by decide +kernel⟩, List.mem_of_getElem? (i := 23) (by decide +kernel), List.mem_of_getElem? (i := 435) (by decide +kernel), List.mem_of_getElem? (i := 436) (by decide +kernel)⟩
theorem lw_p1 : lw_okq (⟨"NoKnot", "putBytes", "(I)V"⟩, 17) := ⟨⟨by decide +kernel, by decide +kernel⟩, List.mem_of_getElem? (i := 23) (by decide +kernel), List.mem_of_getElem? (i := 439) (by decide +kernel), List.mem_of_getElem? (i := 440) (by decide +kernel)⟩
theorem lw_p2 : lw_okq (⟨"NoKnot", "onTape", "(I)Z"⟩, 17) := ⟨⟨by decide +kernel, by decide +kernel⟩, List.mem_of_getElem? (i := 23) (by decide +kernel), List.mem_of_getElem? (i := 447) (by decide +kernel), List.mem_of_getElem? (i := 448) (by decide +kernel)⟩
theorem lw_p3 : lw_okq (⟨"NoKnot$Reader", "advance", "()V"⟩, 8) := ⟨⟨by decide +kernel, by decide +kernel⟩, List.mem_of_getElem? (i := 90) (by decide +kernel), List.mem_of_getElem? (i := 462) (by decide +kernel), List.mem_of_getElem? (i := 463) (by decide +kernel)⟩
theorem lw_p4 : lw_okq (⟨"NoKnot$Reader", "byteAt", "(I)I"⟩, 8) := ⟨⟨by decide +kernel, by decide +kernel⟩, List.mem_of_getElem? (i := 90) (by decide +kernel), List.mem_of_getElem? (i := 466) (by decide +kernel), List.mem_of_getElem? (i := 467) (by decide +kernel)⟩
theorem lw_p5 : lw_okq (⟨"NoKnot$Reader", "fail", "(I)V"⟩, 8) := ⟨⟨by decide +kernel, by decide +kernel⟩, List.mem_of_getElem? (i := 90) (by decide +kernel), List.mem_of_getElem? (i := 476) (by decide +kernel), List.mem_of_getElem? (i := 477) (by decide +kernel)⟩
theorem lw_p6 : lw_okq (⟨"NoKnot$Reader", "readLine", "(LNoKnot$Basket;)V"⟩, 8) := ⟨⟨by decide +kernel, by decide +kernel⟩, List.mem_of_getElem? (i := 90) (by decide +kernel), List.mem_of_getElem? (i := 480) (by decide +kernel), List.mem_of_getElem? (i := 481) (by decide +kernel)⟩
theorem lw_p7 : lw_okq (⟨"NoKnot$Reader", "isWord", "(Ljava/lang/String;)Z"⟩, 8) := ⟨⟨by decide +kernel, by decide +kernel⟩, List.mem_of_getElem? (i := 90) (by decide +kernel), List.mem_of_getElem? (i := 485) (by decide +kernel), List.mem_of_getElem? (i := 486) (by decide +kernel)⟩
theorem lw_p8 : lw_okq (⟨"NoKnot$Reader", "readStakes", "(LNoKnot$Basket;)V"⟩, 8) := ⟨⟨by decide +kernel, by decide +kernel⟩, List.mem_of_getElem? (i := 90) (by decide +kernel), List.mem_of_getElem? (i := 537) (by decide +kernel), List.mem_of_getElem? (i := 538) (by decide +kernel)⟩
theorem lw_p9 : lw_okq (⟨"NoKnot$Reader", "takeWord", "(Ljava/lang/String;)V"⟩, 8) := ⟨⟨by decide +kernel, by decide +kernel⟩, List.mem_of_getElem? (i := 90) (by decide +kernel), List.mem_of_getElem? (i := 541) (by decide +kernel), List.mem_of_getElem? (i := 542) (by decide +kernel)⟩
theorem lw_p10 : lw_okq (⟨"NoKnot$Reader", "takeNumber", "(II)I"⟩, 8) := ⟨⟨by decide +kernel, by decide +kernel⟩, List.mem_of_getElem? (i := 90) (by decide +kernel), List.mem_of_getElem? (i := 545) (by decide +kernel), List.mem_of_getElem? (i := 546) (by decide +kernel)⟩
theorem lw_p11 : lw_okq (⟨"NoKnot$Reader", "readRod", "(LNoKnot$Basket;)V"⟩, 8) := ⟨⟨by decide +kernel, by decide +kernel⟩, List.mem_of_getElem? (i := 90) (by decide +kernel), List.mem_of_getElem? (i := 550) (by decide +kernel), List.mem_of_getElem? (i := 551) (by decide +kernel)⟩
theorem lw_p12 : lw_okq (⟨"NoKnot$Reader", "readBand", "(LNoKnot$Basket;)V"⟩, 8) := ⟨⟨by decide +kernel, by decide +kernel⟩, List.mem_of_getElem? (i := 90) (by decide +kernel), List.mem_of_getElem? (i := 558) (by decide +kernel), List.mem_of_getElem? (i := 559) (by decide +kernel)⟩
theorem lw_p13 : lw_okq (⟨"NoKnot$Reader", "takeLeft", "()I"⟩, 8) := ⟨⟨by decide +kernel, by decide +kernel⟩, List.mem_of_getElem? (i := 90) (by decide +kernel), List.mem_of_getElem? (i := 567) (by decide +kernel), List.mem_of_getElem? (i := 568) (by decide +kernel)⟩
theorem lw_p14 : lw_okq (⟨"NoKnot$Reader", "takeLean", "()I"⟩, 8) := ⟨⟨by decide +kernel, by decide +kernel⟩, List.mem_of_getElem? (i := 90) (by decide +kernel), List.mem_of_getElem? (i := 572) (by decide +kernel), List.mem_of_getElem? (i := 573) (by decide +kernel)⟩
theorem lw_p15 : lw_okq (⟨"NoKnot$Reader", "readSlip", "(LNoKnot$Basket;)V"⟩, 8) := ⟨⟨by decide +kernel, by decide +kernel⟩, List.mem_of_getElem? (i := 90) (by decide +kernel), List.mem_of_getElem? (i := 579) (by decide +kernel), List.mem_of_getElem? (i := 580) (by decide +kernel)⟩
def lw_privs_1 : List (MethodName × Nat) := [(⟨"NoKnot", "refuse", "(I)I"⟩, 17), (⟨"NoKnot", "putBytes", "(I)V"⟩, 17), (⟨"NoKnot", "onTape", "(I)Z"⟩, 17), (⟨"NoKnot$Reader", "advance", "()V"⟩, 8), (⟨"NoKnot$Reader", "byteAt", "(I)I"⟩, 8), (⟨"NoKnot$Reader", "fail", "(I)V"⟩, 8), (⟨"NoKnot$Reader", "readLine", "(LNoKnot$Basket;)V"⟩, 8), (⟨"NoKnot$Reader", "isWord", "(Ljava/lang/String;)Z"⟩, 8), (⟨"NoKnot$Reader", "readStakes", "(LNoKnot$Basket;)V"⟩, 8), (⟨"NoKnot$Reader", "takeWord", "(Ljava/lang/String;)V"⟩, 8), (⟨"NoKnot$Reader", "takeNumber", "(II)I"⟩, 8), (⟨"NoKnot$Reader", "readRod", "(LNoKnot$Basket;)V"⟩, 8), (⟨"NoKnot$Reader", "readBand", "(LNoKnot$Basket;)V"⟩, 8), (⟨"NoKnot$Reader", "takeLeft", "()I"⟩, 8), (⟨"NoKnot$Reader", "takeLean", "()I"⟩, 8), (⟨"NoKnot$Reader", "readSlip", "(LNoKnot$Basket;)V"⟩, 8)]
theorem lw_r1 : ∀ q ∈ lw_privs_1, lw_okq q := List.forall_mem_cons.mpr ⟨lw_p0, List.forall_mem_cons.mpr ⟨lw_p1, List.forall_mem_cons.mpr ⟨lw_p2, List.forall_mem_cons.mpr ⟨lw_p3, List.forall_mem_cons.mpr ⟨lw_p4, List.forall_mem_cons.mpr ⟨lw_p5, List.forall_mem_cons.mpr ⟨lw_p6, List.forall_mem_cons.mpr ⟨lw_p7, List.forall_mem_cons.mpr ⟨lw_p8, List.forall_mem_cons.mpr ⟨lw_p9, List.forall_mem_cons.mpr ⟨lw_p10, List.forall_mem_cons.mpr ⟨lw_p11, List.forall_mem_cons.mpr ⟨lw_p12, List.forall_mem_cons.mpr ⟨lw_p13, List.forall_mem_cons.mpr ⟨lw_p14, List.forall_mem_cons.mpr ⟨lw_p15, fun _ h => absurd h List.not_mem_nil⟩⟩⟩⟩⟩⟩⟩⟩⟩⟩⟩⟩⟩⟩⟩⟩
theorem lw_p16 : lw_okq (⟨"NoKnot$Reader", "takeSign", "()V"⟩, 8) := ⟨⟨by decide +kernel, by decide +kernel⟩, List.mem_of_getElem? (i := 90) (by decide +kernel), List.mem_of_getElem? (i := 594) (by decide +kernel), List.mem_of_getElem? (i := 595) (by decide +kernel)⟩
theorem lw_p17 : lw_okq (⟨"NoKnot", "forgetAnswers", "()V"⟩, 17) := ⟨⟨by decide +kernel, by decide +kernel⟩, List.mem_of_getElem? (i := 23) (by decide +kernel), List.mem_of_getElem? (i := 609) (by decide +kernel), List.mem_of_getElem? (i := 610) (by decide +kernel)⟩
theorem lw_p18 : lw_okq (⟨"NoKnot$Weave", "rowBits", "(II)I"⟩, 6) := ⟨⟨by decide +kernel, by decide +kernel⟩, List.mem_of_getElem? (i := 123) (by decide +kernel), List.mem_of_getElem? (i := 715) (by decide +kernel), List.mem_of_getElem? (i := 716) (by decide +kernel)⟩
theorem lw_p19 : lw_okq (⟨"NoKnot$Weave", "weaveOne", "(II)V"⟩, 6) := ⟨⟨by decide +kernel, by decide +kernel⟩, List.mem_of_getElem? (i := 123) (by decide +kernel), List.mem_of_getElem? (i := 720) (by decide +kernel), List.mem_of_getElem? (i := 721) (by decide +kernel)⟩
theorem lw_p20 : lw_okq (⟨"NoKnot$Weave", "overAt", "(III)Z"⟩, 6) := ⟨⟨by decide +kernel, by decide +kernel⟩, List.mem_of_getElem? (i := 123) (by decide +kernel), List.mem_of_getElem? (i := 759) (by decide +kernel), List.mem_of_getElem? (i := 760) (by decide +kernel)⟩
theorem lw_p21 : lw_okq (⟨"NoKnot$Weave", "stakeBits", "(III)I"⟩, 6) := ⟨⟨by decide +kernel, by decide +kernel⟩, List.mem_of_getElem? (i := 123) (by decide +kernel), List.mem_of_getElem? (i := 837) (by decide +kernel), List.mem_of_getElem? (i := 838) (by decide +kernel)⟩
theorem lw_p22 : lw_okq (⟨"NoKnot$Weave", "sameBehind", "(III)Z"⟩, 6) := ⟨⟨by decide +kernel, by decide +kernel⟩, List.mem_of_getElem? (i := 123) (by decide +kernel), List.mem_of_getElem? (i := 882) (by decide +kernel), List.mem_of_getElem? (i := 883) (by decide +kernel)⟩
theorem lw_p23 : lw_okq (⟨"NoKnot", "takePicture", "(ILNoKnot$Picture;Z)I"⟩, 17) := ⟨⟨by decide +kernel, by decide +kernel⟩, List.mem_of_getElem? (i := 23) (by decide +kernel), List.mem_of_getElem? (i := 924) (by decide +kernel), List.mem_of_getElem? (i := 925) (by decide +kernel)⟩
theorem lw_p24 : lw_okq (⟨"NoKnot$Picture", "takeWished", "(III)V"⟩, 4) := ⟨⟨by decide +kernel, by decide +kernel⟩, List.mem_of_getElem? (i := 148) (by decide +kernel), List.mem_of_getElem? (i := 940) (by decide +kernel), List.mem_of_getElem? (i := 941) (by decide +kernel)⟩
theorem lw_p25 : lw_okq (⟨"NoKnot$Picture", "takePrinted", "(III)V"⟩, 4) := ⟨⟨by decide +kernel, by decide +kernel⟩, List.mem_of_getElem? (i := 148) (by decide +kernel), List.mem_of_getElem? (i := 944) (by decide +kernel), List.mem_of_getElem? (i := 945) (by decide +kernel)⟩
theorem lw_p26 : lw_okq (⟨"NoKnot$Strokes", "makeWith", "(LNoKnot$Picture;I)V"⟩, 11) := ⟨⟨by decide +kernel, by decide +kernel⟩, List.mem_of_getElem? (i := 172) (by decide +kernel), List.mem_of_getElem? (i := 965) (by decide +kernel), List.mem_of_getElem? (i := 966) (by decide +kernel)⟩
theorem lw_p27 : lw_okq (⟨"NoKnot$Strokes", "begin", "(I)V"⟩, 11) := ⟨⟨by decide +kernel, by decide +kernel⟩, List.mem_of_getElem? (i := 172) (by decide +kernel), List.mem_of_getElem? (i := 969) (by decide +kernel), List.mem_of_getElem? (i := 970) (by decide +kernel)⟩
theorem lw_p28 : lw_okq (⟨"NoKnot$Strokes", "weaveRounds", "()V"⟩, 11) := ⟨⟨by decide +kernel, by decide +kernel⟩, List.mem_of_getElem? (i := 172) (by decide +kernel), List.mem_of_getElem? (i := 973) (by decide +kernel), List.mem_of_getElem? (i := 974) (by decide +kernel)⟩
theorem lw_p29 : lw_okq (⟨"NoKnot$Strokes", "mistakesOf", "(I)I"⟩, 11) := ⟨⟨by decide +kernel, by decide +kernel⟩, List.mem_of_getElem? (i := 172) (by decide +kernel), List.mem_of_getElem? (i := 978) (by decide +kernel), List.mem_of_getElem? (i := 979) (by decide +kernel)⟩
theorem lw_p30 : lw_okq (⟨"NoKnot$Strokes", "goOn", "()Z"⟩, 11) := ⟨⟨by decide +kernel, by decide +kernel⟩, List.mem_of_getElem? (i := 172) (by decide +kernel), List.mem_of_getElem? (i := 985) (by decide +kernel), List.mem_of_getElem? (i := 986) (by decide +kernel)⟩
theorem lw_p31 : lw_okq (⟨"NoKnot$Strokes", "readSide", "(I)V"⟩, 11) := ⟨⟨by decide +kernel, by decide +kernel⟩, List.mem_of_getElem? (i := 172) (by decide +kernel), List.mem_of_getElem? (i := 1005) (by decide +kernel), List.mem_of_getElem? (i := 1006) (by decide +kernel)⟩
def lw_privs_2 : List (MethodName × Nat) := [(⟨"NoKnot$Reader", "takeSign", "()V"⟩, 8), (⟨"NoKnot", "forgetAnswers", "()V"⟩, 17), (⟨"NoKnot$Weave", "rowBits", "(II)I"⟩, 6), (⟨"NoKnot$Weave", "weaveOne", "(II)V"⟩, 6), (⟨"NoKnot$Weave", "overAt", "(III)Z"⟩, 6), (⟨"NoKnot$Weave", "stakeBits", "(III)I"⟩, 6), (⟨"NoKnot$Weave", "sameBehind", "(III)Z"⟩, 6), (⟨"NoKnot", "takePicture", "(ILNoKnot$Picture;Z)I"⟩, 17), (⟨"NoKnot$Picture", "takeWished", "(III)V"⟩, 4), (⟨"NoKnot$Picture", "takePrinted", "(III)V"⟩, 4), (⟨"NoKnot$Strokes", "makeWith", "(LNoKnot$Picture;I)V"⟩, 11), (⟨"NoKnot$Strokes", "begin", "(I)V"⟩, 11), (⟨"NoKnot$Strokes", "weaveRounds", "()V"⟩, 11), (⟨"NoKnot$Strokes", "mistakesOf", "(I)I"⟩, 11), (⟨"NoKnot$Strokes", "goOn", "()Z"⟩, 11), (⟨"NoKnot$Strokes", "readSide", "(I)V"⟩, 11)]
theorem lw_r2 : ∀ q ∈ lw_privs_2, lw_okq q := List.forall_mem_cons.mpr ⟨lw_p16, List.forall_mem_cons.mpr ⟨lw_p17, List.forall_mem_cons.mpr ⟨lw_p18, List.forall_mem_cons.mpr ⟨lw_p19, List.forall_mem_cons.mpr ⟨lw_p20, List.forall_mem_cons.mpr ⟨lw_p21, List.forall_mem_cons.mpr ⟨lw_p22, List.forall_mem_cons.mpr ⟨lw_p23, List.forall_mem_cons.mpr ⟨lw_p24, List.forall_mem_cons.mpr ⟨lw_p25, List.forall_mem_cons.mpr ⟨lw_p26, List.forall_mem_cons.mpr ⟨lw_p27, List.forall_mem_cons.mpr ⟨lw_p28, List.forall_mem_cons.mpr ⟨lw_p29, List.forall_mem_cons.mpr ⟨lw_p30, List.forall_mem_cons.mpr ⟨lw_p31, fun _ h => absurd h List.not_mem_nil⟩⟩⟩⟩⟩⟩⟩⟩⟩⟩⟩⟩⟩⟩⟩⟩
theorem lw_p32 : lw_okq (⟨"NoKnot$Strokes", "readWith", "(II)V"⟩, 11) := ⟨⟨by decide +kernel, by decide +kernel⟩, List.mem_of_getElem? (i := 172) (by decide +kernel), List.mem_of_getElem? (i := 1010) (by decide +kernel), List.mem_of_getElem? (i := 1011) (by decide +kernel)⟩
theorem lw_p33 : lw_okq (⟨"NoKnot", "isRow", "(I)Z"⟩, 17) := ⟨⟨by decide +kernel, by decide +kernel⟩, List.mem_of_getElem? (i := 23) (by decide +kernel), List.mem_of_getElem? (i := 1076) (by decide +kernel), List.mem_of_getElem? (i := 1077) (by decide +kernel)⟩
theorem lw_p34 : lw_okq (⟨"NoKnot", "fewestThatReach", "(LNoKnot$Numbers;I)I"⟩, 17) := ⟨⟨by decide +kernel, by decide +kernel⟩, List.mem_of_getElem? (i := 23) (by decide +kernel), List.mem_of_getElem? (i := 1089) (by decide +kernel), List.mem_of_getElem? (i := 1090) (by decide +kernel)⟩
theorem lw_p35 : lw_okq (⟨"NoKnot", "coveredBy", "(LNoKnot$Numbers;I)I"⟩, 17) := ⟨⟨by decide +kernel, by decide +kernel⟩, List.mem_of_getElem? (i := 23) (by decide +kernel), List.mem_of_getElem? (i := 1093) (by decide +kernel), List.mem_of_getElem? (i := 1094) (by decide +kernel)⟩
theorem lw_p36 : lw_okq (⟨"NoKnot", "mostNested", "(LNoKnot$Numbers;I)I"⟩, 17) := ⟨⟨by decide +kernel, by decide +kernel⟩, List.mem_of_getElem? (i := 23) (by decide +kernel), List.mem_of_getElem? (i := 1107) (by decide +kernel), List.mem_of_getElem? (i := 1108) (by decide +kernel)⟩
theorem lw_p37 : lw_okq (⟨"NoKnot$Plaiter", "ringOf", "(I)I"⟩, 2) := ⟨⟨by decide +kernel, by decide +kernel⟩, List.mem_of_getElem? (i := 366) (by decide +kernel), List.mem_of_getElem? (i := 1128) (by decide +kernel), List.mem_of_getElem? (i := 1129) (by decide +kernel)⟩
theorem lw_p38 : lw_okq (⟨"NoKnot$Evener", "putFrom", "(III)V"⟩, 6) := ⟨⟨by decide +kernel, by decide +kernel⟩, List.mem_of_getElem? (i := 282) (by decide +kernel), List.mem_of_getElem? (i := 1149) (by decide +kernel), List.mem_of_getElem? (i := 1150) (by decide +kernel)⟩
theorem lw_p39 : lw_okq (⟨"NoKnot$Evener", "differenceAt", "(I)I"⟩, 6) := ⟨⟨by decide +kernel, by decide +kernel⟩, List.mem_of_getElem? (i := 282) (by decide +kernel), List.mem_of_getElem? (i := 1154) (by decide +kernel), List.mem_of_getElem? (i := 1155) (by decide +kernel)⟩
theorem lw_p40 : lw_okq (⟨"NoKnot$Weave", "changesOf", "(II)I"⟩, 6) := ⟨⟨by decide +kernel, by decide +kernel⟩, List.mem_of_getElem? (i := 123) (by decide +kernel), List.mem_of_getElem? (i := 1195) (by decide +kernel), List.mem_of_getElem? (i := 1196) (by decide +kernel)⟩
theorem lw_p41 : lw_okq (⟨"NoKnot", "bowlCan", "(III)Z"⟩, 17) := ⟨⟨by decide +kernel, by decide +kernel⟩, List.mem_of_getElem? (i := 23) (by decide +kernel), List.mem_of_getElem? (i := 1218) (by decide +kernel), List.mem_of_getElem? (i := 1219) (by decide +kernel)⟩
theorem lw_p42 : lw_okq (⟨"NoKnot$BowlMaker", "setRanges", "()V"⟩, 17) := ⟨⟨by decide +kernel, by decide +kernel⟩, List.mem_of_getElem? (i := 308) (by decide +kernel), List.mem_of_getElem? (i := 1229) (by decide +kernel), List.mem_of_getElem? (i := 1230) (by decide +kernel)⟩
theorem lw_p43 : lw_okq (⟨"NoKnot$BowlMaker", "costOfTrial", "()I"⟩, 17) := ⟨⟨by decide +kernel, by decide +kernel⟩, List.mem_of_getElem? (i := 308) (by decide +kernel), List.mem_of_getElem? (i := 1234) (by decide +kernel), List.mem_of_getElem? (i := 1235) (by decide +kernel)⟩
theorem lw_p44 : lw_okq (⟨"NoKnot$BowlMaker", "widthBy", "(III)I"⟩, 17) := ⟨⟨by decide +kernel, by decide +kernel⟩, List.mem_of_getElem? (i := 308) (by decide +kernel), List.mem_of_getElem? (i := 1238) (by decide +kernel), List.mem_of_getElem? (i := 1239) (by decide +kernel)⟩
theorem lw_p45 : lw_okq (⟨"NoKnot$BowlMaker", "tryLean", "(II)V"⟩, 17) := ⟨⟨by decide +kernel, by decide +kernel⟩, List.mem_of_getElem? (i := 308) (by decide +kernel), List.mem_of_getElem? (i := 1243) (by decide +kernel), List.mem_of_getElem? (i := 1244) (by decide +kernel)⟩
theorem lw_p46 : lw_okq (⟨"NoKnot$BowlMaker", "narrowRanges", "()V"⟩, 17) := ⟨⟨by decide +kernel, by decide +kernel⟩, List.mem_of_getElem? (i := 308) (by decide +kernel), List.mem_of_getElem? (i := 1249) (by decide +kernel), List.mem_of_getElem? (i := 1250) (by decide +kernel)⟩
theorem lw_p47 : lw_okq (⟨"NoKnot$BowlMaker", "makeRoom", "()V"⟩, 17) := ⟨⟨by decide +kernel, by decide +kernel⟩, List.mem_of_getElem? (i := 308) (by decide +kernel), List.mem_of_getElem? (i := 1253) (by decide +kernel), List.mem_of_getElem? (i := 1254) (by decide +kernel)⟩
def lw_privs_3 : List (MethodName × Nat) := [(⟨"NoKnot$Strokes", "readWith", "(II)V"⟩, 11), (⟨"NoKnot", "isRow", "(I)Z"⟩, 17), (⟨"NoKnot", "fewestThatReach", "(LNoKnot$Numbers;I)I"⟩, 17), (⟨"NoKnot", "coveredBy", "(LNoKnot$Numbers;I)I"⟩, 17), (⟨"NoKnot", "mostNested", "(LNoKnot$Numbers;I)I"⟩, 17), (⟨"NoKnot$Plaiter", "ringOf", "(I)I"⟩, 2), (⟨"NoKnot$Evener", "putFrom", "(III)V"⟩, 6), (⟨"NoKnot$Evener", "differenceAt", "(I)I"⟩, 6), (⟨"NoKnot$Weave", "changesOf", "(II)I"⟩, 6), (⟨"NoKnot", "bowlCan", "(III)Z"⟩, 17), (⟨"NoKnot$BowlMaker", "setRanges", "()V"⟩, 17), (⟨"NoKnot$BowlMaker", "costOfTrial", "()I"⟩, 17), (⟨"NoKnot$BowlMaker", "widthBy", "(III)I"⟩, 17), (⟨"NoKnot$BowlMaker", "tryLean", "(II)V"⟩, 17), (⟨"NoKnot$BowlMaker", "narrowRanges", "()V"⟩, 17), (⟨"NoKnot$BowlMaker", "makeRoom", "()V"⟩, 17)]
theorem lw_r3 : ∀ q ∈ lw_privs_3, lw_okq q := List.forall_mem_cons.mpr ⟨lw_p32, List.forall_mem_cons.mpr ⟨lw_p33, List.forall_mem_cons.mpr ⟨lw_p34, List.forall_mem_cons.mpr ⟨lw_p35, List.forall_mem_cons.mpr ⟨lw_p36, List.forall_mem_cons.mpr ⟨lw_p37, List.forall_mem_cons.mpr ⟨lw_p38, List.forall_mem_cons.mpr ⟨lw_p39, List.forall_mem_cons.mpr ⟨lw_p40, List.forall_mem_cons.mpr ⟨lw_p41, List.forall_mem_cons.mpr ⟨lw_p42, List.forall_mem_cons.mpr ⟨lw_p43, List.forall_mem_cons.mpr ⟨lw_p44, List.forall_mem_cons.mpr ⟨lw_p45, List.forall_mem_cons.mpr ⟨lw_p46, List.forall_mem_cons.mpr ⟨lw_p47, fun _ h => absurd h List.not_mem_nil⟩⟩⟩⟩⟩⟩⟩⟩⟩⟩⟩⟩⟩⟩⟩⟩
theorem lw_p48 : lw_okq (⟨"NoKnot$BowlMaker", "rowsOf", "(I)I"⟩, 17) := ⟨⟨by decide +kernel, by decide +kernel⟩, List.mem_of_getElem? (i := 308) (by decide +kernel), List.mem_of_getElem? (i := 1257) (by decide +kernel), List.mem_of_getElem? (i := 1258) (by decide +kernel)⟩
theorem lw_p49 : lw_okq (⟨"NoKnot$BowlMaker", "emptyNext", "(I)V"⟩, 17) := ⟨⟨by decide +kernel, by decide +kernel⟩, List.mem_of_getElem? (i := 308) (by decide +kernel), List.mem_of_getElem? (i := 1261) (by decide +kernel), List.mem_of_getElem? (i := 1262) (by decide +kernel)⟩
theorem lw_p50 : lw_okq (⟨"NoKnot$BowlMaker", "goTo", "(IIIJ)V"⟩, 17) := ⟨⟨by decide +kernel, by decide +kernel⟩, List.mem_of_getElem? (i := 308) (by decide +kernel), List.mem_of_getElem? (i := 1272) (by decide +kernel), List.mem_of_getElem? (i := 1273) (by decide +kernel)⟩
theorem lw_p51 : lw_okq (⟨"NoKnot$BowlMaker", "takeNext", "()V"⟩, 17) := ⟨⟨by decide +kernel, by decide +kernel⟩, List.mem_of_getElem? (i := 308) (by decide +kernel), List.mem_of_getElem? (i := 1282) (by decide +kernel), List.mem_of_getElem? (i := 1283) (by decide +kernel)⟩
theorem lw_p52 : lw_okq (⟨"NoKnot$BowlMaker", "goOn", "(I)V"⟩, 17) := ⟨⟨by decide +kernel, by decide +kernel⟩, List.mem_of_getElem? (i := 308) (by decide +kernel), List.mem_of_getElem? (i := 1286) (by decide +kernel), List.mem_of_getElem? (i := 1287) (by decide +kernel)⟩
theorem lw_p53 : lw_okq (⟨"NoKnot$BowlMaker", "wayAt", "(I)J"⟩, 17) := ⟨⟨by decide +kernel, by decide +kernel⟩, List.mem_of_getElem? (i := 308) (by decide +kernel), List.mem_of_getElem? (i := 1290) (by decide +kernel), List.mem_of_getElem? (i := 1291) (by decide +kernel)⟩
theorem lw_p54 : lw_okq (⟨"NoKnot$BowlMaker", "goOnFrom", "(IIIJ)V"⟩, 17) := ⟨⟨by decide +kernel, by decide +kernel⟩, List.mem_of_getElem? (i := 308) (by decide +kernel), List.mem_of_getElem? (i := 1294) (by decide +kernel), List.mem_of_getElem? (i := 1295) (by decide +kernel)⟩
theorem lw_p55 : lw_okq (⟨"NoKnot$BowlMaker", "leastNear", "(II)J"⟩, 17) := ⟨⟨by decide +kernel, by decide +kernel⟩, List.mem_of_getElem? (i := 308) (by decide +kernel), List.mem_of_getElem? (i := 1299) (by decide +kernel), List.mem_of_getElem? (i := 1300) (by decide +kernel)⟩
theorem lw_p56 : lw_okq (⟨"NoKnot", "bordersThatClose", "(III)I"⟩, 17) := ⟨⟨by decide +kernel, by decide +kernel⟩, List.mem_of_getElem? (i := 23) (by decide +kernel), List.mem_of_getElem? (i := 1332) (by decide +kernel), List.mem_of_getElem? (i := 1333) (by decide +kernel)⟩
theorem lw_p57 : lw_okq (⟨"NoKnot", "nextMoves", "(II)Z"⟩, 17) := ⟨⟨by decide +kernel, by decide +kernel⟩, List.mem_of_getElem? (i := 23) (by decide +kernel), List.mem_of_getElem? (i := 1339) (by decide +kernel), List.mem_of_getElem? (i := 1340) (by decide +kernel)⟩
theorem lw_p58 : lw_okq (⟨"NoKnot$Hands", "nextTaught", "(I)I"⟩, 2) := ⟨⟨by decide +kernel, by decide +kernel⟩, List.mem_of_getElem? (i := 212) (by decide +kernel), List.mem_of_getElem? (i := 1368) (by decide +kernel), List.mem_of_getElem? (i := 1369) (by decide +kernel)⟩
theorem lw_p59 : lw_okq (⟨"NoKnot$Numbers", "cut", "(J)J"⟩, 3) := ⟨⟨by decide +kernel, by decide +kernel⟩, List.mem_of_getElem? (i := 229) (by decide +kernel), List.mem_of_getElem? (i := 1404) (by decide +kernel), List.mem_of_getElem? (i := 1405) (by decide +kernel)⟩
theorem lw_p60 : lw_okq (⟨"NoKnotModel", "no", "(I)I"⟩, 37) := ⟨⟨by decide +kernel, by decide +kernel⟩, List.mem_of_getElem? (i := 1439) (by decide +kernel), List.mem_of_getElem? (i := 1566) (by decide +kernel), List.mem_of_getElem? (i := 1567) (by decide +kernel)⟩
theorem lw_p61 : lw_okq (⟨"NoKnotModel", "next", "()V"⟩, 37) := ⟨⟨by decide +kernel, by decide +kernel⟩, List.mem_of_getElem? (i := 1439) (by decide +kernel), List.mem_of_getElem? (i := 1577) (by decide +kernel), List.mem_of_getElem? (i := 1578) (by decide +kernel)⟩
theorem lw_p62 : lw_okq (⟨"NoKnotModel", "see", "(I)I"⟩, 37) := ⟨⟨by decide +kernel, by decide +kernel⟩, List.mem_of_getElem? (i := 1439) (by decide +kernel), List.mem_of_getElem? (i := 1581) (by decide +kernel), List.mem_of_getElem? (i := 1582) (by decide +kernel)⟩
theorem lw_p63 : lw_okq (⟨"NoKnotModel", "keyAt", "()I"⟩, 37) := ⟨⟨by decide +kernel, by decide +kernel⟩, List.mem_of_getElem? (i := 1439) (by decide +kernel), List.mem_of_getElem? (i := 1588) (by decide +kernel), List.mem_of_getElem? (i := 1589) (by decide +kernel)⟩
def lw_privs_4 : List (MethodName × Nat) := [(⟨"NoKnot$BowlMaker", "rowsOf", "(I)I"⟩, 17), (⟨"NoKnot$BowlMaker", "emptyNext", "(I)V"⟩, 17), (⟨"NoKnot$BowlMaker", "goTo", "(IIIJ)V"⟩, 17), (⟨"NoKnot$BowlMaker", "takeNext", "()V"⟩, 17), (⟨"NoKnot$BowlMaker", "goOn", "(I)V"⟩, 17), (⟨"NoKnot$BowlMaker", "wayAt", "(I)J"⟩, 17), (⟨"NoKnot$BowlMaker", "goOnFrom", "(IIIJ)V"⟩, 17), (⟨"NoKnot$BowlMaker", "leastNear", "(II)J"⟩, 17), (⟨"NoKnot", "bordersThatClose", "(III)I"⟩, 17), (⟨"NoKnot", "nextMoves", "(II)Z"⟩, 17), (⟨"NoKnot$Hands", "nextTaught", "(I)I"⟩, 2), (⟨"NoKnot$Numbers", "cut", "(J)J"⟩, 3), (⟨"NoKnotModel", "no", "(I)I"⟩, 37), (⟨"NoKnotModel", "next", "()V"⟩, 37), (⟨"NoKnotModel", "see", "(I)I"⟩, 37), (⟨"NoKnotModel", "keyAt", "()I"⟩, 37)]
theorem lw_r4 : ∀ q ∈ lw_privs_4, lw_okq q := List.forall_mem_cons.mpr ⟨lw_p48, List.forall_mem_cons.mpr ⟨lw_p49, List.forall_mem_cons.mpr ⟨lw_p50, List.forall_mem_cons.mpr ⟨lw_p51, List.forall_mem_cons.mpr ⟨lw_p52, List.forall_mem_cons.mpr ⟨lw_p53, List.forall_mem_cons.mpr ⟨lw_p54, List.forall_mem_cons.mpr ⟨lw_p55, List.forall_mem_cons.mpr ⟨lw_p56, List.forall_mem_cons.mpr ⟨lw_p57, List.forall_mem_cons.mpr ⟨lw_p58, List.forall_mem_cons.mpr ⟨lw_p59, List.forall_mem_cons.mpr ⟨lw_p60, List.forall_mem_cons.mpr ⟨lw_p61, List.forall_mem_cons.mpr ⟨lw_p62, List.forall_mem_cons.mpr ⟨lw_p63, fun _ h => absurd h List.not_mem_nil⟩⟩⟩⟩⟩⟩⟩⟩⟩⟩⟩⟩⟩⟩⟩⟩
theorem lw_p64 : lw_okq (⟨"NoKnotModel", "readLine", "()V"⟩, 37) := ⟨⟨by decide +kernel, by decide +kernel⟩, List.mem_of_getElem? (i := 1439) (by decide +kernel), List.mem_of_getElem? (i := 1598) (by decide +kernel), List.mem_of_getElem? (i := 1599) (by decide +kernel)⟩
theorem lw_p65 : lw_okq (⟨"NoKnotModel", "is", "(I)Z"⟩, 37) := ⟨⟨by decide +kernel, by decide +kernel⟩, List.mem_of_getElem? (i := 1439) (by decide +kernel), List.mem_of_getElem? (i := 1602) (by decide +kernel), List.mem_of_getElem? (i := 1603) (by decide +kernel)⟩
theorem lw_p66 : lw_okq (⟨"NoKnotModel", "readStakes", "()V"⟩, 37) := ⟨⟨by decide +kernel, by decide +kernel⟩, List.mem_of_getElem? (i := 1439) (by decide +kernel), List.mem_of_getElem? (i := 1606) (by decide +kernel), List.mem_of_getElem? (i := 1607) (by decide +kernel)⟩
theorem lw_p67 : lw_okq (⟨"NoKnotModel", "fails", "(I)V"⟩, 37) := ⟨⟨by decide +kernel, by decide +kernel⟩, List.mem_of_getElem? (i := 1439) (by decide +kernel), List.mem_of_getElem? (i := 1610) (by decide +kernel), List.mem_of_getElem? (i := 1611) (by decide +kernel)⟩
theorem lw_p68 : lw_okq (⟨"NoKnotModel", "takes", "(II)I"⟩, 37) := ⟨⟨by decide +kernel, by decide +kernel⟩, List.mem_of_getElem? (i := 1439) (by decide +kernel), List.mem_of_getElem? (i := 1614) (by decide +kernel), List.mem_of_getElem? (i := 1615) (by decide +kernel)⟩
theorem lw_p69 : lw_okq (⟨"NoKnotModel", "readRod", "()V"⟩, 37) := ⟨⟨by decide +kernel, by decide +kernel⟩, List.mem_of_getElem? (i := 1439) (by decide +kernel), List.mem_of_getElem? (i := 1618) (by decide +kernel), List.mem_of_getElem? (i := 1619) (by decide +kernel)⟩
theorem lw_p70 : lw_okq (⟨"NoKnotModel", "needs", "(I)V"⟩, 37) := ⟨⟨by decide +kernel, by decide +kernel⟩, List.mem_of_getElem? (i := 1439) (by decide +kernel), List.mem_of_getElem? (i := 1622) (by decide +kernel), List.mem_of_getElem? (i := 1623) (by decide +kernel)⟩
theorem lw_p71 : lw_okq (⟨"NoKnotModel", "eats", "(I)Z"⟩, 37) := ⟨⟨by decide +kernel, by decide +kernel⟩, List.mem_of_getElem? (i := 1439) (by decide +kernel), List.mem_of_getElem? (i := 1626) (by decide +kernel), List.mem_of_getElem? (i := 1627) (by decide +kernel)⟩
theorem lw_p72 : lw_okq (⟨"NoKnotModel", "readBand", "()V"⟩, 37) := ⟨⟨by decide +kernel, by decide +kernel⟩, List.mem_of_getElem? (i := 1439) (by decide +kernel), List.mem_of_getElem? (i := 1630) (by decide +kernel), List.mem_of_getElem? (i := 1631) (by decide +kernel)⟩
theorem lw_p73 : lw_okq (⟨"NoKnotModel", "readSlip", "()V"⟩, 37) := ⟨⟨by decide +kernel, by decide +kernel⟩, List.mem_of_getElem? (i := 1439) (by decide +kernel), List.mem_of_getElem? (i := 1634) (by decide +kernel), List.mem_of_getElem? (i := 1635) (by decide +kernel)⟩
theorem lw_p74 : lw_okq (⟨"NoKnotModel", "isKind", "(I)Z"⟩, 37) := ⟨⟨by decide +kernel, by decide +kernel⟩, List.mem_of_getElem? (i := 1439) (by decide +kernel), List.mem_of_getElem? (i := 1646) (by decide +kernel), List.mem_of_getElem? (i := 1647) (by decide +kernel)⟩
theorem lw_p75 : lw_okq (⟨"NoKnotModel", "isBand", "(I)Z"⟩, 37) := ⟨⟨by decide +kernel, by decide +kernel⟩, List.mem_of_getElem? (i := 1439) (by decide +kernel), List.mem_of_getElem? (i := 1655) (by decide +kernel), List.mem_of_getElem? (i := 1656) (by decide +kernel)⟩
theorem lw_p76 : lw_okq (⟨"NoKnotModel", "slipsOf", "(I)I"⟩, 37) := ⟨⟨by decide +kernel, by decide +kernel⟩, List.mem_of_getElem? (i := 1439) (by decide +kernel), List.mem_of_getElem? (i := 1661) (by decide +kernel), List.mem_of_getElem? (i := 1662) (by decide +kernel)⟩
theorem lw_p77 : lw_okq (⟨"NoKnotModel", "isCrossing", "(III)Z"⟩, 37) := ⟨⟨by decide +kernel, by decide +kernel⟩, List.mem_of_getElem? (i := 1439) (by decide +kernel), List.mem_of_getElem? (i := 1673) (by decide +kernel), List.mem_of_getElem? (i := 1674) (by decide +kernel)⟩
theorem lw_p78 : lw_okq (⟨"NoKnotModel", "crossingsOf", "(I)I"⟩, 37) := ⟨⟨by decide +kernel, by decide +kernel⟩, List.mem_of_getElem? (i := 1439) (by decide +kernel), List.mem_of_getElem? (i := 1677) (by decide +kernel), List.mem_of_getElem? (i := 1678) (by decide +kernel)⟩
theorem lw_p79 : lw_okq (⟨"NoKnotModel", "rodAt", "(III)I"⟩, 37) := ⟨⟨by decide +kernel, by decide +kernel⟩, List.mem_of_getElem? (i := 1439) (by decide +kernel), List.mem_of_getElem? (i := 1682) (by decide +kernel), List.mem_of_getElem? (i := 1683) (by decide +kernel)⟩
def lw_privs_5 : List (MethodName × Nat) := [(⟨"NoKnotModel", "readLine", "()V"⟩, 37), (⟨"NoKnotModel", "is", "(I)Z"⟩, 37), (⟨"NoKnotModel", "readStakes", "()V"⟩, 37), (⟨"NoKnotModel", "fails", "(I)V"⟩, 37), (⟨"NoKnotModel", "takes", "(II)I"⟩, 37), (⟨"NoKnotModel", "readRod", "()V"⟩, 37), (⟨"NoKnotModel", "needs", "(I)V"⟩, 37), (⟨"NoKnotModel", "eats", "(I)Z"⟩, 37), (⟨"NoKnotModel", "readBand", "()V"⟩, 37), (⟨"NoKnotModel", "readSlip", "()V"⟩, 37), (⟨"NoKnotModel", "isKind", "(I)Z"⟩, 37), (⟨"NoKnotModel", "isBand", "(I)Z"⟩, 37), (⟨"NoKnotModel", "slipsOf", "(I)I"⟩, 37), (⟨"NoKnotModel", "isCrossing", "(III)Z"⟩, 37), (⟨"NoKnotModel", "crossingsOf", "(I)I"⟩, 37), (⟨"NoKnotModel", "rodAt", "(III)I"⟩, 37)]
theorem lw_r5 : ∀ q ∈ lw_privs_5, lw_okq q := List.forall_mem_cons.mpr ⟨lw_p64, List.forall_mem_cons.mpr ⟨lw_p65, List.forall_mem_cons.mpr ⟨lw_p66, List.forall_mem_cons.mpr ⟨lw_p67, List.forall_mem_cons.mpr ⟨lw_p68, List.forall_mem_cons.mpr ⟨lw_p69, List.forall_mem_cons.mpr ⟨lw_p70, List.forall_mem_cons.mpr ⟨lw_p71, List.forall_mem_cons.mpr ⟨lw_p72, List.forall_mem_cons.mpr ⟨lw_p73, List.forall_mem_cons.mpr ⟨lw_p74, List.forall_mem_cons.mpr ⟨lw_p75, List.forall_mem_cons.mpr ⟨lw_p76, List.forall_mem_cons.mpr ⟨lw_p77, List.forall_mem_cons.mpr ⟨lw_p78, List.forall_mem_cons.mpr ⟨lw_p79, fun _ h => absurd h List.not_mem_nil⟩⟩⟩⟩⟩⟩⟩⟩⟩⟩⟩⟩⟩⟩⟩⟩
theorem lw_p80 : lw_okq (⟨"NoKnotModel", "kindOf", "(II)I"⟩, 37) := ⟨⟨by decide +kernel, by decide +kernel⟩, List.mem_of_getElem? (i := 1439) (by decide +kernel), List.mem_of_getElem? (i := 1686) (by decide +kernel), List.mem_of_getElem? (i := 1687) (by decide +kernel)⟩
theorem lw_p81 : lw_okq (⟨"NoKnotModel", "stepOf", "(I)I"⟩, 37) := ⟨⟨by decide +kernel, by decide +kernel⟩, List.mem_of_getElem? (i := 1439) (by decide +kernel), List.mem_of_getElem? (i := 1690) (by decide +kernel), List.mem_of_getElem? (i := 1691) (by decide +kernel)⟩
theorem lw_p82 : lw_okq (⟨"NoKnotModel", "rodsFor", "(II)I"⟩, 37) := ⟨⟨by decide +kernel, by decide +kernel⟩, List.mem_of_getElem? (i := 1439) (by decide +kernel), List.mem_of_getElem? (i := 1694) (by decide +kernel), List.mem_of_getElem? (i := 1695) (by decide +kernel)⟩
theorem lw_p83 : lw_okq (⟨"NoKnotModel", "stakeAt", "(III)I"⟩, 37) := ⟨⟨by decide +kernel, by decide +kernel⟩, List.mem_of_getElem? (i := 1439) (by decide +kernel), List.mem_of_getElem? (i := 1698) (by decide +kernel), List.mem_of_getElem? (i := 1699) (by decide +kernel)⟩
theorem lw_p84 : lw_okq (⟨"NoKnotModel", "isOver", "(III)Z"⟩, 37) := ⟨⟨by decide +kernel, by decide +kernel⟩, List.mem_of_getElem? (i := 1439) (by decide +kernel), List.mem_of_getElem? (i := 1705) (by decide +kernel), List.mem_of_getElem? (i := 1706) (by decide +kernel)⟩
theorem lw_p85 : lw_okq (⟨"NoKnotModel", "placeIn", "(III)I"⟩, 37) := ⟨⟨by decide +kernel, by decide +kernel⟩, List.mem_of_getElem? (i := 1439) (by decide +kernel), List.mem_of_getElem? (i := 1709) (by decide +kernel), List.mem_of_getElem? (i := 1710) (by decide +kernel)⟩
theorem lw_p86 : lw_okq (⟨"NoKnotModel", "when", "(III)I"⟩, 37) := ⟨⟨by decide +kernel, by decide +kernel⟩, List.mem_of_getElem? (i := 1439) (by decide +kernel), List.mem_of_getElem? (i := 1713) (by decide +kernel), List.mem_of_getElem? (i := 1714) (by decide +kernel)⟩
theorem lw_p87 : lw_okq (⟨"NoKnotModel", "allAhead", "(I)I"⟩, 37) := ⟨⟨by decide +kernel, by decide +kernel⟩, List.mem_of_getElem? (i := 1439) (by decide +kernel), List.mem_of_getElem? (i := 1717) (by decide +kernel), List.mem_of_getElem? (i := 1718) (by decide +kernel)⟩
theorem lw_p88 : lw_okq (⟨"NoKnotModel", "isStake", "(I)Z"⟩, 37) := ⟨⟨by decide +kernel, by decide +kernel⟩, List.mem_of_getElem? (i := 1439) (by decide +kernel), List.mem_of_getElem? (i := 1725) (by decide +kernel), List.mem_of_getElem? (i := 1726) (by decide +kernel)⟩
theorem lw_p89 : lw_okq (⟨"NoKnotModel", "isOverIn", "(III)Z"⟩, 37) := ⟨⟨by decide +kernel, by decide +kernel⟩, List.mem_of_getElem? (i := 1439) (by decide +kernel), List.mem_of_getElem? (i := 1729) (by decide +kernel), List.mem_of_getElem? (i := 1730) (by decide +kernel)⟩
theorem lw_p90 : lw_okq (⟨"NoKnotModel", "indexAt", "(IIII)I"⟩, 37) := ⟨⟨by decide +kernel, by decide +kernel⟩, List.mem_of_getElem? (i := 1439) (by decide +kernel), List.mem_of_getElem? (i := 1733) (by decide +kernel), List.mem_of_getElem? (i := 1734) (by decide +kernel)⟩
theorem lw_p91 : lw_okq (⟨"NoKnotModel", "seamOf", "(I)I"⟩, 37) := ⟨⟨by decide +kernel, by decide +kernel⟩, List.mem_of_getElem? (i := 1439) (by decide +kernel), List.mem_of_getElem? (i := 1775) (by decide +kernel), List.mem_of_getElem? (i := 1776) (by decide +kernel)⟩
theorem lw_p92 : lw_okq (⟨"NoKnotModel", "isRowAlike", "(III)Z"⟩, 37) := ⟨⟨by decide +kernel, by decide +kernel⟩, List.mem_of_getElem? (i := 1439) (by decide +kernel), List.mem_of_getElem? (i := 1791) (by decide +kernel), List.mem_of_getElem? (i := 1792) (by decide +kernel)⟩
theorem lw_p93 : lw_okq (⟨"NoKnotModel", "readsPicture", "(IIZ)I"⟩, 37) := ⟨⟨by decide +kernel, by decide +kernel⟩, List.mem_of_getElem? (i := 1439) (by decide +kernel), List.mem_of_getElem? (i := 1814) (by decide +kernel), List.mem_of_getElem? (i := 1815) (by decide +kernel)⟩
theorem lw_p94 : lw_okq (⟨"NoKnotModel", "firstStroke", "()V"⟩, 37) := ⟨⟨by decide +kernel, by decide +kernel⟩, List.mem_of_getElem? (i := 1439) (by decide +kernel), List.mem_of_getElem? (i := 1827) (by decide +kernel), List.mem_of_getElem? (i := 1828) (by decide +kernel)⟩
theorem lw_p95 : lw_okq (⟨"NoKnotModel", "makes", "()Z"⟩, 37) := ⟨⟨by decide +kernel, by decide +kernel⟩, List.mem_of_getElem? (i := 1439) (by decide +kernel), List.mem_of_getElem? (i := 1831) (by decide +kernel), List.mem_of_getElem? (i := 1832) (by decide +kernel)⟩
def lw_privs_6 : List (MethodName × Nat) := [(⟨"NoKnotModel", "kindOf", "(II)I"⟩, 37), (⟨"NoKnotModel", "stepOf", "(I)I"⟩, 37), (⟨"NoKnotModel", "rodsFor", "(II)I"⟩, 37), (⟨"NoKnotModel", "stakeAt", "(III)I"⟩, 37), (⟨"NoKnotModel", "isOver", "(III)Z"⟩, 37), (⟨"NoKnotModel", "placeIn", "(III)I"⟩, 37), (⟨"NoKnotModel", "when", "(III)I"⟩, 37), (⟨"NoKnotModel", "allAhead", "(I)I"⟩, 37), (⟨"NoKnotModel", "isStake", "(I)Z"⟩, 37), (⟨"NoKnotModel", "isOverIn", "(III)Z"⟩, 37), (⟨"NoKnotModel", "indexAt", "(IIII)I"⟩, 37), (⟨"NoKnotModel", "seamOf", "(I)I"⟩, 37), (⟨"NoKnotModel", "isRowAlike", "(III)Z"⟩, 37), (⟨"NoKnotModel", "readsPicture", "(IIZ)I"⟩, 37), (⟨"NoKnotModel", "firstStroke", "()V"⟩, 37), (⟨"NoKnotModel", "makes", "()Z"⟩, 37)]
theorem lw_r6 : ∀ q ∈ lw_privs_6, lw_okq q := List.forall_mem_cons.mpr ⟨lw_p80, List.forall_mem_cons.mpr ⟨lw_p81, List.forall_mem_cons.mpr ⟨lw_p82, List.forall_mem_cons.mpr ⟨lw_p83, List.forall_mem_cons.mpr ⟨lw_p84, List.forall_mem_cons.mpr ⟨lw_p85, List.forall_mem_cons.mpr ⟨lw_p86, List.forall_mem_cons.mpr ⟨lw_p87, List.forall_mem_cons.mpr ⟨lw_p88, List.forall_mem_cons.mpr ⟨lw_p89, List.forall_mem_cons.mpr ⟨lw_p90, List.forall_mem_cons.mpr ⟨lw_p91, List.forall_mem_cons.mpr ⟨lw_p92, List.forall_mem_cons.mpr ⟨lw_p93, List.forall_mem_cons.mpr ⟨lw_p94, List.forall_mem_cons.mpr ⟨lw_p95, fun _ h => absurd h List.not_mem_nil⟩⟩⟩⟩⟩⟩⟩⟩⟩⟩⟩⟩⟩⟩⟩⟩
theorem lw_p96 : lw_okq (⟨"NoKnotModel", "strokeOver", "(II)Z"⟩, 37) := ⟨⟨by decide +kernel, by decide +kernel⟩, List.mem_of_getElem? (i := 1439) (by decide +kernel), List.mem_of_getElem? (i := 1835) (by decide +kernel), List.mem_of_getElem? (i := 1836) (by decide +kernel)⟩
theorem lw_p97 : lw_okq (⟨"NoKnotModel", "keepsStroke", "()V"⟩, 37) := ⟨⟨by decide +kernel, by decide +kernel⟩, List.mem_of_getElem? (i := 1439) (by decide +kernel), List.mem_of_getElem? (i := 1839) (by decide +kernel), List.mem_of_getElem? (i := 1840) (by decide +kernel)⟩
theorem lw_p98 : lw_okq (⟨"NoKnotModel", "nextStroke", "()Z"⟩, 37) := ⟨⟨by decide +kernel, by decide +kernel⟩, List.mem_of_getElem? (i := 1439) (by decide +kernel), List.mem_of_getElem? (i := 1843) (by decide +kernel), List.mem_of_getElem? (i := 1844) (by decide +kernel)⟩
theorem lw_p99 : lw_okq (⟨"NoKnotModel", "mistakes", "(I)I"⟩, 37) := ⟨⟨by decide +kernel, by decide +kernel⟩, List.mem_of_getElem? (i := 1439) (by decide +kernel), List.mem_of_getElem? (i := 1851) (by decide +kernel), List.mem_of_getElem? (i := 1852) (by decide +kernel)⟩
theorem lw_p100 : lw_okq (⟨"NoKnotModel", "rodsOf", "(I)I"⟩, 37) := ⟨⟨by decide +kernel, by decide +kernel⟩, List.mem_of_getElem? (i := 1439) (by decide +kernel), List.mem_of_getElem? (i := 1863) (by decide +kernel), List.mem_of_getElem? (i := 1864) (by decide +kernel)⟩
theorem lw_p101 : lw_okq (⟨"NoKnotModel", "joinsOf", "(IZ)I"⟩, 37) := ⟨⟨by decide +kernel, by decide +kernel⟩, List.mem_of_getElem? (i := 1439) (by decide +kernel), List.mem_of_getElem? (i := 1883) (by decide +kernel), List.mem_of_getElem? (i := 1884) (by decide +kernel)⟩
theorem lw_p102 : lw_okq (⟨"NoKnotModel", "areNumbers", "(III)Z"⟩, 37) := ⟨⟨by decide +kernel, by decide +kernel⟩, List.mem_of_getElem? (i := 1439) (by decide +kernel), List.mem_of_getElem? (i := 1895) (by decide +kernel), List.mem_of_getElem? (i := 1896) (by decide +kernel)⟩
theorem lw_p103 : lw_okq (⟨"NoKnotModel", "puts", "(II)V"⟩, 37) := ⟨⟨by decide +kernel, by decide +kernel⟩, List.mem_of_getElem? (i := 1439) (by decide +kernel), List.mem_of_getElem? (i := 1917) (by decide +kernel), List.mem_of_getElem? (i := 1918) (by decide +kernel)⟩
theorem lw_p104 : lw_okq (⟨"NoKnotModel", "offOf", "()I"⟩, 37) := ⟨⟨by decide +kernel, by decide +kernel⟩, List.mem_of_getElem? (i := 1439) (by decide +kernel), List.mem_of_getElem? (i := 1921) (by decide +kernel), List.mem_of_getElem? (i := 1922) (by decide +kernel)⟩
theorem lw_p105 : lw_okq (⟨"NoKnotModel", "heightOf", "(IZ)I"⟩, 37) := ⟨⟨by decide +kernel, by decide +kernel⟩, List.mem_of_getElem? (i := 1439) (by decide +kernel), List.mem_of_getElem? (i := 1929) (by decide +kernel), List.mem_of_getElem? (i := 1930) (by decide +kernel)⟩
theorem lw_p106 : lw_okq (⟨"NoKnotModel", "holdOf", "(I)I"⟩, 37) := ⟨⟨by decide +kernel, by decide +kernel⟩, List.mem_of_getElem? (i := 1439) (by decide +kernel), List.mem_of_getElem? (i := 1941) (by decide +kernel), List.mem_of_getElem? (i := 1942) (by decide +kernel)⟩
theorem lw_p107 : lw_okq (⟨"NoKnotModel", "isBowl", "(III)Z"⟩, 37) := ⟨⟨by decide +kernel, by decide +kernel⟩, List.mem_of_getElem? (i := 1439) (by decide +kernel), List.mem_of_getElem? (i := 1960) (by decide +kernel), List.mem_of_getElem? (i := 1961) (by decide +kernel)⟩
theorem lw_p108 : lw_okq (⟨"NoKnotModel", "mostAhead", "(I)I"⟩, 37) := ⟨⟨by decide +kernel, by decide +kernel⟩, List.mem_of_getElem? (i := 1439) (by decide +kernel), List.mem_of_getElem? (i := 1964) (by decide +kernel), List.mem_of_getElem? (i := 1965) (by decide +kernel)⟩
theorem lw_p109 : lw_okq (⟨"NoKnotModel", "offAt", "(III)I"⟩, 37) := ⟨⟨by decide +kernel, by decide +kernel⟩, List.mem_of_getElem? (i := 1439) (by decide +kernel), List.mem_of_getElem? (i := 1968) (by decide +kernel), List.mem_of_getElem? (i := 1969) (by decide +kernel)⟩
theorem lw_p110 : lw_okq (⟨"NoKnotModel", "leastBy", "(IIIII)I"⟩, 37) := ⟨⟨by decide +kernel, by decide +kernel⟩, List.mem_of_getElem? (i := 1439) (by decide +kernel), List.mem_of_getElem? (i := 1972) (by decide +kernel), List.mem_of_getElem? (i := 1973) (by decide +kernel)⟩
theorem lw_p111 : lw_okq (⟨"NoKnotModel", "offBy", "(IIII)I"⟩, 37) := ⟨⟨by decide +kernel, by decide +kernel⟩, List.mem_of_getElem? (i := 1439) (by decide +kernel), List.mem_of_getElem? (i := 1976) (by decide +kernel), List.mem_of_getElem? (i := 1977) (by decide +kernel)⟩
def lw_privs_7 : List (MethodName × Nat) := [(⟨"NoKnotModel", "strokeOver", "(II)Z"⟩, 37), (⟨"NoKnotModel", "keepsStroke", "()V"⟩, 37), (⟨"NoKnotModel", "nextStroke", "()Z"⟩, 37), (⟨"NoKnotModel", "mistakes", "(I)I"⟩, 37), (⟨"NoKnotModel", "rodsOf", "(I)I"⟩, 37), (⟨"NoKnotModel", "joinsOf", "(IZ)I"⟩, 37), (⟨"NoKnotModel", "areNumbers", "(III)Z"⟩, 37), (⟨"NoKnotModel", "puts", "(II)V"⟩, 37), (⟨"NoKnotModel", "offOf", "()I"⟩, 37), (⟨"NoKnotModel", "heightOf", "(IZ)I"⟩, 37), (⟨"NoKnotModel", "holdOf", "(I)I"⟩, 37), (⟨"NoKnotModel", "isBowl", "(III)Z"⟩, 37), (⟨"NoKnotModel", "mostAhead", "(I)I"⟩, 37), (⟨"NoKnotModel", "offAt", "(III)I"⟩, 37), (⟨"NoKnotModel", "leastBy", "(IIIII)I"⟩, 37), (⟨"NoKnotModel", "offBy", "(IIII)I"⟩, 37)]
theorem lw_r7 : ∀ q ∈ lw_privs_7, lw_okq q := List.forall_mem_cons.mpr ⟨lw_p96, List.forall_mem_cons.mpr ⟨lw_p97, List.forall_mem_cons.mpr ⟨lw_p98, List.forall_mem_cons.mpr ⟨lw_p99, List.forall_mem_cons.mpr ⟨lw_p100, List.forall_mem_cons.mpr ⟨lw_p101, List.forall_mem_cons.mpr ⟨lw_p102, List.forall_mem_cons.mpr ⟨lw_p103, List.forall_mem_cons.mpr ⟨lw_p104, List.forall_mem_cons.mpr ⟨lw_p105, List.forall_mem_cons.mpr ⟨lw_p106, List.forall_mem_cons.mpr ⟨lw_p107, List.forall_mem_cons.mpr ⟨lw_p108, List.forall_mem_cons.mpr ⟨lw_p109, List.forall_mem_cons.mpr ⟨lw_p110, List.forall_mem_cons.mpr ⟨lw_p111, fun _ h => absurd h List.not_mem_nil⟩⟩⟩⟩⟩⟩⟩⟩⟩⟩⟩⟩⟩⟩⟩⟩
theorem lw_p112 : lw_okq (⟨"NoKnotModel", "closesBy", "(I)Z"⟩, 37) := ⟨⟨by decide +kernel, by decide +kernel⟩, List.mem_of_getElem? (i := 1439) (by decide +kernel), List.mem_of_getElem? (i := 1988) (by decide +kernel), List.mem_of_getElem? (i := 1989) (by decide +kernel)⟩
theorem lw_p113 : lw_okq (⟨"NoKnotModel", "teaches", "()I"⟩, 37) := ⟨⟨by decide +kernel, by decide +kernel⟩, List.mem_of_getElem? (i := 1439) (by decide +kernel), List.mem_of_getElem? (i := 2006) (by decide +kernel), List.mem_of_getElem? (i := 2007) (by decide +kernel)⟩
theorem lw_p114 : lw_okq (⟨"NoKnotModel", "dried", "(II)I"⟩, 37) := ⟨⟨by decide +kernel, by decide +kernel⟩, List.mem_of_getElem? (i := 1439) (by decide +kernel), List.mem_of_getElem? (i := 2018) (by decide +kernel), List.mem_of_getElem? (i := 2019) (by decide +kernel)⟩
def lw_privs_8 : List (MethodName × Nat) := [(⟨"NoKnotModel", "closesBy", "(I)Z"⟩, 37), (⟨"NoKnotModel", "teaches", "()I"⟩, 37), (⟨"NoKnotModel", "dried", "(II)I"⟩, 37)]
theorem lw_r8 : ∀ q ∈ lw_privs_8, lw_okq q := List.forall_mem_cons.mpr ⟨lw_p112, List.forall_mem_cons.mpr ⟨lw_p113, List.forall_mem_cons.mpr ⟨lw_p114, fun _ h => absurd h List.not_mem_nil⟩⟩⟩
def lw_privs : List (MethodName × Nat) := lw_privs_1 ++ (lw_privs_2 ++ (lw_privs_3 ++ (lw_privs_4 ++ (lw_privs_5 ++ (lw_privs_6 ++ (lw_privs_7 ++ (lw_privs_8)))))))
def lw_tbl : List Cond := k2_sels lw_privs ++ tables_1
theorem lw_privs_ok : ∀ q ∈ lw_privs, lw_okq q := by
  show ∀ q ∈ lw_privs_1 ++ (lw_privs_2 ++ (lw_privs_3 ++ (lw_privs_4 ++ (lw_privs_5 ++ (lw_privs_6 ++ (lw_privs_7 ++ (lw_privs_8))))))), lw_okq q
  exact List.forall_mem_append.mpr ⟨lw_r1, List.forall_mem_append.mpr ⟨lw_r2, List.forall_mem_append.mpr ⟨lw_r3, List.forall_mem_append.mpr ⟨lw_r4, List.forall_mem_append.mpr ⟨lw_r5, List.forall_mem_append.mpr ⟨lw_r6, List.forall_mem_append.mpr ⟨lw_r7, lw_r8⟩⟩⟩⟩⟩⟩⟩
end
section
def RX0 : String := "NoKnot$Basket"
def TX0 : u_T := fun k => match k with
  | 0 => ("NoKnot$Basket", "stakes", "I", false)
  | 1 => ("NoKnot$Basket", "kinds", "I", false)
  | 2 => ("NoKnot$Basket", "bands", "I", false)
  | 3 => ("NoKnot$Basket", "slips", "I", false)
  | 4 => ("NoKnot$Basket", "overlap", "I", false)
  | 5 => ("NoKnot$Basket", "wide", "I", false)
  | 6 => ("NoKnot$Basket", "lines", "I", false)
  | 7 => ("NoKnot$Basket", "kindTable", "[I", true)
  | 8 => ("NoKnot$Basket", "bandTable", "[I", true)
  | _ => ("NoKnot$Basket", "slipTable", "[I", true)
def tyX0 : Nat → FieldType := fun k => match k with
  | 0 => .int
  | 1 => .int
  | 2 => .int
  | 3 => .int
  | 4 => .int
  | 5 => .int
  | 6 => .int
  | 7 => .array .int
  | 8 => .array .int
  | _ => .array .int
theorem nmX0 : ∀ a, a < 10 → ∀ b, b < 10 → a ≠ b → (TX0 a).2.1 ≠ (TX0 b).2.1 := by decide +kernel
theorem tyX0_ok : ∀ k, k < 10 → parseFieldDescriptor (TX0 k).2.2.1 = some (tyX0 k) := by decide +kernel
abbrev cX0_init : ByteArray := prog_2_method_1_code
def yX0_init : MethodName := ⟨RX0, "<init>", "()V"⟩
abbrev cX0_clear : ByteArray := prog_2_method_2_code
def yX0_clear : MethodName := ⟨RX0, "clear", "()V"⟩
abbrev cX0_become : ByteArray := prog_2_method_3_code
def yX0_become : MethodName := ⟨RX0, "become", "(LNoKnot$Basket;)V"⟩
abbrev cX0_hasKind : ByteArray := prog_2_method_4_code
def yX0_hasKind : MethodName := ⟨RX0, "hasKind", "(I)Z"⟩
abbrev cX0_hasBand : ByteArray := prog_2_method_5_code
def yX0_hasBand : MethodName := ⟨RX0, "hasBand", "(I)Z"⟩
abbrev cX0_hasStake : ByteArray := prog_2_method_6_code
def yX0_hasStake : MethodName := ⟨RX0, "hasStake", "(I)Z"⟩
abbrev cX0_hasWeaver : ByteArray := prog_2_method_7_code
def yX0_hasWeaver : MethodName := ⟨RX0, "hasWeaver", "(II)Z"⟩
abbrev cX0_hasCrossing : ByteArray := prog_2_method_8_code
def yX0_hasCrossing : MethodName := ⟨RX0, "hasCrossing", "(III)Z"⟩
abbrev cX0_ofKind : ByteArray := prog_2_method_9_code
def yX0_ofKind : MethodName := ⟨RX0, "ofKind", "(II)I"⟩
abbrev cX0_ofBand : ByteArray := prog_2_method_10_code
def yX0_ofBand : MethodName := ⟨RX0, "ofBand", "(II)I"⟩
abbrev cX0_kindOf : ByteArray := prog_2_method_11_code
def yX0_kindOf : MethodName := ⟨RX0, "kindOf", "(II)I"⟩
abbrev cX0_ring : ByteArray := prog_2_method_12_code
def yX0_ring : MethodName := ⟨RX0, "ring", "()I"⟩
abbrev cX0_weaversOf : ByteArray := prog_2_method_13_code
def yX0_weaversOf : MethodName := ⟨RX0, "weaversOf", "(I)I"⟩
abbrev cX0_periodOf : ByteArray := prog_2_method_14_code
def yX0_periodOf : MethodName := ⟨RX0, "periodOf", "(I)I"⟩
abbrev cX0_crossingsOf : ByteArray := prog_2_method_15_code
def yX0_crossingsOf : MethodName := ⟨RX0, "crossingsOf", "(I)I"⟩
abbrev cX0_rowsOf : ByteArray := prog_2_method_16_code
def yX0_rowsOf : MethodName := ⟨RX0, "rowsOf", "(I)I"⟩
abbrev cX0_slipsOfBand : ByteArray := prog_2_method_17_code
def yX0_slipsOfBand : MethodName := ⟨RX0, "slipsOfBand", "(I)I"⟩
abbrev cX0_slipsAt : ByteArray := prog_2_method_18_code
def yX0_slipsAt : MethodName := ⟨RX0, "slipsAt", "(III)I"⟩
abbrev cX0_stakeAt : ByteArray := prog_2_method_19_code
def yX0_stakeAt : MethodName := ⟨RX0, "stakeAt", "(III)I"⟩
abbrev cX0_offsetOf : ByteArray := prog_2_method_20_code
def yX0_offsetOf : MethodName := ⟨RX0, "offsetOf", "(III)I"⟩
abbrev cX0_aheadOf : ByteArray := prog_2_method_21_code
def yX0_aheadOf : MethodName := ⟨RX0, "aheadOf", "(I)I"⟩
abbrev cX0_allCrossings : ByteArray := prog_2_method_22_code
def yX0_allCrossings : MethodName := ⟨RX0, "allCrossings", "()I"⟩
abbrev cX0_whenOf : ByteArray := prog_2_method_23_code
def yX0_whenOf : MethodName := ⟨RX0, "whenOf", "(III)I"⟩
abbrev cX0_firstTouch : ByteArray := prog_2_method_24_code
def yX0_firstTouch : MethodName := ⟨RX0, "firstTouch", "(III)I"⟩
abbrev cX0_rodStep : ByteArray := prog_2_method_25_code
def yX0_rodStep : MethodName := ⟨RX0, "rodStep", "(II)I"⟩
abbrev cX0_rodsFor : ByteArray := prog_2_method_26_code
def yX0_rodsFor : MethodName := ⟨RX0, "rodsFor", "(III)I"⟩
abbrev cX0_rodAt : ByteArray := prog_2_method_27_code
def yX0_rodAt : MethodName := ⟨RX0, "rodAt", "(III)I"⟩
abbrev cX0_weaversOfKind : ByteArray := prog_2_method_28_code
def yX0_weaversOfKind : MethodName := ⟨RX0, "weaversOfKind", "(II)I"⟩
abbrev cX0_rodsTaken : ByteArray := prog_2_method_29_code
def yX0_rodsTaken : MethodName := ⟨RX0, "rodsTaken", "(I)I"⟩
abbrev cX0_leftOver : ByteArray := prog_2_method_30_code
def yX0_leftOver : MethodName := ⟨RX0, "leftOver", "(I)I"⟩
abbrev cX0_cheapestKind : ByteArray := prog_2_method_31_code
def yX0_cheapestKind : MethodName := ⟨RX0, "cheapestKind", "(I)I"⟩
abbrev cX0_longestRod : ByteArray := prog_2_method_32_code
def yX0_longestRod : MethodName := ⟨RX0, "longestRod", "(I)I"⟩
abbrev cX0_driesTo : ByteArray := prog_2_method_33_code
def yX0_driesTo : MethodName := ⟨RX0, "driesTo", "(I)I"⟩
abbrev cX0_heightOf : ByteArray := prog_2_method_34_code
def yX0_heightOf : MethodName := ⟨RX0, "heightOf", "(IZ)I"⟩
abbrev cX0_loosest : ByteArray := prog_2_method_35_code
def yX0_loosest : MethodName := ⟨RX0, "loosest", "()I"⟩
abbrev cX0_widthBehind : ByteArray := prog_2_method_36_code
def yX0_widthBehind : MethodName := ⟨RX0, "widthBehind", "(I)I"⟩
abbrev cX0_wanderFrom : ByteArray := prog_2_method_37_code
def yX0_wanderFrom : MethodName := ⟨RX0, "wanderFrom", "(II)I"⟩
def RX1 : String := "NoKnot$BowlMaker"
def TX1 : u_T := fun k => match k with
  | 0 => ("NoKnot$BowlMaker", "bands", "I", false)
  | 1 => ("NoKnot$BowlMaker", "wide", "I", false)
  | 2 => ("NoKnot$BowlMaker", "reach", "I", false)
  | 3 => ("NoKnot$BowlMaker", "bound", "I", false)
  | 4 => ("NoKnot$BowlMaker", "rounds", "[I", true)
  | 5 => ("NoKnot$BowlMaker", "wishes", "[I", true)
  | 6 => ("NoKnot$BowlMaker", "low", "[I", true)
  | 7 => ("NoKnot$BowlMaker", "high", "[I", true)
  | 8 => ("NoKnot$BowlMaker", "sure", "[I", true)
  | 9 => ("NoKnot$BowlMaker", "sureBehind", "[I", true)
  | 10 => ("NoKnot$BowlMaker", "trialWidths", "[I", true)
  | 11 => ("NoKnot$BowlMaker", "trialCosts", "[I", true)
  | 12 => ("NoKnot$BowlMaker", "triedWidths", "[I", true)
  | 13 => ("NoKnot$BowlMaker", "triedCosts", "[I", true)
  | 14 => ("NoKnot$BowlMaker", "now", "[J", false)
  | 15 => ("NoKnot$BowlMaker", "next", "[J", false)
  | _ => ("NoKnot$BowlMaker", "best", "J", false)
def tyX1 : Nat → FieldType := fun k => match k with
  | 0 => .int
  | 1 => .int
  | 2 => .int
  | 3 => .int
  | 4 => .array .int
  | 5 => .array .int
  | 6 => .array .int
  | 7 => .array .int
  | 8 => .array .int
  | 9 => .array .int
  | 10 => .array .int
  | 11 => .array .int
  | 12 => .array .int
  | 13 => .array .int
  | 14 => .array .long
  | 15 => .array .long
  | _ => .long
theorem nmX1 : ∀ a, a < 17 → ∀ b, b < 17 → a ≠ b → (TX1 a).2.1 ≠ (TX1 b).2.1 := by decide +kernel
theorem tyX1_ok : ∀ k, k < 17 → parseFieldDescriptor (TX1 k).2.2.1 = some (tyX1 k) := by decide +kernel
abbrev cX1_init : ByteArray := prog_3_method_1_code
def yX1_init : MethodName := ⟨RX1, "<init>", "()V"⟩
abbrev cX1_difference : ByteArray := prog_3_method_2_code
def yX1_difference : MethodName := ⟨RX1, "difference", "()I"⟩
abbrev cX1_leanOf : ByteArray := prog_3_method_3_code
def yX1_leanOf : MethodName := ⟨RX1, "leanOf", "(I)I"⟩
abbrev cX1_leanShift : ByteArray := prog_3_method_4_code
def yX1_leanShift : MethodName := ⟨RX1, "leanShift", "(I)I"⟩
abbrev cX1_make : ByteArray := prog_3_method_5_code
def yX1_make : MethodName := ⟨RX1, "make", "(LNoKnot$Basket;LNoKnot$Numbers;I)V"⟩
abbrev cX1_setRanges : ByteArray := prog_3_method_6_code
def yX1_setRanges : MethodName := ⟨RX1, "setRanges", "()V"⟩
abbrev cX1_costOfTrial : ByteArray := prog_3_method_7_code
def yX1_costOfTrial : MethodName := ⟨RX1, "costOfTrial", "()I"⟩
abbrev cX1_tryLean : ByteArray := prog_3_method_8_code
def yX1_tryLean : MethodName := ⟨RX1, "tryLean", "(II)V"⟩
abbrev cX1_widthBy : ByteArray := prog_3_method_9_code
def yX1_widthBy : MethodName := ⟨RX1, "widthBy", "(III)I"⟩
abbrev cX1_narrowRanges : ByteArray := prog_3_method_10_code
def yX1_narrowRanges : MethodName := ⟨RX1, "narrowRanges", "()V"⟩
abbrev cX1_makeRoom : ByteArray := prog_3_method_11_code
def yX1_makeRoom : MethodName := ⟨RX1, "makeRoom", "()V"⟩
abbrev cX1_rowsOf : ByteArray := prog_3_method_12_code
def yX1_rowsOf : MethodName := ⟨RX1, "rowsOf", "(I)I"⟩
abbrev cX1_wayAt : ByteArray := prog_3_method_13_code
def yX1_wayAt : MethodName := ⟨RX1, "wayAt", "(I)J"⟩
abbrev cX1_emptyNext : ByteArray := prog_3_method_14_code
def yX1_emptyNext : MethodName := ⟨RX1, "emptyNext", "(I)V"⟩
abbrev cX1_takeNext : ByteArray := prog_3_method_15_code
def yX1_takeNext : MethodName := ⟨RX1, "takeNext", "()V"⟩
abbrev cX1_goOn : ByteArray := prog_3_method_16_code
def yX1_goOn : MethodName := ⟨RX1, "goOn", "(I)V"⟩
abbrev cX1_goOnFrom : ByteArray := prog_3_method_17_code
def yX1_goOnFrom : MethodName := ⟨RX1, "goOnFrom", "(IIIJ)V"⟩
abbrev cX1_leastNear : ByteArray := prog_3_method_18_code
def yX1_leastNear : MethodName := ⟨RX1, "leastNear", "(II)J"⟩
abbrev cX1_goTo : ByteArray := prog_3_method_19_code
def yX1_goTo : MethodName := ⟨RX1, "goTo", "(IIIJ)V"⟩
def RX2 : String := "NoKnot$Evener"
def TX2 : u_T := fun k => match k with
  | 0 => ("NoKnot$Evener", "least", "I", false)
  | 1 => ("NoKnot$Evener", "size", "I", false)
  | 2 => ("NoKnot$Evener", "sum", "I", false)
  | 3 => ("NoKnot$Evener", "thick", "[I", true)
  | 4 => ("NoKnot$Evener", "order", "[I", true)
  | _ => ("NoKnot$Evener", "best", "[I", true)
def tyX2 : Nat → FieldType := fun k => match k with
  | 0 => .int
  | 1 => .int
  | 2 => .int
  | 3 => .array .int
  | 4 => .array .int
  | _ => .array .int
theorem nmX2 : ∀ a, a < 6 → ∀ b, b < 6 → a ≠ b → (TX2 a).2.1 ≠ (TX2 b).2.1 := by decide +kernel
theorem tyX2_ok : ∀ k, k < 6 → parseFieldDescriptor (TX2 k).2.2.1 = some (tyX2 k) := by decide +kernel
abbrev cX2_init : ByteArray := prog_4_method_1_code
def yX2_init : MethodName := ⟨RX2, "<init>", "()V"⟩
abbrev cX2_rodAtPlace : ByteArray := prog_4_method_2_code
def yX2_rodAtPlace : MethodName := ⟨RX2, "rodAtPlace", "(I)I"⟩
abbrev cX2_putRound : ByteArray := prog_4_method_3_code
def yX2_putRound : MethodName := ⟨RX2, "putRound", "(LNoKnot$Numbers;)V"⟩
abbrev cX2_putFrom : ByteArray := prog_4_method_4_code
def yX2_putFrom : MethodName := ⟨RX2, "putFrom", "(III)V"⟩
abbrev cX2_differenceAt : ByteArray := prog_4_method_5_code
def yX2_differenceAt : MethodName := ⟨RX2, "differenceAt", "(I)I"⟩
def RX3 : String := "NoKnot$Hands"
def TX3 : u_T := fun k => match k with
  | 0 => ("NoKnot$Hands", "ways", "[I", true)
  | _ => ("NoKnot$Hands", "teachers", "[I", true)
def tyX3 : Nat → FieldType := fun k => match k with
  | 0 => .array .int
  | _ => .array .int
theorem nmX3 : ∀ a, a < 2 → ∀ b, b < 2 → a ≠ b → (TX3 a).2.1 ≠ (TX3 b).2.1 := by decide +kernel
theorem tyX3_ok : ∀ k, k < 2 → parseFieldDescriptor (TX3 k).2.2.1 = some (tyX3 k) := by decide +kernel
abbrev cX3_init : ByteArray := prog_5_method_1_code
def yX3_init : MethodName := ⟨RX3, "<init>", "()V"⟩
abbrev cX3_become : ByteArray := prog_5_method_2_code
def yX3_become : MethodName := ⟨RX3, "become", "(LNoKnot$Hands;)V"⟩
abbrev cX3_isHand : ByteArray := prog_5_method_3_code
def yX3_isHand : MethodName := ⟨RX3, "isHand", "(I)Z"⟩
abbrev cX3_isTold : ByteArray := prog_5_method_4_code
def yX3_isTold : MethodName := ⟨RX3, "isTold", "(I)Z"⟩
abbrev cX3_tell : ByteArray := prog_5_method_5_code
def yX3_tell : MethodName := ⟨RX3, "tell", "(II)I"⟩
abbrev cX3_teacherOf : ByteArray := prog_5_method_6_code
def yX3_teacherOf : MethodName := ⟨RX3, "teacherOf", "(I)I"⟩
abbrev cX3_teachAll : ByteArray := prog_5_method_7_code
def yX3_teachAll : MethodName := ⟨RX3, "teachAll", "()I"⟩
abbrev cX3_nextTaught : ByteArray := prog_5_method_8_code
def yX3_nextTaught : MethodName := ⟨RX3, "nextTaught", "(I)I"⟩
def RX4 : String := "NoKnot$Image"
def TX4 : u_T := fun k => match k with
  | 0 => ("NoKnot$Image", "made", "Z", false)
  | 1 => ("NoKnot$Image", "basket", "LNoKnot$Basket;", true)
  | 2 => ("NoKnot$Image", "wished", "LNoKnot$Picture;", true)
  | 3 => ("NoKnot$Image", "printed", "LNoKnot$Picture;", true)
  | _ => ("NoKnot$Image", "hands", "LNoKnot$Hands;", true)
def tyX4 : Nat → FieldType := fun k => match k with
  | 0 => .boolean
  | 1 => .object "NoKnot$Basket"
  | 2 => .object "NoKnot$Picture"
  | 3 => .object "NoKnot$Picture"
  | _ => .object "NoKnot$Hands"
theorem nmX4 : ∀ a, a < 5 → ∀ b, b < 5 → a ≠ b → (TX4 a).2.1 ≠ (TX4 b).2.1 := by decide +kernel
theorem tyX4_ok : ∀ k, k < 5 → parseFieldDescriptor (TX4 k).2.2.1 = some (tyX4 k) := by decide +kernel
abbrev cX4_init : ByteArray := prog_6_method_1_code
def yX4_init : MethodName := ⟨RX4, "<init>", "()V"⟩
def RX5 : String := "NoKnot$Numbers"
def TX5 : u_T := fun k => match k with
  | 0 => ("NoKnot$Numbers", "size", "I", false)
  | 1 => ("NoKnot$Numbers", "sort", "I", false)
  | _ => ("NoKnot$Numbers", "values", "[J", true)
def tyX5 : Nat → FieldType := fun k => match k with
  | 0 => .int
  | 1 => .int
  | _ => .array .long
theorem nmX5 : ∀ a, a < 3 → ∀ b, b < 3 → a ≠ b → (TX5 a).2.1 ≠ (TX5 b).2.1 := by decide +kernel
theorem tyX5_ok : ∀ k, k < 3 → parseFieldDescriptor (TX5 k).2.2.1 = some (tyX5 k) := by decide +kernel
abbrev cX5_init : ByteArray := prog_7_method_1_code
def yX5_init : MethodName := ⟨RX5, "<init>", "()V"⟩
abbrev cX5_isMissing : ByteArray := prog_7_method_2_code
def yX5_isMissing : MethodName := ⟨RX5, "isMissing", "()Z"⟩
abbrev cX5_begin : ByteArray := prog_7_method_3_code
def yX5_begin : MethodName := ⟨RX5, "begin", "(II)V"⟩
abbrev cX5_put : ByteArray := prog_7_method_4_code
def yX5_put : MethodName := ⟨RX5, "put", "(IJ)J"⟩
abbrev cX5_cut : ByteArray := prog_7_method_5_code
def yX5_cut : MethodName := ⟨RX5, "cut", "(J)J"⟩
abbrev cX5_allWithin : ByteArray := prog_7_method_6_code
def yX5_allWithin : MethodName := ⟨RX5, "allWithin", "(JJ)Z"⟩
abbrev cX5_intAt : ByteArray := prog_7_method_7_code
def yX5_intAt : MethodName := ⟨RX5, "intAt", "(I)I"⟩
def RX6 : String := "NoKnot$Picture"
def TX6 : u_T := fun k => match k with
  | 0 => ("NoKnot$Picture", "rows", "I", false)
  | 1 => ("NoKnot$Picture", "overBits", "[I", true)
  | 2 => ("NoKnot$Picture", "underBits", "[I", true)
  | _ => ("NoKnot$Picture", "rowKinds", "[I", true)
def tyX6 : Nat → FieldType := fun k => match k with
  | 0 => .int
  | 1 => .array .int
  | 2 => .array .int
  | _ => .array .int
theorem nmX6 : ∀ a, a < 4 → ∀ b, b < 4 → a ≠ b → (TX6 a).2.1 ≠ (TX6 b).2.1 := by decide +kernel
theorem tyX6_ok : ∀ k, k < 4 → parseFieldDescriptor (TX6 k).2.2.1 = some (tyX6 k) := by decide +kernel
abbrev cX6_init : ByteArray := prog_8_method_1_code
def yX6_init : MethodName := ⟨RX6, "<init>", "()V"⟩
abbrev cX6_clear : ByteArray := prog_8_method_2_code
def yX6_clear : MethodName := ⟨RX6, "clear", "()V"⟩
abbrev cX6_become : ByteArray := prog_8_method_3_code
def yX6_become : MethodName := ⟨RX6, "become", "(LNoKnot$Picture;)V"⟩
abbrev cX6_isPicture : ByteArray := prog_8_method_4_code
def yX6_isPicture : MethodName := ⟨RX6, "isPicture", "([BIIZ)Z"⟩
abbrev cX6_isSign : ByteArray := prog_8_method_5_code
def yX6_isSign : MethodName := ⟨RX6, "isSign", "(IZ)Z"⟩
abbrev cX6_take : ByteArray := prog_8_method_6_code
def yX6_take : MethodName := ⟨RX6, "take", "([BIIZ)V"⟩
abbrev cX6_takeWished : ByteArray := prog_8_method_7_code
def yX6_takeWished : MethodName := ⟨RX6, "takeWished", "(III)V"⟩
abbrev cX6_takePrinted : ByteArray := prog_8_method_8_code
def yX6_takePrinted : MethodName := ⟨RX6, "takePrinted", "(III)V"⟩
def RX7 : String := "NoKnot$Plaiter"
def TX7 : u_T := fun k => match k with
  | 0 => ("NoKnot$Plaiter", "places", "[I", true)
  | _ => ("NoKnot$Plaiter", "left", "[I", true)
def tyX7 : Nat → FieldType := fun k => match k with
  | 0 => .array .int
  | _ => .array .int
theorem nmX7 : ∀ a, a < 2 → ∀ b, b < 2 → a ≠ b → (TX7 a).2.1 ≠ (TX7 b).2.1 := by decide +kernel
theorem tyX7_ok : ∀ k, k < 2 → parseFieldDescriptor (TX7 k).2.2.1 = some (tyX7 k) := by decide +kernel
abbrev cX7_init : ByteArray := prog_9_method_1_code
def yX7_init : MethodName := ⟨RX7, "<init>", "()V"⟩
abbrev cX7_make : ByteArray := prog_9_method_2_code
def yX7_make : MethodName := ⟨RX7, "make", "(LNoKnot$Numbers;I)V"⟩
abbrev cX7_strandAt : ByteArray := prog_9_method_3_code
def yX7_strandAt : MethodName := ⟨RX7, "strandAt", "(II)I"⟩
abbrev cX7_orderOf : ByteArray := prog_9_method_4_code
def yX7_orderOf : MethodName := ⟨RX7, "orderOf", "(I)I"⟩
abbrev cX7_ringOf : ByteArray := prog_9_method_5_code
def yX7_ringOf : MethodName := ⟨RX7, "ringOf", "(I)I"⟩
abbrev cX7_leftOf : ByteArray := prog_9_method_6_code
def yX7_leftOf : MethodName := ⟨RX7, "leftOf", "(LNoKnot$Numbers;)I"⟩
def RX8 : String := "NoKnot$Reader"
def TX8 : u_T := fun k => match k with
  | 0 => ("NoKnot$Reader", "faultKind", "I", false)
  | 1 => ("NoKnot$Reader", "faultPlace", "I", false)
  | 2 => ("NoKnot$Reader", "text", "[B", false)
  | 3 => ("NoKnot$Reader", "length", "I", false)
  | 4 => ("NoKnot$Reader", "start", "I", false)
  | 5 => ("NoKnot$Reader", "end", "I", false)
  | 6 => ("NoKnot$Reader", "token", "I", false)
  | _ => ("NoKnot$Reader", "value", "I", false)
def tyX8 : Nat → FieldType := fun k => match k with
  | 0 => .int
  | 1 => .int
  | 2 => .array .byte
  | 3 => .int
  | 4 => .int
  | 5 => .int
  | 6 => .int
  | _ => .int
theorem nmX8 : ∀ a, a < 8 → ∀ b, b < 8 → a ≠ b → (TX8 a).2.1 ≠ (TX8 b).2.1 := by decide +kernel
theorem tyX8_ok : ∀ k, k < 8 → parseFieldDescriptor (TX8 k).2.2.1 = some (tyX8 k) := by decide +kernel
abbrev cX8_init : ByteArray := prog_10_method_1_code
def yX8_init : MethodName := ⟨RX8, "<init>", "()V"⟩
abbrev cX8_readBasket : ByteArray := prog_10_method_2_code
def yX8_readBasket : MethodName := ⟨RX8, "readBasket", "([BILNoKnot$Basket;)Z"⟩
abbrev cX8_readLine : ByteArray := prog_10_method_3_code
def yX8_readLine : MethodName := ⟨RX8, "readLine", "(LNoKnot$Basket;)V"⟩
abbrev cX8_readStakes : ByteArray := prog_10_method_4_code
def yX8_readStakes : MethodName := ⟨RX8, "readStakes", "(LNoKnot$Basket;)V"⟩
abbrev cX8_readRod : ByteArray := prog_10_method_5_code
def yX8_readRod : MethodName := ⟨RX8, "readRod", "(LNoKnot$Basket;)V"⟩
abbrev cX8_readBand : ByteArray := prog_10_method_6_code
def yX8_readBand : MethodName := ⟨RX8, "readBand", "(LNoKnot$Basket;)V"⟩
abbrev cX8_takeLeft : ByteArray := prog_10_method_7_code
def yX8_takeLeft : MethodName := ⟨RX8, "takeLeft", "()I"⟩
abbrev cX8_takeLean : ByteArray := prog_10_method_8_code
def yX8_takeLean : MethodName := ⟨RX8, "takeLean", "()I"⟩
abbrev cX8_readSlip : ByteArray := prog_10_method_9_code
def yX8_readSlip : MethodName := ⟨RX8, "readSlip", "(LNoKnot$Basket;)V"⟩
abbrev cX8_fail : ByteArray := prog_10_method_10_code
def yX8_fail : MethodName := ⟨RX8, "fail", "(I)V"⟩
abbrev cX8_isWord : ByteArray := prog_10_method_11_code
def yX8_isWord : MethodName := ⟨RX8, "isWord", "(Ljava/lang/String;)Z"⟩
abbrev cX8_takeWord : ByteArray := prog_10_method_12_code
def yX8_takeWord : MethodName := ⟨RX8, "takeWord", "(Ljava/lang/String;)V"⟩
abbrev cX8_takeNumber : ByteArray := prog_10_method_13_code
def yX8_takeNumber : MethodName := ⟨RX8, "takeNumber", "(II)I"⟩
abbrev cX8_takeSign : ByteArray := prog_10_method_14_code
def yX8_takeSign : MethodName := ⟨RX8, "takeSign", "()V"⟩
abbrev cX8_byteAt : ByteArray := prog_10_method_15_code
def yX8_byteAt : MethodName := ⟨RX8, "byteAt", "(I)I"⟩
abbrev cX8_isLetter : ByteArray := prog_10_method_16_code
def yX8_isLetter : MethodName := ⟨RX8, "isLetter", "(I)Z"⟩
abbrev cX8_isDigit : ByteArray := prog_10_method_17_code
def yX8_isDigit : MethodName := ⟨RX8, "isDigit", "(I)Z"⟩
abbrev cX8_advance : ByteArray := prog_10_method_18_code
def yX8_advance : MethodName := ⟨RX8, "advance", "()V"⟩
def RX9 : String := "NoKnot$Strokes"
def TX9 : u_T := fun k => match k with
  | 0 => ("NoKnot$Strokes", "plainRounds", "[I", true)
  | 1 => ("NoKnot$Strokes", "mirrorRounds", "[I", true)
  | 2 => ("NoKnot$Strokes", "overWanted", "[I", true)
  | 3 => ("NoKnot$Strokes", "underWanted", "[I", true)
  | 4 => ("NoKnot$Strokes", "now", "[I", true)
  | 5 => ("NoKnot$Strokes", "maker", "[I", true)
  | 6 => ("NoKnot$Strokes", "readings", "[I", true)
  | 7 => ("NoKnot$Strokes", "makerKnown", "Z", false)
  | 8 => ("NoKnot$Strokes", "readingsKnown", "Z", false)
  | 9 => ("NoKnot$Strokes", "stakes", "I", false)
  | _ => ("NoKnot$Strokes", "rows", "I", false)
def tyX9 : Nat → FieldType := fun k => match k with
  | 0 => .array .int
  | 1 => .array .int
  | 2 => .array .int
  | 3 => .array .int
  | 4 => .array .int
  | 5 => .array .int
  | 6 => .array .int
  | 7 => .boolean
  | 8 => .boolean
  | 9 => .int
  | _ => .int
theorem nmX9 : ∀ a, a < 11 → ∀ b, b < 11 → a ≠ b → (TX9 a).2.1 ≠ (TX9 b).2.1 := by decide +kernel
theorem tyX9_ok : ∀ k, k < 11 → parseFieldDescriptor (TX9 k).2.2.1 = some (tyX9 k) := by decide +kernel
abbrev cX9_init : ByteArray := prog_11_method_1_code
def yX9_init : MethodName := ⟨RX9, "<init>", "()V"⟩
abbrev cX9_forgetWish : ByteArray := prog_11_method_2_code
def yX9_forgetWish : MethodName := ⟨RX9, "forgetWish", "()V"⟩
abbrev cX9_forgetPrint : ByteArray := prog_11_method_3_code
def yX9_forgetPrint : MethodName := ⟨RX9, "forgetPrint", "()V"⟩
abbrev cX9_ofMaker : ByteArray := prog_11_method_4_code
def yX9_ofMaker : MethodName := ⟨RX9, "ofMaker", "(I)I"⟩
abbrev cX9_ofReader : ByteArray := prog_11_method_5_code
def yX9_ofReader : MethodName := ⟨RX9, "ofReader", "(II)I"⟩
abbrev cX9_makeKnown : ByteArray := prog_11_method_6_code
def yX9_makeKnown : MethodName := ⟨RX9, "makeKnown", "(LNoKnot$Picture;I)V"⟩
abbrev cX9_kindsAgree : ByteArray := prog_11_method_7_code
def yX9_kindsAgree : MethodName := ⟨RX9, "kindsAgree", "(LNoKnot$Picture;I)Z"⟩
abbrev cX9_kindOfWeaver : ByteArray := prog_11_method_8_code
def yX9_kindOfWeaver : MethodName := ⟨RX9, "kindOfWeaver", "(LNoKnot$Picture;II)I"⟩
abbrev cX9_makeWith : ByteArray := prog_11_method_9_code
def yX9_makeWith : MethodName := ⟨RX9, "makeWith", "(LNoKnot$Picture;I)V"⟩
abbrev cX9_readKnown : ByteArray := prog_11_method_10_code
def yX9_readKnown : MethodName := ⟨RX9, "readKnown", "(LNoKnot$Picture;I)V"⟩
abbrev cX9_readSide : ByteArray := prog_11_method_11_code
def yX9_readSide : MethodName := ⟨RX9, "readSide", "(I)V"⟩
abbrev cX9_readWith : ByteArray := prog_11_method_12_code
def yX9_readWith : MethodName := ⟨RX9, "readWith", "(II)V"⟩
abbrev cX9_begin : ByteArray := prog_11_method_13_code
def yX9_begin : MethodName := ⟨RX9, "begin", "(I)V"⟩
abbrev cX9_goOn : ByteArray := prog_11_method_14_code
def yX9_goOn : MethodName := ⟨RX9, "goOn", "()Z"⟩
abbrev cX9_weaveRounds : ByteArray := prog_11_method_15_code
def yX9_weaveRounds : MethodName := ⟨RX9, "weaveRounds", "()V"⟩
abbrev cX9_mistakesOf : ByteArray := prog_11_method_16_code
def yX9_mistakesOf : MethodName := ⟨RX9, "mistakesOf", "(I)I"⟩
def RX10 : String := "NoKnot$Weave"
def TX10 : u_T := fun k => match k with
  | 0 => ("NoKnot$Weave", "basket", "LNoKnot$Basket;", true)
  | 1 => ("NoKnot$Weave", "rows", "[I", true)
  | 2 => ("NoKnot$Weave", "toldShift", "[I", true)
  | 3 => ("NoKnot$Weave", "ownShift", "[I", true)
  | 4 => ("NoKnot$Weave", "tally", "[I", true)
  | _ => ("NoKnot$Weave", "woven", "I", false)
def tyX10 : Nat → FieldType := fun k => match k with
  | 0 => .object "NoKnot$Basket"
  | 1 => .array .int
  | 2 => .array .int
  | 3 => .array .int
  | 4 => .array .int
  | _ => .int
theorem nmX10 : ∀ a, a < 6 → ∀ b, b < 6 → a ≠ b → (TX10 a).2.1 ≠ (TX10 b).2.1 := by decide +kernel
theorem tyX10_ok : ∀ k, k < 6 → parseFieldDescriptor (TX10 k).2.2.1 = some (tyX10 k) := by decide +kernel
abbrev cX10_init : ByteArray := prog_12_method_1_code
def yX10_init : MethodName := ⟨RX10, "<init>", "(LNoKnot$Basket;)V"⟩
abbrev cX10_forget : ByteArray := prog_12_method_2_code
def yX10_forget : MethodName := ⟨RX10, "forget", "()V"⟩
abbrev cX10_rowBits : ByteArray := prog_12_method_3_code
def yX10_rowBits : MethodName := ⟨RX10, "rowBits", "(II)I"⟩
abbrev cX10_weaveOne : ByteArray := prog_12_method_4_code
def yX10_weaveOne : MethodName := ⟨RX10, "weaveOne", "(II)V"⟩
abbrev cX10_goesOver : ByteArray := prog_12_method_5_code
def yX10_goesOver : MethodName := ⟨RX10, "goesOver", "(III)Z"⟩
abbrev cX10_overAt : ByteArray := prog_12_method_6_code
def yX10_overAt : MethodName := ⟨RX10, "overAt", "(III)Z"⟩
abbrev cX10_kindSeen : ByteArray := prog_12_method_7_code
def yX10_kindSeen : MethodName := ⟨RX10, "kindSeen", "(IIIZ)I"⟩
abbrev cX10_oversAt : ByteArray := prog_12_method_8_code
def yX10_oversAt : MethodName := ⟨RX10, "oversAt", "(II)I"⟩
abbrev cX10_longestRun : ByteArray := prog_12_method_9_code
def yX10_longestRun : MethodName := ⟨RX10, "longestRun", "(II)I"⟩
abbrev cX10_stakeBits : ByteArray := prog_12_method_10_code
def yX10_stakeBits : MethodName := ⟨RX10, "stakeBits", "(III)I"⟩
abbrev cX10_alike : ByteArray := prog_12_method_11_code
def yX10_alike : MethodName := ⟨RX10, "alike", "(II)I"⟩
abbrev cX10_bestFrom : ByteArray := prog_12_method_12_code
def yX10_bestFrom : MethodName := ⟨RX10, "bestFrom", "(I)I"⟩
abbrev cX10_turnBetween : ByteArray := prog_12_method_13_code
def yX10_turnBetween : MethodName := ⟨RX10, "turnBetween", "(III)I"⟩
abbrev cX10_rowsTillAgain : ByteArray := prog_12_method_14_code
def yX10_rowsTillAgain : MethodName := ⟨RX10, "rowsTillAgain", "(I)I"⟩
abbrev cX10_sameBehind : ByteArray := prog_12_method_15_code
def yX10_sameBehind : MethodName := ⟨RX10, "sameBehind", "(III)Z"⟩
abbrev cX10_mostSeen : ByteArray := prog_12_method_16_code
def yX10_mostSeen : MethodName := ⟨RX10, "mostSeen", "(IIZ)I"⟩
abbrev cX10_longStretches : ByteArray := prog_12_method_17_code
def yX10_longStretches : MethodName := ⟨RX10, "longStretches", "(II)I"⟩
abbrev cX10_learnerDoes : ByteArray := prog_12_method_18_code
def yX10_learnerDoes : MethodName := ⟨RX10, "learnerDoes", "(IIII)I"⟩
abbrev cX10_joinsOf : ByteArray := prog_12_method_19_code
def yX10_joinsOf : MethodName := ⟨RX10, "joinsOf", "(IIZ)I"⟩
abbrev cX10_holdOf : ByteArray := prog_12_method_20_code
def yX10_holdOf : MethodName := ⟨RX10, "holdOf", "(I)I"⟩
abbrev cX10_changesOf : ByteArray := prog_12_method_21_code
def yX10_changesOf : MethodName := ⟨RX10, "changesOf", "(II)I"⟩
def RX11 : String := "NoKnot"
def TX11 : u_T := fun k => match k with
  | 0 => ("NoKnot", "tape", "[B", true)
  | 1 => ("NoKnot", "tapeLength", "I", false)
  | 2 => ("NoKnot", "basket", "LNoKnot$Basket;", true)
  | 3 => ("NoKnot", "spare", "LNoKnot$Basket;", true)
  | 4 => ("NoKnot", "reader", "LNoKnot$Reader;", true)
  | 5 => ("NoKnot", "weave", "LNoKnot$Weave;", true)
  | 6 => ("NoKnot", "wished", "LNoKnot$Picture;", true)
  | 7 => ("NoKnot", "printed", "LNoKnot$Picture;", true)
  | 8 => ("NoKnot", "strokes", "LNoKnot$Strokes;", true)
  | 9 => ("NoKnot", "hands", "LNoKnot$Hands;", true)
  | 10 => ("NoKnot", "numberRows", "[LNoKnot$Numbers;", true)
  | 11 => ("NoKnot", "images", "[LNoKnot$Image;", true)
  | 12 => ("NoKnot", "evener", "LNoKnot$Evener;", true)
  | 13 => ("NoKnot", "bowlMaker", "LNoKnot$BowlMaker;", true)
  | 14 => ("NoKnot", "plaiter", "LNoKnot$Plaiter;", true)
  | 15 => ("NoKnot", "refusals", "[I", true)
  | _ => ("NoKnot", "scratch", "[I", true)
def tyX11 : Nat → FieldType := fun k => match k with
  | 0 => .array .byte
  | 1 => .int
  | 2 => .object "NoKnot$Basket"
  | 3 => .object "NoKnot$Basket"
  | 4 => .object "NoKnot$Reader"
  | 5 => .object "NoKnot$Weave"
  | 6 => .object "NoKnot$Picture"
  | 7 => .object "NoKnot$Picture"
  | 8 => .object "NoKnot$Strokes"
  | 9 => .object "NoKnot$Hands"
  | 10 => .array (.object "NoKnot$Numbers")
  | 11 => .array (.object "NoKnot$Image")
  | 12 => .object "NoKnot$Evener"
  | 13 => .object "NoKnot$BowlMaker"
  | 14 => .object "NoKnot$Plaiter"
  | 15 => .array .int
  | _ => .array .int
theorem nmX11 : ∀ a, a < 17 → ∀ b, b < 17 → a ≠ b → (TX11 a).2.1 ≠ (TX11 b).2.1 := by decide +kernel
theorem tyX11_ok : ∀ k, k < 17 → parseFieldDescriptor (TX11 k).2.2.1 = some (tyX11 k) := by decide +kernel
abbrev cX11_init : ByteArray := prog_1_method_1_code
def yX11_init : MethodName := ⟨RX11, "<init>", "()V"⟩
abbrev cX11_feed : ByteArray := prog_1_method_2_code
def yX11_feed : MethodName := ⟨RX11, "feed", "(IIIII)I"⟩
abbrev cX11_basket : ByteArray := prog_1_method_3_code
def yX11_basket : MethodName := ⟨RX11, "basket", "(I)I"⟩
abbrev cX11_fault : ByteArray := prog_1_method_4_code
def yX11_fault : MethodName := ⟨RX11, "fault", "(I)I"⟩
abbrev cX11_rod : ByteArray := prog_1_method_5_code
def yX11_rod : MethodName := ⟨RX11, "rod", "(II)I"⟩
abbrev cX11_band : ByteArray := prog_1_method_6_code
def yX11_band : MethodName := ⟨RX11, "band", "(II)I"⟩
abbrev cX11_lean : ByteArray := prog_1_method_7_code
def yX11_lean : MethodName := ⟨RX11, "lean", "(I)I"⟩
abbrev cX11_crossing : ByteArray := prog_1_method_8_code
def yX11_crossing : MethodName := ⟨RX11, "crossing", "(IIII)I"⟩
abbrev cX11_seen : ByteArray := prog_1_method_9_code
def yX11_seen : MethodName := ⟨RX11, "seen", "(IIIZ)I"⟩
abbrev cX11_overs : ByteArray := prog_1_method_10_code
def yX11_overs : MethodName := ⟨RX11, "overs", "(II)I"⟩
abbrev cX11_run : ByteArray := prog_1_method_11_code
def yX11_run : MethodName := ⟨RX11, "run", "(II)I"⟩
abbrev cX11_step : ByteArray := prog_1_method_12_code
def yX11_step : MethodName := ⟨RX11, "step", "(IIII)I"⟩
abbrev cX11_counts : ByteArray := prog_1_method_13_code
def yX11_counts : MethodName := ⟨RX11, "counts", "(IIIII)I"⟩
abbrev cX11_total : ByteArray := prog_1_method_14_code
def yX11_total : MethodName := ⟨RX11, "total", "()I"⟩
abbrev cX11_undo : ByteArray := prog_1_method_15_code
def yX11_undo : MethodName := ⟨RX11, "undo", "(IIIZ)I"⟩
abbrev cX11_mend : ByteArray := prog_1_method_16_code
def yX11_mend : MethodName := ⟨RX11, "mend", "(III)I"⟩
abbrev cX11_seam : ByteArray := prog_1_method_17_code
def yX11_seam : MethodName := ⟨RX11, "seam", "(I)I"⟩
abbrev cX11_turn : ByteArray := prog_1_method_18_code
def yX11_turn : MethodName := ⟨RX11, "turn", "(I)I"⟩
abbrev cX11_spiral : ByteArray := prog_1_method_19_code
def yX11_spiral : MethodName := ⟨RX11, "spiral", "(III)I"⟩
abbrev cX11_repeats : ByteArray := prog_1_method_20_code
def yX11_repeats : MethodName := ⟨RX11, "repeats", "(I)I"⟩
abbrev cX11_colour : ByteArray := prog_1_method_21_code
def yX11_colour : MethodName := ⟨RX11, "colour", "(IIZ)I"⟩
abbrev cX11_floats : ByteArray := prog_1_method_22_code
def yX11_floats : MethodName := ⟨RX11, "floats", "(II)I"⟩
abbrev cX11_learner : ByteArray := prog_1_method_23_code
def yX11_learner : MethodName := ⟨RX11, "learner", "(IIII)I"⟩
abbrev cX11_wish : ByteArray := prog_1_method_24_code
def yX11_wish : MethodName := ⟨RX11, "wish", "(I)I"⟩
abbrev cX11_find : ByteArray := prog_1_method_25_code
def yX11_find : MethodName := ⟨RX11, "find", "(I)I"⟩
abbrev cX11_print : ByteArray := prog_1_method_26_code
def yX11_print : MethodName := ⟨RX11, "print", "(I)I"⟩
abbrev cX11_reads : ByteArray := prog_1_method_27_code
def yX11_reads : MethodName := ⟨RX11, "reads", "(II)I"⟩
abbrev cX11_nearest : ByteArray := prog_1_method_28_code
def yX11_nearest : MethodName := ⟨RX11, "nearest", "(II)I"⟩
abbrev cX11_rods : ByteArray := prog_1_method_29_code
def yX11_rods : MethodName := ⟨RX11, "rods", "(I)I"⟩
abbrev cX11_waste : ByteArray := prog_1_method_30_code
def yX11_waste : MethodName := ⟨RX11, "waste", "(I)I"⟩
abbrev cX11_cost : ByteArray := prog_1_method_31_code
def yX11_cost : MethodName := ⟨RX11, "cost", "()I"⟩
abbrev cX11_cheaper : ByteArray := prog_1_method_32_code
def yX11_cheaper : MethodName := ⟨RX11, "cheaper", "(I)I"⟩
abbrev cX11_joins : ByteArray := prog_1_method_33_code
def yX11_joins : MethodName := ⟨RX11, "joins", "(IZ)I"⟩
abbrev cX11_hide : ByteArray := prog_1_method_34_code
def yX11_hide : MethodName := ⟨RX11, "hide", "(II)I"⟩
abbrev cX11_reach : ByteArray := prog_1_method_35_code
def yX11_reach : MethodName := ⟨RX11, "reach", "(III)I"⟩
abbrev cX11_nest : ByteArray := prog_1_method_36_code
def yX11_nest : MethodName := ⟨RX11, "nest", "(II)I"⟩
abbrev cX11_plait : ByteArray := prog_1_method_37_code
def yX11_plait : MethodName := ⟨RX11, "plait", "(III)I"⟩
abbrev cX11_even : ByteArray := prog_1_method_38_code
def yX11_even : MethodName := ⟨RX11, "even", "(II)I"⟩
abbrev cX11_height : ByteArray := prog_1_method_39_code
def yX11_height : MethodName := ⟨RX11, "height", "(IZ)I"⟩
abbrev cX11_loose : ByteArray := prog_1_method_40_code
def yX11_loose : MethodName := ⟨RX11, "loose", "()I"⟩
abbrev cX11_hold : ByteArray := prog_1_method_41_code
def yX11_hold : MethodName := ⟨RX11, "hold", "(I)I"⟩
abbrev cX11_gives : ByteArray := prog_1_method_42_code
def yX11_gives : MethodName := ⟨RX11, "gives", "(I)I"⟩
abbrev cX11_width : ByteArray := prog_1_method_43_code
def yX11_width : MethodName := ⟨RX11, "width", "(I)I"⟩
abbrev cX11_bowl : ByteArray := prog_1_method_44_code
def yX11_bowl : MethodName := ⟨RX11, "bowl", "(III)I"⟩
abbrev cX11_wander : ByteArray := prog_1_method_45_code
def yX11_wander : MethodName := ⟨RX11, "wander", "(II)I"⟩
abbrev cX11_closes : ByteArray := prog_1_method_46_code
def yX11_closes : MethodName := ⟨RX11, "closes", "(I)I"⟩
abbrev cX11_border : ByteArray := prog_1_method_47_code
def yX11_border : MethodName := ⟨RX11, "border", "(III)I"⟩
abbrev cX11_ways : ByteArray := prog_1_method_48_code
def yX11_ways : MethodName := ⟨RX11, "ways", "(II)I"⟩
abbrev cX11_taught : ByteArray := prog_1_method_49_code
def yX11_taught : MethodName := ⟨RX11, "taught", "(I)I"⟩
abbrev cX11_lid : ByteArray := prog_1_method_50_code
def yX11_lid : MethodName := ⟨RX11, "lid", "(IIIII)I"⟩
abbrev cX11_numbers : ByteArray := prog_1_method_51_code
def yX11_numbers : MethodName := ⟨RX11, "numbers", "(III)I"⟩
abbrev cX11_write : ByteArray := prog_1_method_52_code
def yX11_write : MethodName := ⟨RX11, "write", "(IIJ)J"⟩
abbrev cX11_copy : ByteArray := prog_1_method_53_code
def yX11_copy : MethodName := ⟨RX11, "copy", "(IIII)I"⟩
abbrev cX11_image : ByteArray := prog_1_method_54_code
def yX11_image : MethodName := ⟨RX11, "image", "(I)I"⟩
abbrev cX11_restore : ByteArray := prog_1_method_55_code
def yX11_restore : MethodName := ⟨RX11, "restore", "(I)I"⟩
abbrev cX11_status : ByteArray := prog_1_method_56_code
def yX11_status : MethodName := ⟨RX11, "status", "(I)I"⟩
abbrev cX11_count : ByteArray := prog_1_method_57_code
def yX11_count : MethodName := ⟨RX11, "count", "(I)I"⟩
abbrev cX11_refuse : ByteArray := prog_1_method_58_code
def yX11_refuse : MethodName := ⟨RX11, "refuse", "(I)I"⟩
abbrev cX11_putBytes : ByteArray := prog_1_method_59_code
def yX11_putBytes : MethodName := ⟨RX11, "putBytes", "(I)V"⟩
abbrev cX11_onTape : ByteArray := prog_1_method_60_code
def yX11_onTape : MethodName := ⟨RX11, "onTape", "(I)Z"⟩
abbrev cX11_isRow : ByteArray := prog_1_method_61_code
def yX11_isRow : MethodName := ⟨RX11, "isRow", "(I)Z"⟩
abbrev cX11_forgetAnswers : ByteArray := prog_1_method_62_code
def yX11_forgetAnswers : MethodName := ⟨RX11, "forgetAnswers", "()V"⟩
abbrev cX11_takePicture : ByteArray := prog_1_method_63_code
def yX11_takePicture : MethodName := ⟨RX11, "takePicture", "(ILNoKnot$Picture;Z)I"⟩
abbrev cX11_stakesCan : ByteArray := prog_1_method_64_code
def yX11_stakesCan : MethodName := ⟨RX11, "stakesCan", "(I)Z"⟩
abbrev cX11_strokeCan : ByteArray := prog_1_method_65_code
def yX11_strokeCan : MethodName := ⟨RX11, "strokeCan", "(II)Z"⟩
abbrev cX11_commonDivisor : ByteArray := prog_1_method_66_code
def yX11_commonDivisor : MethodName := ⟨RX11, "commonDivisor", "(II)I"⟩
abbrev cX11_turnsOver : ByteArray := prog_1_method_67_code
def yX11_turnsOver : MethodName := ⟨RX11, "turnsOver", "(III)Z"⟩
abbrev cX11_coveredBy : ByteArray := prog_1_method_68_code
def yX11_coveredBy : MethodName := ⟨RX11, "coveredBy", "(LNoKnot$Numbers;I)I"⟩
abbrev cX11_fewestThatReach : ByteArray := prog_1_method_69_code
def yX11_fewestThatReach : MethodName := ⟨RX11, "fewestThatReach", "(LNoKnot$Numbers;I)I"⟩
abbrev cX11_mostNested : ByteArray := prog_1_method_70_code
def yX11_mostNested : MethodName := ⟨RX11, "mostNested", "(LNoKnot$Numbers;I)I"⟩
abbrev cX11_bowlCan : ByteArray := prog_1_method_71_code
def yX11_bowlCan : MethodName := ⟨RX11, "bowlCan", "(III)Z"⟩
abbrev cX11_isClosed : ByteArray := prog_1_method_72_code
def yX11_isClosed : MethodName := ⟨RX11, "isClosed", "([III)Z"⟩
abbrev cX11_bordersThatClose : ByteArray := prog_1_method_73_code
def yX11_bordersThatClose : MethodName := ⟨RX11, "bordersThatClose", "(III)I"⟩
abbrev cX11_nextMoves : ByteArray := prog_1_method_74_code
def yX11_nextMoves : MethodName := ⟨RX11, "nextMoves", "(II)Z"⟩
abbrev cX11_drawn : ByteArray := prog_1_method_75_code
def yX11_drawn : MethodName := ⟨RX11, "drawn", "(I)I"⟩
abbrev cX11_maskOf : ByteArray := prog_1_method_76_code
def yX11_maskOf : MethodName := ⟨RX11, "maskOf", "(I)I"⟩
abbrev cX11_turned : ByteArray := prog_1_method_77_code
def yX11_turned : MethodName := ⟨RX11, "turned", "(III)I"⟩
abbrev cX11_mirrored : ByteArray := prog_1_method_78_code
def yX11_mirrored : MethodName := ⟨RX11, "mirrored", "(II)I"⟩
def RX12 : String := "NoKnotModel"
def TX12 : u_T := fun k => match k with
  | 0 => ("NoKnotModel", "thrown", "I", false)
  | 1 => ("NoKnotModel", "refused", "[I", true)
  | 2 => ("NoKnotModel", "all", "[I", true)
  | 3 => ("NoKnotModel", "hasImage", "[Z", true)
  | 4 => ("NoKnotModel", "tape", "[I", true)
  | 5 => ("NoKnotModel", "fresh", "[I", true)
  | 6 => ("NoKnotModel", "taped", "I", false)
  | 7 => ("NoKnotModel", "at", "I", false)
  | 8 => ("NoKnotModel", "behind", "I", false)
  | 9 => ("NoKnotModel", "size", "I", false)
  | 10 => ("NoKnotModel", "kind", "I", false)
  | 11 => ("NoKnotModel", "number", "I", false)
  | 12 => ("NoKnotModel", "wrong", "I", false)
  | 13 => ("NoKnotModel", "wrongAt", "I", false)
  | 14 => ("NoKnotModel", "faultKind", "I", false)
  | 15 => ("NoKnotModel", "faultPlace", "I", false)
  | 16 => ("NoKnotModel", "further", "[I", true)
  | 17 => ("NoKnotModel", "weavers", "I", false)
  | 18 => ("NoKnotModel", "before", "I", false)
  | 19 => ("NoKnotModel", "behindBy", "I", false)
  | 20 => ("NoKnotModel", "from", "I", false)
  | 21 => ("NoKnotModel", "left", "I", false)
  | 22 => ("NoKnotModel", "seenKinds", "[I", true)
  | 23 => ("NoKnotModel", "firstFound", "[I", true)
  | 24 => ("NoKnotModel", "strands", "[I", true)
  | 25 => ("NoKnotModel", "held", "[J", true)
  | 26 => ("NoKnotModel", "thick", "[I", true)
  | 27 => ("NoKnotModel", "put", "[I", true)
  | 28 => ("NoKnotModel", "bestPut", "[I", true)
  | 29 => ("NoKnotModel", "bundle", "I", false)
  | 30 => ("NoKnotModel", "bestOff", "I", false)
  | 31 => ("NoKnotModel", "leastOff", "[I", true)
  | 32 => ("NoKnotModel", "moves", "[I", true)
  | 33 => ("NoKnotModel", "taughtBy", "[I", true)
  | 34 => ("NoKnotModel", "rowSort", "[I", true)
  | 35 => ("NoKnotModel", "rowMany", "[I", true)
  | _ => ("NoKnotModel", "numbers", "[J", true)
def tyX12 : Nat → FieldType := fun k => match k with
  | 0 => .int
  | 1 => .array .int
  | 2 => .array .int
  | 3 => .array .boolean
  | 4 => .array .int
  | 5 => .array .int
  | 6 => .int
  | 7 => .int
  | 8 => .int
  | 9 => .int
  | 10 => .int
  | 11 => .int
  | 12 => .int
  | 13 => .int
  | 14 => .int
  | 15 => .int
  | 16 => .array .int
  | 17 => .int
  | 18 => .int
  | 19 => .int
  | 20 => .int
  | 21 => .int
  | 22 => .array .int
  | 23 => .array .int
  | 24 => .array .int
  | 25 => .array .long
  | 26 => .array .int
  | 27 => .array .int
  | 28 => .array .int
  | 29 => .int
  | 30 => .int
  | 31 => .array .int
  | 32 => .array .int
  | 33 => .array .int
  | 34 => .array .int
  | 35 => .array .int
  | _ => .array .long
theorem nmX12 : ∀ a, a < 37 → ∀ b, b < 37 → a ≠ b → (TX12 a).2.1 ≠ (TX12 b).2.1 := by decide +kernel
theorem tyX12_ok : ∀ k, k < 37 → parseFieldDescriptor (TX12 k).2.2.1 = some (tyX12 k) := by decide +kernel
abbrev cX12_no : ByteArray := prog_14_method_2_code
def yX12_no : MethodName := ⟨RX12, "no", "(I)I"⟩
abbrev cX12_within : ByteArray := prog_14_method_3_code
def yX12_within : MethodName := ⟨RX12, "within", "(JJJ)Z"⟩
abbrev cX12_init : ByteArray := prog_14_method_4_code
def yX12_init : MethodName := ⟨RX12, "<init>", "()V"⟩
abbrev cX12_plain : ByteArray := prog_14_method_5_code
def yX12_plain : MethodName := ⟨RX12, "plain", "([I)V"⟩
abbrev cX12_feed : ByteArray := prog_14_method_6_code
def yX12_feed : MethodName := ⟨RX12, "feed", "(IIIII)I"⟩
abbrev cX12_see : ByteArray := prog_14_method_7_code
def yX12_see : MethodName := ⟨RX12, "see", "(I)I"⟩
abbrev cX12_isSmall : ByteArray := prog_14_method_8_code
def yX12_isSmall : MethodName := ⟨RX12, "isSmall", "(I)Z"⟩
abbrev cX12_isDigit : ByteArray := prog_14_method_9_code
def yX12_isDigit : MethodName := ⟨RX12, "isDigit", "(I)Z"⟩
abbrev cX12_keyAt : ByteArray := prog_14_method_10_code
def yX12_keyAt : MethodName := ⟨RX12, "keyAt", "()I"⟩
abbrev cX12_next : ByteArray := prog_14_method_11_code
def yX12_next : MethodName := ⟨RX12, "next", "()V"⟩
abbrev cX12_fails : ByteArray := prog_14_method_12_code
def yX12_fails : MethodName := ⟨RX12, "fails", "(I)V"⟩
abbrev cX12_is : ByteArray := prog_14_method_13_code
def yX12_is : MethodName := ⟨RX12, "is", "(I)Z"⟩
abbrev cX12_eats : ByteArray := prog_14_method_14_code
def yX12_eats : MethodName := ⟨RX12, "eats", "(I)Z"⟩
abbrev cX12_needs : ByteArray := prog_14_method_15_code
def yX12_needs : MethodName := ⟨RX12, "needs", "(I)V"⟩
abbrev cX12_takes : ByteArray := prog_14_method_16_code
def yX12_takes : MethodName := ⟨RX12, "takes", "(II)I"⟩
abbrev cX12_readStakes : ByteArray := prog_14_method_17_code
def yX12_readStakes : MethodName := ⟨RX12, "readStakes", "()V"⟩
abbrev cX12_readRod : ByteArray := prog_14_method_18_code
def yX12_readRod : MethodName := ⟨RX12, "readRod", "()V"⟩
abbrev cX12_readBand : ByteArray := prog_14_method_19_code
def yX12_readBand : MethodName := ⟨RX12, "readBand", "()V"⟩
abbrev cX12_readSlip : ByteArray := prog_14_method_20_code
def yX12_readSlip : MethodName := ⟨RX12, "readSlip", "()V"⟩
abbrev cX12_readLine : ByteArray := prog_14_method_21_code
def yX12_readLine : MethodName := ⟨RX12, "readLine", "()V"⟩
abbrev cX12_basket : ByteArray := prog_14_method_22_code
def yX12_basket : MethodName := ⟨RX12, "basket", "(I)I"⟩
abbrev cX12_fault : ByteArray := prog_14_method_23_code
def yX12_fault : MethodName := ⟨RX12, "fault", "(I)I"⟩
abbrev cX12_isKind : ByteArray := prog_14_method_24_code
def yX12_isKind : MethodName := ⟨RX12, "isKind", "(I)Z"⟩
abbrev cX12_isBand : ByteArray := prog_14_method_25_code
def yX12_isBand : MethodName := ⟨RX12, "isBand", "(I)Z"⟩
abbrev cX12_rod : ByteArray := prog_14_method_26_code
def yX12_rod : MethodName := ⟨RX12, "rod", "(II)I"⟩
abbrev cX12_slipsOf : ByteArray := prog_14_method_27_code
def yX12_slipsOf : MethodName := ⟨RX12, "slipsOf", "(I)I"⟩
abbrev cX12_band : ByteArray := prog_14_method_28_code
def yX12_band : MethodName := ⟨RX12, "band", "(II)I"⟩
abbrev cX12_lean : ByteArray := prog_14_method_29_code
def yX12_lean : MethodName := ⟨RX12, "lean", "(I)I"⟩
abbrev cX12_crossingsOf : ByteArray := prog_14_method_30_code
def yX12_crossingsOf : MethodName := ⟨RX12, "crossingsOf", "(I)I"⟩
abbrev cX12_round : ByteArray := prog_14_method_31_code
def yX12_round : MethodName := ⟨RX12, "round", "(II)I"⟩
abbrev cX12_stakeAt : ByteArray := prog_14_method_32_code
def yX12_stakeAt : MethodName := ⟨RX12, "stakeAt", "(III)I"⟩
abbrev cX12_placeIn : ByteArray := prog_14_method_33_code
def yX12_placeIn : MethodName := ⟨RX12, "placeIn", "(III)I"⟩
abbrev cX12_isOver : ByteArray := prog_14_method_34_code
def yX12_isOver : MethodName := ⟨RX12, "isOver", "(III)Z"⟩
abbrev cX12_allAhead : ByteArray := prog_14_method_35_code
def yX12_allAhead : MethodName := ⟨RX12, "allAhead", "(I)I"⟩
abbrev cX12_when : ByteArray := prog_14_method_36_code
def yX12_when : MethodName := ⟨RX12, "when", "(III)I"⟩
abbrev cX12_stepOf : ByteArray := prog_14_method_37_code
def yX12_stepOf : MethodName := ⟨RX12, "stepOf", "(I)I"⟩
abbrev cX12_rodsFor : ByteArray := prog_14_method_38_code
def yX12_rodsFor : MethodName := ⟨RX12, "rodsFor", "(II)I"⟩
abbrev cX12_kindOf : ByteArray := prog_14_method_39_code
def yX12_kindOf : MethodName := ⟨RX12, "kindOf", "(II)I"⟩
abbrev cX12_rodAt : ByteArray := prog_14_method_40_code
def yX12_rodAt : MethodName := ⟨RX12, "rodAt", "(III)I"⟩
abbrev cX12_isCrossing : ByteArray := prog_14_method_41_code
def yX12_isCrossing : MethodName := ⟨RX12, "isCrossing", "(III)Z"⟩
abbrev cX12_crossing : ByteArray := prog_14_method_42_code
def yX12_crossing : MethodName := ⟨RX12, "crossing", "(IIII)I"⟩
abbrev cX12_indexAt : ByteArray := prog_14_method_43_code
def yX12_indexAt : MethodName := ⟨RX12, "indexAt", "(IIII)I"⟩
abbrev cX12_isStake : ByteArray := prog_14_method_44_code
def yX12_isStake : MethodName := ⟨RX12, "isStake", "(I)Z"⟩
abbrev cX12_isOverIn : ByteArray := prog_14_method_45_code
def yX12_isOverIn : MethodName := ⟨RX12, "isOverIn", "(III)Z"⟩
abbrev cX12_seen : ByteArray := prog_14_method_46_code
def yX12_seen : MethodName := ⟨RX12, "seen", "(IIIZ)I"⟩
abbrev cX12_overs : ByteArray := prog_14_method_47_code
def yX12_overs : MethodName := ⟨RX12, "overs", "(II)I"⟩
abbrev cX12_run : ByteArray := prog_14_method_48_code
def yX12_run : MethodName := ⟨RX12, "run", "(II)I"⟩
abbrev cX12_common : ByteArray := prog_14_method_49_code
def yX12_common : MethodName := ⟨RX12, "common", "(II)I"⟩
abbrev cX12_step : ByteArray := prog_14_method_50_code
def yX12_step : MethodName := ⟨RX12, "step", "(IIII)I"⟩
abbrev cX12_counts : ByteArray := prog_14_method_51_code
def yX12_counts : MethodName := ⟨RX12, "counts", "(IIIII)I"⟩
abbrev cX12_total : ByteArray := prog_14_method_52_code
def yX12_total : MethodName := ⟨RX12, "total", "()I"⟩
abbrev cX12_undo : ByteArray := prog_14_method_53_code
def yX12_undo : MethodName := ⟨RX12, "undo", "(IIIZ)I"⟩
abbrev cX12_mend : ByteArray := prog_14_method_54_code
def yX12_mend : MethodName := ⟨RX12, "mend", "(III)I"⟩
abbrev cX12_seamOf : ByteArray := prog_14_method_55_code
def yX12_seamOf : MethodName := ⟨RX12, "seamOf", "(I)I"⟩
abbrev cX12_seam : ByteArray := prog_14_method_56_code
def yX12_seam : MethodName := ⟨RX12, "seam", "(I)I"⟩
abbrev cX12_turn : ByteArray := prog_14_method_57_code
def yX12_turn : MethodName := ⟨RX12, "turn", "(I)I"⟩
abbrev cX12_spiral : ByteArray := prog_14_method_58_code
def yX12_spiral : MethodName := ⟨RX12, "spiral", "(III)I"⟩
abbrev cX12_isRowAlike : ByteArray := prog_14_method_59_code
def yX12_isRowAlike : MethodName := ⟨RX12, "isRowAlike", "(III)Z"⟩
abbrev cX12_repeats : ByteArray := prog_14_method_60_code
def yX12_repeats : MethodName := ⟨RX12, "repeats", "(I)I"⟩
abbrev cX12_colour : ByteArray := prog_14_method_61_code
def yX12_colour : MethodName := ⟨RX12, "colour", "(IIZ)I"⟩
abbrev cX12_floats : ByteArray := prog_14_method_62_code
def yX12_floats : MethodName := ⟨RX12, "floats", "(II)I"⟩
abbrev cX12_learner : ByteArray := prog_14_method_63_code
def yX12_learner : MethodName := ⟨RX12, "learner", "(IIII)I"⟩
abbrev cX12_readsPicture : ByteArray := prog_14_method_64_code
def yX12_readsPicture : MethodName := ⟨RX12, "readsPicture", "(IIZ)I"⟩
abbrev cX12_wish : ByteArray := prog_14_method_65_code
def yX12_wish : MethodName := ⟨RX12, "wish", "(I)I"⟩
abbrev cX12_print : ByteArray := prog_14_method_66_code
def yX12_print : MethodName := ⟨RX12, "print", "(I)I"⟩
abbrev cX12_strokeOver : ByteArray := prog_14_method_67_code
def yX12_strokeOver : MethodName := ⟨RX12, "strokeOver", "(II)Z"⟩
abbrev cX12_makes : ByteArray := prog_14_method_68_code
def yX12_makes : MethodName := ⟨RX12, "makes", "()Z"⟩
abbrev cX12_mistakes : ByteArray := prog_14_method_69_code
def yX12_mistakes : MethodName := ⟨RX12, "mistakes", "(I)I"⟩
abbrev cX12_nextStroke : ByteArray := prog_14_method_70_code
def yX12_nextStroke : MethodName := ⟨RX12, "nextStroke", "()Z"⟩
abbrev cX12_firstStroke : ByteArray := prog_14_method_71_code
def yX12_firstStroke : MethodName := ⟨RX12, "firstStroke", "()V"⟩
abbrev cX12_keepsStroke : ByteArray := prog_14_method_72_code
def yX12_keepsStroke : MethodName := ⟨RX12, "keepsStroke", "()V"⟩
abbrev cX12_find : ByteArray := prog_14_method_73_code
def yX12_find : MethodName := ⟨RX12, "find", "(I)I"⟩
abbrev cX12_reads : ByteArray := prog_14_method_74_code
def yX12_reads : MethodName := ⟨RX12, "reads", "(II)I"⟩
abbrev cX12_nearest : ByteArray := prog_14_method_75_code
def yX12_nearest : MethodName := ⟨RX12, "nearest", "(II)I"⟩
abbrev cX12_rodsOf : ByteArray := prog_14_method_76_code
def yX12_rodsOf : MethodName := ⟨RX12, "rodsOf", "(I)I"⟩
abbrev cX12_rods : ByteArray := prog_14_method_77_code
def yX12_rods : MethodName := ⟨RX12, "rods", "(I)I"⟩
abbrev cX12_waste : ByteArray := prog_14_method_78_code
def yX12_waste : MethodName := ⟨RX12, "waste", "(I)I"⟩
abbrev cX12_cost : ByteArray := prog_14_method_79_code
def yX12_cost : MethodName := ⟨RX12, "cost", "()I"⟩
abbrev cX12_cheaper : ByteArray := prog_14_method_80_code
def yX12_cheaper : MethodName := ⟨RX12, "cheaper", "(I)I"⟩
abbrev cX12_joinsOf : ByteArray := prog_14_method_81_code
def yX12_joinsOf : MethodName := ⟨RX12, "joinsOf", "(IZ)I"⟩
abbrev cX12_joins : ByteArray := prog_14_method_82_code
def yX12_joins : MethodName := ⟨RX12, "joins", "(IZ)I"⟩
abbrev cX12_hide : ByteArray := prog_14_method_83_code
def yX12_hide : MethodName := ⟨RX12, "hide", "(II)I"⟩
abbrev cX12_areNumbers : ByteArray := prog_14_method_84_code
def yX12_areNumbers : MethodName := ⟨RX12, "areNumbers", "(III)Z"⟩
abbrev cX12_reach : ByteArray := prog_14_method_85_code
def yX12_reach : MethodName := ⟨RX12, "reach", "(III)I"⟩
abbrev cX12_nest : ByteArray := prog_14_method_86_code
def yX12_nest : MethodName := ⟨RX12, "nest", "(II)I"⟩
abbrev cX12_plait : ByteArray := prog_14_method_87_code
def yX12_plait : MethodName := ⟨RX12, "plait", "(III)I"⟩
abbrev cX12_offOf : ByteArray := prog_14_method_88_code
def yX12_offOf : MethodName := ⟨RX12, "offOf", "()I"⟩
abbrev cX12_puts : ByteArray := prog_14_method_89_code
def yX12_puts : MethodName := ⟨RX12, "puts", "(II)V"⟩
abbrev cX12_even : ByteArray := prog_14_method_90_code
def yX12_even : MethodName := ⟨RX12, "even", "(II)I"⟩
abbrev cX12_heightOf : ByteArray := prog_14_method_91_code
def yX12_heightOf : MethodName := ⟨RX12, "heightOf", "(IZ)I"⟩
abbrev cX12_height : ByteArray := prog_14_method_92_code
def yX12_height : MethodName := ⟨RX12, "height", "(IZ)I"⟩
abbrev cX12_loose : ByteArray := prog_14_method_93_code
def yX12_loose : MethodName := ⟨RX12, "loose", "()I"⟩
abbrev cX12_holdOf : ByteArray := prog_14_method_94_code
def yX12_holdOf : MethodName := ⟨RX12, "holdOf", "(I)I"⟩
abbrev cX12_hold : ByteArray := prog_14_method_95_code
def yX12_hold : MethodName := ⟨RX12, "hold", "(I)I"⟩
abbrev cX12_gives : ByteArray := prog_14_method_96_code
def yX12_gives : MethodName := ⟨RX12, "gives", "(I)I"⟩
abbrev cX12_atLeastOne : ByteArray := prog_14_method_97_code
def yX12_atLeastOne : MethodName := ⟨RX12, "atLeastOne", "(I)I"⟩
abbrev cX12_width : ByteArray := prog_14_method_98_code
def yX12_width : MethodName := ⟨RX12, "width", "(I)I"⟩
abbrev cX12_offAt : ByteArray := prog_14_method_99_code
def yX12_offAt : MethodName := ⟨RX12, "offAt", "(III)I"⟩
abbrev cX12_offBy : ByteArray := prog_14_method_100_code
def yX12_offBy : MethodName := ⟨RX12, "offBy", "(IIII)I"⟩
abbrev cX12_leastBy : ByteArray := prog_14_method_101_code
def yX12_leastBy : MethodName := ⟨RX12, "leastBy", "(IIIII)I"⟩
abbrev cX12_isBowl : ByteArray := prog_14_method_102_code
def yX12_isBowl : MethodName := ⟨RX12, "isBowl", "(III)Z"⟩
abbrev cX12_mostAhead : ByteArray := prog_14_method_103_code
def yX12_mostAhead : MethodName := ⟨RX12, "mostAhead", "(I)I"⟩
abbrev cX12_bowl : ByteArray := prog_14_method_104_code
def yX12_bowl : MethodName := ⟨RX12, "bowl", "(III)I"⟩
abbrev cX12_wander : ByteArray := prog_14_method_105_code
def yX12_wander : MethodName := ⟨RX12, "wander", "(II)I"⟩
abbrev cX12_closesBy : ByteArray := prog_14_method_106_code
def yX12_closesBy : MethodName := ⟨RX12, "closesBy", "(I)Z"⟩
abbrev cX12_closes : ByteArray := prog_14_method_107_code
def yX12_closes : MethodName := ⟨RX12, "closes", "(I)I"⟩
abbrev cX12_border : ByteArray := prog_14_method_108_code
def yX12_border : MethodName := ⟨RX12, "border", "(III)I"⟩
abbrev cX12_ways : ByteArray := prog_14_method_109_code
def yX12_ways : MethodName := ⟨RX12, "ways", "(II)I"⟩
abbrev cX12_bitsOf : ByteArray := prog_14_method_110_code
def yX12_bitsOf : MethodName := ⟨RX12, "bitsOf", "(I)I"⟩
abbrev cX12_teaches : ByteArray := prog_14_method_111_code
def yX12_teaches : MethodName := ⟨RX12, "teaches", "()I"⟩
abbrev cX12_taught : ByteArray := prog_14_method_112_code
def yX12_taught : MethodName := ⟨RX12, "taught", "(I)I"⟩
abbrev cX12_dried : ByteArray := prog_14_method_113_code
def yX12_dried : MethodName := ⟨RX12, "dried", "(II)I"⟩
abbrev cX12_lid : ByteArray := prog_14_method_114_code
def yX12_lid : MethodName := ⟨RX12, "lid", "(IIIII)I"⟩
abbrev cX12_cut : ByteArray := prog_14_method_115_code
def yX12_cut : MethodName := ⟨RX12, "cut", "(JI)J"⟩
abbrev cX12_numbers : ByteArray := prog_14_method_116_code
def yX12_numbers : MethodName := ⟨RX12, "numbers", "(III)I"⟩
abbrev cX12_write : ByteArray := prog_14_method_117_code
def yX12_write : MethodName := ⟨RX12, "write", "(IIJ)J"⟩
abbrev cX12_copy : ByteArray := prog_14_method_118_code
def yX12_copy : MethodName := ⟨RX12, "copy", "(IIII)I"⟩
abbrev cX12_image : ByteArray := prog_14_method_119_code
def yX12_image : MethodName := ⟨RX12, "image", "(I)I"⟩
abbrev cX12_restore : ByteArray := prog_14_method_120_code
def yX12_restore : MethodName := ⟨RX12, "restore", "(I)I"⟩
abbrev cX12_status : ByteArray := prog_14_method_121_code
def yX12_status : MethodName := ⟨RX12, "status", "(I)I"⟩
abbrev cX12_count : ByteArray := prog_14_method_122_code
def yX12_count : MethodName := ⟨RX12, "count", "(I)I"⟩
def RJ6 : String := "java/lang/Integer"
abbrev cJ6_bitCount_0f7a4 : ByteArray := prog_15_method_49_code
def yJ6_bitCount_0f7a4 : MethodName := ⟨RJ6, "bitCount", "(I)I"⟩
def RJ9 : String := "java/lang/Math"
abbrev cJ9_floorMod_7cf53 : ByteArray := prog_16_method_50_code
def yJ9_floorMod_7cf53 : MethodName := ⟨RJ9, "floorMod", "(II)I"⟩
abbrev cJ9_abs_0f7a4 : ByteArray := prog_16_method_59_code
def yJ9_abs_0f7a4 : MethodName := ⟨RJ9, "abs", "(I)I"⟩
abbrev cJ9_max_7cf53 : ByteArray := prog_16_method_65_code
def yJ9_max_7cf53 : MethodName := ⟨RJ9, "max", "(II)I"⟩
abbrev cJ9_min_7cf53 : ByteArray := prog_16_method_69_code
def yJ9_min_7cf53 : MethodName := ⟨RJ9, "min", "(II)I"⟩
abbrev cJ9_min_f86c9 : ByteArray := prog_16_method_70_code
def yJ9_min_f86c9 : MethodName := ⟨RJ9, "min", "(JJ)J"⟩
def RJ0 : String := "java/lang/String"
abbrev cJ0_length_8abf5 : ByteArray := prog_17_method_54_code
def yJ0_length_8abf5 : MethodName := ⟨RJ0, "length", "()I"⟩
abbrev cJ0_charAt_5068e : ByteArray := prog_17_method_56_code
def yJ0_charAt_5068e : MethodName := ⟨RJ0, "charAt", "(I)C"⟩
abbrev cJ0_coder_7d493 : ByteArray := prog_17_method_152_code
def yJ0_coder_7d493 : MethodName := ⟨RJ0, "coder", "()B"⟩
abbrev cJ0_isLatin1_aae02 : ByteArray := prog_17_method_154_code
def yJ0_isLatin1_aae02 : MethodName := ⟨RJ0, "isLatin1", "()Z"⟩
abbrev cJ0_checkIndex_df160 : ByteArray := prog_17_method_155_code
def yJ0_checkIndex_df160 : MethodName := ⟨RJ0, "checkIndex", "(II)V"⟩
def RJ1 : String := "java/lang/StringLatin1"
abbrev cJ1_charAt_3b067 : ByteArray := prog_18_method_2_code
def yJ1_charAt_3b067 : MethodName := ⟨RJ1, "charAt", "([BI)C"⟩
def RJ2 : String := "java/lang/StringUTF16"
abbrev cJ2_getChar_3b067 : ByteArray := prog_19_method_5_code
def yJ2_getChar_3b067 : MethodName := ⟨RJ2, "getChar", "([BI)C"⟩
abbrev cJ2_length_9d52b : ByteArray := prog_19_method_6_code
def yJ2_length_9d52b : MethodName := ⟨RJ2, "length", "([B)I"⟩
abbrev cJ2_charAt_3b067 : ByteArray := prog_19_method_83_code
def yJ2_charAt_3b067 : MethodName := ⟨RJ2, "charAt", "([BI)C"⟩
abbrev cJ2_checkIndex_2214a : ByteArray := prog_19_method_91_code
def yJ2_checkIndex_2214a : MethodName := ⟨RJ2, "checkIndex", "(I[B)V"⟩
def RJ10 : String := "java/lang/System"
def RJ7 : String := "java/util/Arrays"
abbrev cJ7_rangeCheck_23922 : ByteArray := prog_21_method_30_code
def yJ7_rangeCheck_23922 : MethodName := ⟨RJ7, "rangeCheck", "(III)V"⟩
abbrev cJ7_fill_d0a16 : ByteArray := prog_21_method_101_code
def yJ7_fill_d0a16 : MethodName := ⟨RJ7, "fill", "([JJ)V"⟩
abbrev cJ7_fill_bad5a : ByteArray := prog_21_method_102_code
def yJ7_fill_bad5a : MethodName := ⟨RJ7, "fill", "([JIIJ)V"⟩
abbrev cJ7_fill_53178 : ByteArray := prog_21_method_103_code
def yJ7_fill_53178 : MethodName := ⟨RJ7, "fill", "([II)V"⟩
abbrev cJ7_fill_fda19 : ByteArray := prog_21_method_104_code
def yJ7_fill_fda19 : MethodName := ⟨RJ7, "fill", "([IIII)V"⟩
def RJ3 : String := "jdk/internal/util/Preconditions"
abbrev cJ3_checkIndex_8e157 : ByteArray := prog_22_method_11_code
def yJ3_checkIndex_8e157 : MethodName := ⟨RJ3, "checkIndex", "(IILjava/util/function/BiFunction;)I"⟩
def RL : String := "NoKnotLaw"
abbrev cL_law : ByteArray := code
def yL_law : MethodName := ⟨RL, "law", "([I)Z"⟩
/-- the classes whose objects the worlds hold, by number -/
abbrev classes : List vw_C := [(RX0, TX0, 10), (RX1, TX1, 17), (RX2, TX2, 6), (RX3, TX3, 2), (RX4, TX4, 5), (RX5, TX5, 3), (RX6, TX6, 4), (RX7, TX7, 2), (RX8, TX8, 8), (RX9, TX9, 11), (RX10, TX10, 6), (RX11, TX11, 17), (RX12, TX12, 37)]
end
section
/-- the words of the tables that go with every method -/
def WT : List Cond := lw_tbl.filter goodWord
theorem WT_of {w : Cond} (h : w ∈ lw_tbl) (hg : goodWord w = true) : w ∈ WT := List.mem_filter.mpr ⟨h, hg⟩
def jI (n : Int) : Int32 := Int32.ofInt n
def jL (n : Int) : Int64 := Int64.ofInt n
def cty (ci : Nat) : Nat → FieldType := match ci with
  | 0 => tyX0
  | 1 => tyX1
  | 2 => tyX2
  | 3 => tyX3
  | 4 => tyX4
  | 5 => tyX5
  | 6 => tyX6
  | 7 => tyX7
  | 8 => tyX8
  | 9 => tyX9
  | 10 => tyX10
  | 11 => tyX11
  | _ => tyX12
def clN (ci : Nat) : vw_C := classes.getD ci (RX0, TX0, 10)
/-! the program by numbers: classes that own code, links, constants, methods -/
def owners : List String := [RX0, RX1, RX2, RX3, RX4, RX5, RX6, RX7, RX8, RX9, RX10, RX11, RX12, RL, RJ9, RJ6, RJ7]
def oN (o : Nat) : String := owners.getD o ""
def FL : List (Nat × Nat × Nat × Nat) := [(0, 28, 0, 0), (8, 98, 0, 0), (10, 56, 0, 0), (11, 254, 0, 0), (0, 31, 0, 1), (8, 100, 0, 1), (11, 276, 0, 1), (0, 34, 0, 2), (1, 61, 0, 2), (8, 113, 0, 2), (11, 347, 0, 2), (0, 37, 0, 3), (8, 142, 0, 3), (11, 436, 0, 3), (0, 21, 0, 4), (8, 88, 0, 4), (11, 180, 0, 4), (0, 25, 0, 5), (8, 92, 0, 5), (1, 72, 0, 5), (11, 439, 0, 5), (0, 40, 0, 6), (8, 52, 0, 6), (11, 137, 0, 6), (0, 11, 0, 7), (8, 103, 0, 7), (0, 15, 0, 8), (8, 116, 0, 8), (0, 18, 0, 9), (8, 145, 0, 9), (8, 31, 8, 0), (11, 125, 8, 0), (8, 9, 8, 1), (11, 140, 8, 1), (8, 15, 8, 2), (8, 25, 8, 3), (8, 155, 8, 4), (8, 28, 8, 5), (8, 42, 8, 6), (8, 169, 8, 7), (10, 26, 10, 0), (10, 13, 10, 1), (10, 17, 10, 2), (10, 20, 10, 3), (10, 23, 10, 4), (10, 30, 10, 5), (6, 19, 6, 0), (9, 54, 6, 0), (11, 251, 6, 0), (6, 9, 6, 1), (9, 58, 6, 1), (6, 13, 6, 2), (9, 103, 6, 2), (6, 16, 6, 3), (9, 77, 6, 3), (9, 11, 9, 0), (9, 17, 9, 1), (9, 20, 9, 2), (9, 23, 9, 3), (9, 26, 9, 4), (9, 31, 9, 5), (9, 34, 9, 6), (9, 37, 9, 7), (9, 41, 9, 8), (9, 50, 9, 9), (9, 57, 9, 10), (3, 11, 3, 0), (3, 15, 3, 1), (5, 15, 5, 0), (7, 20, 5, 0), (2, 25, 5, 0), (11, 295, 5, 0), (5, 19, 5, 1), (5, 11, 5, 2), (11, 432, 4, 0), (4, 10, 4, 1), (11, 422, 4, 1), (4, 19, 4, 2), (11, 423, 4, 2), (4, 23, 4, 3), (11, 427, 4, 3), (4, 29, 4, 4), (11, 428, 4, 4), (2, 42, 2, 0), (11, 341, 2, 0), (2, 21, 2, 1), (2, 34, 2, 2), (2, 11, 2, 3), (2, 15, 2, 4), (2, 18, 2, 5), (1, 71, 1, 0), (1, 75, 1, 1), (1, 76, 1, 2), (1, 94, 1, 3), (1, 13, 1, 4), (1, 17, 1, 5), (1, 20, 1, 6), (1, 23, 1, 7), (1, 26, 1, 8), (1, 29, 1, 9), (1, 32, 1, 10), (1, 35, 1, 11), (1, 38, 1, 12), (1, 41, 1, 13), (1, 44, 1, 14), (1, 48, 1, 15), (1, 51, 1, 16), (7, 11, 7, 0), (7, 17, 7, 1), (11, 9, 11, 0), (11, 105, 11, 1), (11, 16, 11, 2), (11, 20, 11, 3), (11, 26, 11, 4), (11, 35, 11, 5), (11, 42, 11, 6), (11, 46, 11, 7), (11, 52, 11, 8), (11, 59, 11, 9), (11, 66, 11, 10), (11, 73, 11, 11), (11, 80, 11, 12), (11, 87, 11, 13), (11, 94, 11, 14), (11, 98, 11, 15), (11, 102, 11, 16), (12, 1, 12, 0), (12, 7, 12, 1), (12, 17, 12, 2), (12, 20, 12, 3), (12, 24, 12, 4), (12, 27, 12, 5), (12, 81, 12, 6), (12, 103, 12, 7), (12, 106, 12, 8), (12, 88, 12, 9), (12, 112, 12, 10), (12, 125, 12, 11), (12, 128, 12, 12), (12, 131, 12, 13), (12, 173, 12, 14), (12, 30, 12, 15), (12, 33, 12, 16), (12, 265, 12, 17), (12, 274, 12, 18), (12, 277, 12, 19), (12, 271, 12, 20), (12, 268, 12, 21), (12, 36, 12, 22), (12, 39, 12, 23), (12, 42, 12, 24), (12, 45, 12, 25), (12, 49, 12, 26), (12, 52, 12, 27), (12, 55, 12, 28), (12, 318, 12, 29), (12, 324, 12, 30), (12, 59, 12, 31), (12, 62, 12, 32), (12, 65, 12, 33), (12, 68, 12, 34), (12, 71, 12, 35), (12, 74, 12, 36)]
def flC (q : Nat × Nat × Nat × Nat) : Cond := .fieldLink (oN q.1) q.2.1 (clN q.2.2.1).1 ((clN q.2.2.1).2.1 q.2.2.2).2.1 ((clN q.2.2.1).2.1 q.2.2.2).2.2.1
def CI : List (Nat × Nat × Int) := [(15, 265, 1431655765), (15, 266, 858993459), (15, 267, 252645135), (11, 471, 1103515245), (9, 112, 2147483647), (2, 41, 2147483647), (1, 149, 2147483647), (0, 112, 2147483647), (12, 58, 608000), (12, 260, 1103515245)]
def ciC (q : Nat × Nat × Int) : Cond := .constant (oN q.1) q.2.1 (jI q.2.2)
def CJ : List (Nat × Nat × Int) := [(11, 298, 999), (11, 316, 9999), (11, 335, 99), (1, 121, 9223372036854775807), (1, 59, 31), (12, 179, 3), (12, 184, 10), (12, 186, 6), (12, 217, 5), (12, 241, 999), (12, 243, 9), (12, 245, 2), (12, 256, 9999), (12, 258, 100), (12, 284, 13), (12, 312, -9999), (12, 314, -1), (12, 316, 18), (12, 331, 7), (12, 333, 8), (12, 335, 99), (12, 365, 4), (12, 367, 255), (12, 375, 1500), (12, 380, 40), (13, 222, 4294967295)]
def cjC (q : Nat × Nat × Int) : Cond := .constantLong (oN q.1) q.2.1 (jL q.2.2)
def KL : List (Nat × Nat × Nat) := [(13, 7, 11), (11, 13, 0), (11, 23, 8), (11, 30, 10), (11, 39, 6), (11, 49, 9), (11, 56, 3), (11, 63, 5), (11, 70, 4), (4, 7, 0), (4, 16, 6), (4, 26, 3), (11, 77, 2), (11, 84, 1), (11, 91, 7), (13, 10, 12)]
def klC (q : Nat × Nat × Nat) : Cond := .classLink (oN q.1) q.2.1 (clN q.2.2).1
theorem pl_ok {α : Type} {L : List α} {f : α → Cond} {ps : List Nat} (h : L.map f = ps.filterMap (fun i => lw_tbl[i]?)) (hg : (L.map f).all goodWord = true) : ∀ q ∈ L, f q ∈ WT := by
  intro q hq
  have h1 : f q ∈ L.map f := List.mem_map.mpr ⟨q, hq, rfl⟩
  have h2 := List.all_eq_true.mp hg _ h1
  rw [h] at h1
  obtain ⟨i, -, hi⟩ := List.mem_filterMap.mp h1
  exact WT_of (List.mem_of_getElem? hi) h2
theorem FL_pl : FL.map flC = [151, 152, 153, 154, 155, 156, 157, 158, 159, 160, 161, 162, 163, 164, 165, 166, 167, 168, 169, 170, 171, 172, 173, 174, 175, 176, 177, 178, 179, 180, 210, 211, 212, 213, 214, 215, 216, 217, 218, 219, 243, 244, 245, 246, 247, 248, 268, 269, 270, 271, 272, 273, 274, 275, 276, 292, 293, 294, 295, 296, 297, 298, 299, 300, 301, 302, 335, 336, 349, 350, 351, 352, 353, 354, 376, 377, 378, 379, 380, 381, 382, 383, 384, 402, 403, 404, 405, 406, 407, 408, 428, 429, 430, 431, 432, 433, 434, 435, 436, 437, 438, 439, 440, 441, 442, 443, 444, 486, 487, 493, 494, 495, 496, 497, 498, 499, 500, 501, 502, 503, 504, 505, 506, 507, 508, 509, 1563, 1564, 1565, 1566, 1567, 1568, 1569, 1570, 1571, 1572, 1573, 1574, 1575, 1576, 1577, 1578, 1579, 1580, 1581, 1582, 1583, 1584, 1585, 1586, 1587, 1588, 1589, 1590, 1591, 1592, 1593, 1594, 1595, 1596, 1597, 1598, 1599].filterMap (fun i => lw_tbl[i]?) := by decide +kernel
theorem FL_gd : (FL.map flC).all goodWord = true := by decide +kernel
theorem FL_ok : ∀ q ∈ FL, flC q ∈ WT := pl_ok FL_pl FL_gd
theorem CI_pl : CI.map ciC = [968, 969, 970, 1032, 1123, 1262, 1361, 1433, 1559, 1923].filterMap (fun i => lw_tbl[i]?) := by decide +kernel
theorem CI_gd : (CI.map ciC).all goodWord = true := by decide +kernel
theorem CI_ok : ∀ q ∈ CI, ciC q ∈ WT := pl_ok CI_pl CI_gd
theorem CJ_pl : CJ.map cjC = [1198, 1220, 1255, 1379, 1412, 1764, 1773, 1774, 1795, 1863, 1864, 1865, 1917, 1922, 1940, 2017, 2018, 2023, 2028, 2029, 2030, 2110, 2115, 2131, 2140, 2168].filterMap (fun i => lw_tbl[i]?) := by decide +kernel
theorem CJ_gd : (CJ.map cjC).all goodWord = true := by decide +kernel
theorem CJ_ok : ∀ q ∈ CJ, cjC q ∈ WT := pl_ok CJ_pl CJ_gd
theorem KL_pl : KL.map klC = [137, 145, 204, 237, 262, 286, 326, 342, 363, 370, 372, 374, 396, 422, 480, 1553].filterMap (fun i => lw_tbl[i]?) := by decide +kernel
theorem KL_gd : (KL.map klC).all goodWord = true := by decide +kernel
theorem KL_ok : ∀ q ∈ KL, klC q ∈ WT := pl_ok KL_pl KL_gd
end
section
/-- a method: name, bytes, locals, what it returns -/
abbrev mM : Type := MethodName × ByteArray × Nat × Option FieldType
/-- private members of nest mates: class, entry, method -/
def nestW : List (String × Nat × MethodName) := [(RX11, 41, yX6_init), (RX11, 51, yX9_init), (RX11, 72, yX4_init), (RX4, 18, yX6_init), (RX11, 79, yX2_init), (RX11, 86, yX1_init), (RX11, 93, yX7_init), (RX10, 88, yX11_mirrored), (RX10, 91, yX11_turned), (RX10, 127, yX11_drawn), (RX9, 61, yX11_maskOf), (RX9, 106, yX11_mirrored), (RX9, 120, yX11_turned), (RX7, 31, yX11_commonDivisor), (RX10, 148, yX11_maskOf), (RX0, 113, yX11_drawn)]
/-! methods by number: name, bytes, locals, what is returned; 0 virtual, 1 static, 2 a constructor; the class's number; how many parameters -/
def MT_0 : List (mM × Nat × Nat × Nat) := [((yX0_init, cX0_init, 1, none), 2, 0, 0), ((yX0_clear, cX0_clear, 1, none), 0, 0, 0), ((yX0_become, cX0_become, 2, none), 0, 0, 1), ((yX0_hasKind, cX0_hasKind, 2, (some .boolean)), 0, 0, 1), ((yX0_hasBand, cX0_hasBand, 2, (some .boolean)), 0, 0, 1), ((yX0_hasStake, cX0_hasStake, 2, (some .boolean)), 0, 0, 1), ((yX0_hasWeaver, cX0_hasWeaver, 3, (some .boolean)), 0, 0, 2), ((yX0_hasCrossing, cX0_hasCrossing, 4, (some .boolean)), 0, 0, 3), ((yX0_ofKind, cX0_ofKind, 4, (some .int)), 0, 0, 2), ((yX0_ofBand, cX0_ofBand, 4, (some .int)), 0, 0, 2), ((yX0_kindOf, cX0_kindOf, 3, (some .int)), 0, 0, 2), ((yX0_ring, cX0_ring, 1, (some .int)), 0, 0, 0), ((yX0_weaversOf, cX0_weaversOf, 2, (some .int)), 0, 0, 1), ((yX0_periodOf, cX0_periodOf, 2, (some .int)), 0, 0, 1), ((yX0_crossingsOf, cX0_crossingsOf, 2, (some .int)), 0, 0, 1), ((yX0_rowsOf, cX0_rowsOf, 2, (some .int)), 0, 0, 1), ((yX0_slipsOfBand, cX0_slipsOfBand, 4, (some .int)), 0, 0, 1), ((yX0_slipsAt, cX0_slipsAt, 7, (some .int)), 0, 0, 3), ((yX0_stakeAt, cX0_stakeAt, 5, (some .int)), 0, 0, 3), ((yX0_offsetOf, cX0_offsetOf, 5, (some .int)), 0, 0, 3), ((yX0_aheadOf, cX0_aheadOf, 4, (some .int)), 0, 0, 1), ((yX0_allCrossings, cX0_allCrossings, 1, (some .int)), 0, 0, 0), ((yX0_whenOf, cX0_whenOf, 4, (some .int)), 0, 0, 3), ((yX0_firstTouch, cX0_firstTouch, 6, (some .int)), 0, 0, 3), ((yX0_rodStep, cX0_rodStep, 3, (some .int)), 0, 0, 2), ((yX0_rodsFor, cX0_rodsFor, 6, (some .int)), 0, 0, 3), ((yX0_rodAt, cX0_rodAt, 5, (some .int)), 0, 0, 3), ((yX0_weaversOfKind, cX0_weaversOfKind, 5, (some .int)), 0, 0, 2), ((yX0_rodsTaken, cX0_rodsTaken, 4, (some .int)), 0, 0, 1), ((yX0_leftOver, cX0_leftOver, 6, (some .int)), 0, 0, 1), ((yX0_cheapestKind, cX0_cheapestKind, 6, (some .int)), 0, 0, 1), ((yX0_longestRod, cX0_longestRod, 4, (some .int)), 0, 0, 1), ((yX0_driesTo, cX0_driesTo, 2, (some .int)), 0, 0, 1), ((yX0_heightOf, cX0_heightOf, 6, (some .int)), 0, 0, 2), ((yX0_loosest, cX0_loosest, 11, (some .int)), 0, 0, 0), ((yX0_widthBehind, cX0_widthBehind, 4, (some .int)), 0, 0, 1), ((yX0_wanderFrom, cX0_wanderFrom, 9, (some .int)), 0, 0, 2), ((yX1_init, cX1_init, 1, none), 2, 1, 0), ((yX1_difference, cX1_difference, 1, (some .int)), 0, 1, 0), ((yX1_leanOf, cX1_leanOf, 2, (some .int)), 0, 1, 1), ((yX1_leanShift, cX1_leanShift, 1, (some .int)), 1, 1, 1), ((yX1_make, cX1_make, 5, none), 0, 1, 3), ((yX1_setRanges, cX1_setRanges, 5, none), 0, 1, 0), ((yX1_costOfTrial, cX1_costOfTrial, 3, (some .int)), 0, 1, 0), ((yX1_tryLean, cX1_tryLean, 7, none), 0, 1, 2), ((yX1_widthBy, cX1_widthBy, 4, (some .int)), 0, 1, 3), ((yX1_narrowRanges, cX1_narrowRanges, 3, none), 0, 1, 0), ((yX1_makeRoom, cX1_makeRoom, 3, none), 0, 1, 0), ((yX1_rowsOf, cX1_rowsOf, 2, (some .int)), 0, 1, 1), ((yX1_wayAt, cX1_wayAt, 2, (some .long)), 0, 1, 1), ((yX1_emptyNext, cX1_emptyNext, 2, none), 0, 1, 1), ((yX1_takeNext, cX1_takeNext, 2, none), 0, 1, 0), ((yX1_goOn, cX1_goOn, 6, none), 0, 1, 1), ((yX1_goOnFrom, cX1_goOnFrom, 10, none), 0, 1, 4), ((yX1_leastNear, cX1_leastNear, 7, (some .long)), 0, 1, 2), ((yX1_goTo, cX1_goTo, 11, none), 0, 1, 4), ((yX2_init, cX2_init, 1, none), 2, 2, 0), ((yX2_rodAtPlace, cX2_rodAtPlace, 2, (some .int)), 0, 2, 1), ((yX2_putRound, cX2_putRound, 3, none), 0, 2, 1), ((yX2_putFrom, cX2_putFrom, 6, none), 0, 2, 3)]
def MT_1 : List (mM × Nat × Nat × Nat) := [((yX2_differenceAt, cX2_differenceAt, 5, (some .int)), 0, 2, 1), ((yX3_init, cX3_init, 1, none), 2, 3, 0), ((yX3_become, cX3_become, 2, none), 0, 3, 1), ((yX3_isHand, cX3_isHand, 2, (some .boolean)), 0, 3, 1), ((yX3_isTold, cX3_isTold, 2, (some .boolean)), 0, 3, 1), ((yX3_tell, cX3_tell, 4, (some .int)), 0, 3, 2), ((yX3_teacherOf, cX3_teacherOf, 2, (some .int)), 0, 3, 1), ((yX3_teachAll, cX3_teachAll, 5, (some .int)), 0, 3, 0), ((yX3_nextTaught, cX3_nextTaught, 7, (some .int)), 0, 3, 1), ((yX4_init, cX4_init, 1, none), 2, 4, 0), ((yX5_init, cX5_init, 1, none), 2, 5, 0), ((yX5_isMissing, cX5_isMissing, 1, (some .boolean)), 0, 5, 0), ((yX5_begin, cX5_begin, 3, none), 0, 5, 2), ((yX5_put, cX5_put, 4, (some .long)), 0, 5, 2), ((yX5_cut, cX5_cut, 3, (some .long)), 0, 5, 1), ((yX5_allWithin, cX5_allWithin, 6, (some .boolean)), 0, 5, 2), ((yX5_intAt, cX5_intAt, 2, (some .int)), 0, 5, 1), ((yX6_init, cX6_init, 1, none), 2, 6, 0), ((yX6_clear, cX6_clear, 1, none), 0, 6, 0), ((yX6_become, cX6_become, 2, none), 0, 6, 1), ((yX6_isPicture, cX6_isPicture, 8, (some .boolean)), 1, 6, 4), ((yX6_isSign, cX6_isSign, 2, (some .boolean)), 1, 6, 2), ((yX6_take, cX6_take, 9, none), 0, 6, 4), ((yX6_takeWished, cX6_takeWished, 5, none), 0, 6, 3), ((yX6_takePrinted, cX6_takePrinted, 4, none), 0, 6, 3), ((yX7_init, cX7_init, 1, none), 2, 7, 0), ((yX7_make, cX7_make, 7, none), 0, 7, 2), ((yX7_strandAt, cX7_strandAt, 3, (some .int)), 0, 7, 2), ((yX7_orderOf, cX7_orderOf, 5, (some .int)), 0, 7, 1), ((yX7_ringOf, cX7_ringOf, 4, (some .int)), 0, 7, 1), ((yX7_leftOf, cX7_leftOf, 5, (some .int)), 0, 7, 1), ((yX8_init, cX8_init, 1, none), 2, 8, 0), ((yX8_readBasket, cX8_readBasket, 5, (some .boolean)), 0, 8, 3), ((yX8_readLine, cX8_readLine, 2, none), 0, 8, 1), ((yX8_readStakes, cX8_readStakes, 2, none), 0, 8, 1), ((yX8_readRod, cX8_readRod, 3, none), 0, 8, 1), ((yX8_readBand, cX8_readBand, 5, none), 0, 8, 1), ((yX8_takeLeft, cX8_takeLeft, 1, (some .int)), 0, 8, 0), ((yX8_takeLean, cX8_takeLean, 1, (some .int)), 0, 8, 0), ((yX8_readSlip, cX8_readSlip, 4, none), 0, 8, 1), ((yX8_fail, cX8_fail, 2, none), 0, 8, 1), ((yX8_isWord, cX8_isWord, 3, (some .boolean)), 0, 8, 1), ((yX8_takeWord, cX8_takeWord, 2, none), 0, 8, 1), ((yX8_takeNumber, cX8_takeNumber, 4, (some .int)), 0, 8, 2), ((yX8_takeSign, cX8_takeSign, 1, none), 0, 8, 0), ((yX8_byteAt, cX8_byteAt, 2, (some .int)), 0, 8, 1), ((yX8_isLetter, cX8_isLetter, 1, (some .boolean)), 1, 8, 1), ((yX8_isDigit, cX8_isDigit, 1, (some .boolean)), 1, 8, 1), ((yX8_advance, cX8_advance, 2, none), 0, 8, 0), ((yX9_init, cX9_init, 1, none), 2, 9, 0), ((yX9_forgetWish, cX9_forgetWish, 1, none), 0, 9, 0), ((yX9_forgetPrint, cX9_forgetPrint, 1, none), 0, 9, 0), ((yX9_ofMaker, cX9_ofMaker, 2, (some .int)), 0, 9, 1), ((yX9_ofReader, cX9_ofReader, 4, (some .int)), 0, 9, 2), ((yX9_makeKnown, cX9_makeKnown, 4, none), 0, 9, 2), ((yX9_kindsAgree, cX9_kindsAgree, 3, (some .boolean)), 1, 9, 2), ((yX9_kindOfWeaver, cX9_kindOfWeaver, 6, (some .int)), 1, 9, 3), ((yX9_makeWith, cX9_makeWith, 6, none), 0, 9, 2), ((yX9_readKnown, cX9_readKnown, 7, none), 0, 9, 2), ((yX9_readSide, cX9_readSide, 3, none), 0, 9, 1)]
def MT_2 : List (mM × Nat × Nat × Nat) := [((yX9_readWith, cX9_readWith, 6, none), 0, 9, 2), ((yX9_begin, cX9_begin, 2, none), 0, 9, 1), ((yX9_goOn, cX9_goOn, 1, (some .boolean)), 0, 9, 0), ((yX9_weaveRounds, cX9_weaveRounds, 6, none), 0, 9, 0), ((yX9_mistakesOf, cX9_mistakesOf, 7, (some .int)), 0, 9, 1), ((yX10_init, cX10_init, 2, none), 2, 10, 1), ((yX10_forget, cX10_forget, 1, none), 0, 10, 0), ((yX10_rowBits, cX10_rowBits, 4, (some .int)), 0, 10, 2), ((yX10_weaveOne, cX10_weaveOne, 12, none), 0, 10, 2), ((yX10_goesOver, cX10_goesOver, 6, (some .boolean)), 0, 10, 3), ((yX10_overAt, cX10_overAt, 5, (some .boolean)), 0, 10, 3), ((yX10_kindSeen, cX10_kindSeen, 5, (some .int)), 0, 10, 4), ((yX10_oversAt, cX10_oversAt, 5, (some .int)), 0, 10, 2), ((yX10_longestRun, cX10_longestRun, 8, (some .int)), 0, 10, 2), ((yX10_stakeBits, cX10_stakeBits, 7, (some .int)), 0, 10, 3), ((yX10_alike, cX10_alike, 5, (some .int)), 0, 10, 2), ((yX10_bestFrom, cX10_bestFrom, 6, (some .int)), 0, 10, 1), ((yX10_turnBetween, cX10_turnBetween, 9, (some .int)), 0, 10, 3), ((yX10_rowsTillAgain, cX10_rowsTillAgain, 4, (some .int)), 0, 10, 1), ((yX10_sameBehind, cX10_sameBehind, 5, (some .boolean)), 0, 10, 3), ((yX10_mostSeen, cX10_mostSeen, 6, (some .int)), 0, 10, 3), ((yX10_longStretches, cX10_longStretches, 9, (some .int)), 0, 10, 2), ((yX10_learnerDoes, cX10_learnerDoes, 18, (some .int)), 0, 10, 4), ((yX10_joinsOf, cX10_joinsOf, 10, (some .int)), 0, 10, 3), ((yX10_holdOf, cX10_holdOf, 5, (some .int)), 0, 10, 1), ((yX10_changesOf, cX10_changesOf, 8, (some .int)), 0, 10, 2), ((yX11_init, cX11_init, 1, none), 2, 11, 0), ((yX11_feed, cX11_feed, 6, (some .int)), 0, 11, 5), ((yX11_basket, cX11_basket, 2, (some .int)), 0, 11, 1), ((yX11_fault, cX11_fault, 2, (some .int)), 0, 11, 1), ((yX11_rod, cX11_rod, 3, (some .int)), 0, 11, 2), ((yX11_band, cX11_band, 4, (some .int)), 0, 11, 2), ((yX11_lean, cX11_lean, 2, (some .int)), 0, 11, 1), ((yX11_crossing, cX11_crossing, 6, (some .int)), 0, 11, 4), ((yX11_seen, cX11_seen, 5, (some .int)), 0, 11, 4), ((yX11_overs, cX11_overs, 3, (some .int)), 0, 11, 2), ((yX11_run, cX11_run, 3, (some .int)), 0, 11, 2), ((yX11_step, cX11_step, 6, (some .int)), 0, 11, 4), ((yX11_counts, cX11_counts, 9, (some .int)), 0, 11, 5), ((yX11_total, cX11_total, 1, (some .int)), 0, 11, 0), ((yX11_undo, cX11_undo, 6, (some .int)), 0, 11, 4), ((yX11_mend, cX11_mend, 4, (some .int)), 0, 11, 3), ((yX11_seam, cX11_seam, 2, (some .int)), 0, 11, 1), ((yX11_turn, cX11_turn, 2, (some .int)), 0, 11, 1), ((yX11_spiral, cX11_spiral, 4, (some .int)), 0, 11, 3), ((yX11_repeats, cX11_repeats, 2, (some .int)), 0, 11, 1), ((yX11_colour, cX11_colour, 4, (some .int)), 0, 11, 3), ((yX11_floats, cX11_floats, 3, (some .int)), 0, 11, 2), ((yX11_learner, cX11_learner, 5, (some .int)), 0, 11, 4), ((yX11_wish, cX11_wish, 2, (some .int)), 0, 11, 1), ((yX11_find, cX11_find, 4, (some .int)), 0, 11, 1), ((yX11_print, cX11_print, 2, (some .int)), 0, 11, 1), ((yX11_reads, cX11_reads, 3, (some .int)), 0, 11, 2), ((yX11_nearest, cX11_nearest, 3, (some .int)), 0, 11, 2), ((yX11_rods, cX11_rods, 2, (some .int)), 0, 11, 1), ((yX11_waste, cX11_waste, 2, (some .int)), 0, 11, 1), ((yX11_cost, cX11_cost, 3, (some .int)), 0, 11, 0), ((yX11_cheaper, cX11_cheaper, 2, (some .int)), 0, 11, 1), ((yX11_joins, cX11_joins, 3, (some .int)), 0, 11, 2), ((yX11_hide, cX11_hide, 8, (some .int)), 0, 11, 2)]
def MT_3 : List (mM × Nat × Nat × Nat) := [((yX11_reach, cX11_reach, 6, (some .int)), 0, 11, 3), ((yX11_nest, cX11_nest, 4, (some .int)), 0, 11, 2), ((yX11_plait, cX11_plait, 6, (some .int)), 0, 11, 3), ((yX11_even, cX11_even, 5, (some .int)), 0, 11, 2), ((yX11_height, cX11_height, 5, (some .int)), 0, 11, 2), ((yX11_loose, cX11_loose, 1, (some .int)), 0, 11, 0), ((yX11_hold, cX11_hold, 2, (some .int)), 0, 11, 1), ((yX11_gives, cX11_gives, 4, (some .int)), 0, 11, 1), ((yX11_width, cX11_width, 2, (some .int)), 0, 11, 1), ((yX11_bowl, cX11_bowl, 4, (some .int)), 0, 11, 3), ((yX11_wander, cX11_wander, 3, (some .int)), 0, 11, 2), ((yX11_closes, cX11_closes, 4, (some .int)), 0, 11, 1), ((yX11_border, cX11_border, 4, (some .int)), 0, 11, 3), ((yX11_ways, cX11_ways, 3, (some .int)), 0, 11, 2), ((yX11_taught, cX11_taught, 2, (some .int)), 0, 11, 1), ((yX11_lid, cX11_lid, 10, (some .int)), 0, 11, 5), ((yX11_numbers, cX11_numbers, 4, (some .int)), 0, 11, 3), ((yX11_write, cX11_write, 6, (some .long)), 0, 11, 3), ((yX11_copy, cX11_copy, 8, (some .int)), 0, 11, 4), ((yX11_image, cX11_image, 3, (some .int)), 0, 11, 1), ((yX11_restore, cX11_restore, 3, (some .int)), 0, 11, 1), ((yX11_status, cX11_status, 2, (some .int)), 0, 11, 1), ((yX11_count, cX11_count, 2, (some .int)), 0, 11, 1), ((yX11_refuse, cX11_refuse, 2, (some .int)), 0, 11, 1), ((yX11_putBytes, cX11_putBytes, 3, none), 0, 11, 1), ((yX11_onTape, cX11_onTape, 2, (some .boolean)), 0, 11, 1), ((yX11_isRow, cX11_isRow, 2, (some .boolean)), 0, 11, 1), ((yX11_forgetAnswers, cX11_forgetAnswers, 1, none), 0, 11, 0), ((yX11_takePicture, cX11_takePicture, 4, (some .int)), 0, 11, 3), ((yX11_stakesCan, cX11_stakesCan, 1, (some .boolean)), 1, 11, 1), ((yX11_strokeCan, cX11_strokeCan, 2, (some .boolean)), 1, 11, 2), ((yX11_commonDivisor, cX11_commonDivisor, 6, (some .int)), 1, 11, 2), ((yX11_turnsOver, cX11_turnsOver, 4, (some .boolean)), 1, 11, 3), ((yX11_coveredBy, cX11_coveredBy, 5, (some .int)), 0, 11, 2), ((yX11_fewestThatReach, cX11_fewestThatReach, 10, (some .int)), 0, 11, 2), ((yX11_mostNested, cX11_mostNested, 6, (some .int)), 0, 11, 2), ((yX11_bowlCan, cX11_bowlCan, 5, (some .boolean)), 0, 11, 3), ((yX11_isClosed, cX11_isClosed, 8, (some .boolean)), 1, 11, 3), ((yX11_bordersThatClose, cX11_bordersThatClose, 12, (some .int)), 0, 11, 3), ((yX11_nextMoves, cX11_nextMoves, 4, (some .boolean)), 0, 11, 2), ((yX11_drawn, cX11_drawn, 1, (some .int)), 1, 11, 1), ((yX11_maskOf, cX11_maskOf, 1, (some .int)), 1, 11, 1), ((yX11_turned, cX11_turned, 4, (some .int)), 1, 11, 3), ((yX11_mirrored, cX11_mirrored, 4, (some .int)), 1, 11, 2), ((yX12_no, cX12_no, 2, (some .int)), 0, 12, 1), ((yX12_within, cX12_within, 6, (some .boolean)), 1, 12, 3), ((yX12_init, cX12_init, 2, none), 2, 12, 0), ((yX12_plain, cX12_plain, 2, none), 1, 12, 1), ((yX12_feed, cX12_feed, 8, (some .int)), 0, 12, 5), ((yX12_see, cX12_see, 2, (some .int)), 0, 12, 1), ((yX12_isSmall, cX12_isSmall, 1, (some .boolean)), 1, 12, 1), ((yX12_isDigit, cX12_isDigit, 1, (some .boolean)), 1, 12, 1), ((yX12_keyAt, cX12_keyAt, 4, (some .int)), 0, 12, 0), ((yX12_next, cX12_next, 1, none), 0, 12, 0), ((yX12_fails, cX12_fails, 2, none), 0, 12, 1), ((yX12_is, cX12_is, 2, (some .boolean)), 0, 12, 1), ((yX12_eats, cX12_eats, 2, (some .boolean)), 0, 12, 1), ((yX12_needs, cX12_needs, 2, none), 0, 12, 1), ((yX12_takes, cX12_takes, 4, (some .int)), 0, 12, 2), ((yX12_readStakes, cX12_readStakes, 1, none), 0, 12, 0)]
def MT_4 : List (mM × Nat × Nat × Nat) := [((yX12_readRod, cX12_readRod, 2, none), 0, 12, 0), ((yX12_readBand, cX12_readBand, 4, none), 0, 12, 0), ((yX12_readSlip, cX12_readSlip, 5, none), 0, 12, 0), ((yX12_readLine, cX12_readLine, 1, none), 0, 12, 0), ((yX12_basket, cX12_basket, 3, (some .int)), 0, 12, 1), ((yX12_fault, cX12_fault, 2, (some .int)), 0, 12, 1), ((yX12_isKind, cX12_isKind, 2, (some .boolean)), 0, 12, 1), ((yX12_isBand, cX12_isBand, 2, (some .boolean)), 0, 12, 1), ((yX12_rod, cX12_rod, 3, (some .int)), 0, 12, 2), ((yX12_slipsOf, cX12_slipsOf, 4, (some .int)), 0, 12, 1), ((yX12_band, cX12_band, 3, (some .int)), 0, 12, 2), ((yX12_lean, cX12_lean, 2, (some .int)), 0, 12, 1), ((yX12_crossingsOf, cX12_crossingsOf, 2, (some .int)), 0, 12, 1), ((yX12_round, cX12_round, 3, (some .int)), 1, 12, 2), ((yX12_stakeAt, cX12_stakeAt, 4, (some .int)), 0, 12, 3), ((yX12_placeIn, cX12_placeIn, 6, (some .int)), 0, 12, 3), ((yX12_isOver, cX12_isOver, 4, (some .boolean)), 0, 12, 3), ((yX12_allAhead, cX12_allAhead, 4, (some .int)), 0, 12, 1), ((yX12_when, cX12_when, 4, (some .int)), 0, 12, 3), ((yX12_stepOf, cX12_stepOf, 3, (some .int)), 0, 12, 1), ((yX12_rodsFor, cX12_rodsFor, 5, (some .int)), 0, 12, 2), ((yX12_kindOf, cX12_kindOf, 3, (some .int)), 0, 12, 2), ((yX12_rodAt, cX12_rodAt, 6, (some .int)), 0, 12, 3), ((yX12_isCrossing, cX12_isCrossing, 4, (some .boolean)), 0, 12, 3), ((yX12_crossing, cX12_crossing, 6, (some .int)), 0, 12, 4), ((yX12_indexAt, cX12_indexAt, 6, (some .int)), 0, 12, 4), ((yX12_isStake, cX12_isStake, 2, (some .boolean)), 0, 12, 1), ((yX12_isOverIn, cX12_isOverIn, 5, (some .boolean)), 0, 12, 3), ((yX12_seen, cX12_seen, 5, (some .int)), 0, 12, 4), ((yX12_overs, cX12_overs, 5, (some .int)), 0, 12, 2), ((yX12_run, cX12_run, 8, (some .int)), 0, 12, 2), ((yX12_common, cX12_common, 5, (some .int)), 1, 12, 2), ((yX12_step, cX12_step, 7, (some .int)), 0, 12, 4), ((yX12_counts, cX12_counts, 8, (some .int)), 0, 12, 5), ((yX12_total, cX12_total, 1, (some .int)), 0, 12, 0), ((yX12_undo, cX12_undo, 5, (some .int)), 0, 12, 4), ((yX12_mend, cX12_mend, 7, (some .int)), 0, 12, 3), ((yX12_seamOf, cX12_seamOf, 4, (some .int)), 0, 12, 1), ((yX12_seam, cX12_seam, 2, (some .int)), 0, 12, 1), ((yX12_turn, cX12_turn, 7, (some .int)), 0, 12, 1), ((yX12_spiral, cX12_spiral, 7, (some .int)), 0, 12, 3), ((yX12_isRowAlike, cX12_isRowAlike, 5, (some .boolean)), 0, 12, 3), ((yX12_repeats, cX12_repeats, 6, (some .int)), 0, 12, 1), ((yX12_colour, cX12_colour, 9, (some .int)), 0, 12, 3), ((yX12_floats, cX12_floats, 7, (some .int)), 0, 12, 2), ((yX12_learner, cX12_learner, 13, (some .int)), 0, 12, 4), ((yX12_readsPicture, cX12_readsPicture, 8, (some .int)), 0, 12, 3), ((yX12_wish, cX12_wish, 2, (some .int)), 0, 12, 1), ((yX12_print, cX12_print, 2, (some .int)), 0, 12, 1), ((yX12_strokeOver, cX12_strokeOver, 6, (some .boolean)), 0, 12, 2), ((yX12_makes, cX12_makes, 4, (some .boolean)), 0, 12, 0), ((yX12_mistakes, cX12_mistakes, 6, (some .int)), 0, 12, 1), ((yX12_nextStroke, cX12_nextStroke, 1, (some .boolean)), 0, 12, 0), ((yX12_firstStroke, cX12_firstStroke, 1, none), 0, 12, 0), ((yX12_keepsStroke, cX12_keepsStroke, 2, none), 0, 12, 0), ((yX12_find, cX12_find, 4, (some .int)), 0, 12, 1), ((yX12_reads, cX12_reads, 5, (some .int)), 0, 12, 2), ((yX12_nearest, cX12_nearest, 6, (some .int)), 0, 12, 2), ((yX12_rodsOf, cX12_rodsOf, 5, (some .int)), 0, 12, 1), ((yX12_rods, cX12_rods, 2, (some .int)), 0, 12, 1)]
def MT_5 : List (mM × Nat × Nat × Nat) := [((yX12_waste, cX12_waste, 6, (some .int)), 0, 12, 1), ((yX12_cost, cX12_cost, 3, (some .int)), 0, 12, 0), ((yX12_cheaper, cX12_cheaper, 6, (some .int)), 0, 12, 1), ((yX12_joinsOf, cX12_joinsOf, 7, (some .int)), 0, 12, 2), ((yX12_joins, cX12_joins, 3, (some .int)), 0, 12, 2), ((yX12_hide, cX12_hide, 8, (some .int)), 0, 12, 2), ((yX12_areNumbers, cX12_areNumbers, 5, (some .boolean)), 0, 12, 3), ((yX12_reach, cX12_reach, 11, (some .int)), 0, 12, 3), ((yX12_nest, cX12_nest, 12, (some .int)), 0, 12, 2), ((yX12_plait, cX12_plait, 10, (some .int)), 0, 12, 3), ((yX12_offOf, cX12_offOf, 6, (some .int)), 0, 12, 0), ((yX12_puts, cX12_puts, 5, none), 0, 12, 2), ((yX12_even, cX12_even, 4, (some .int)), 0, 12, 2), ((yX12_heightOf, cX12_heightOf, 5, (some .int)), 0, 12, 2), ((yX12_height, cX12_height, 5, (some .int)), 0, 12, 2), ((yX12_loose, cX12_loose, 5, (some .int)), 0, 12, 0), ((yX12_holdOf, cX12_holdOf, 6, (some .int)), 0, 12, 1), ((yX12_hold, cX12_hold, 2, (some .int)), 0, 12, 1), ((yX12_gives, cX12_gives, 4, (some .int)), 0, 12, 1), ((yX12_atLeastOne, cX12_atLeastOne, 1, (some .int)), 1, 12, 1), ((yX12_width, cX12_width, 4, (some .int)), 0, 12, 1), ((yX12_offAt, cX12_offAt, 4, (some .int)), 0, 12, 3), ((yX12_offBy, cX12_offBy, 7, (some .int)), 0, 12, 4), ((yX12_leastBy, cX12_leastBy, 9, (some .int)), 0, 12, 5), ((yX12_isBowl, cX12_isBowl, 5, (some .boolean)), 0, 12, 3), ((yX12_mostAhead, cX12_mostAhead, 4, (some .int)), 0, 12, 1), ((yX12_bowl, cX12_bowl, 10, (some .int)), 0, 12, 3), ((yX12_wander, cX12_wander, 9, (some .int)), 0, 12, 2), ((yX12_closesBy, cX12_closesBy, 6, (some .boolean)), 0, 12, 1), ((yX12_closes, cX12_closes, 3, (some .int)), 0, 12, 1), ((yX12_border, cX12_border, 12, (some .int)), 0, 12, 3), ((yX12_ways, cX12_ways, 4, (some .int)), 0, 12, 2), ((yX12_bitsOf, cX12_bitsOf, 3, (some .int)), 1, 12, 1), ((yX12_teaches, cX12_teaches, 9, (some .int)), 0, 12, 0), ((yX12_taught, cX12_taught, 3, (some .int)), 0, 12, 1), ((yX12_dried, cX12_dried, 3, (some .int)), 0, 12, 2), ((yX12_lid, cX12_lid, 11, (some .int)), 0, 12, 5), ((yX12_cut, cX12_cut, 3, (some .long)), 1, 12, 2), ((yX12_numbers, cX12_numbers, 5, (some .int)), 0, 12, 3), ((yX12_write, cX12_write, 5, (some .long)), 0, 12, 3), ((yX12_copy, cX12_copy, 6, (some .int)), 0, 12, 4), ((yX12_image, cX12_image, 3, (some .int)), 0, 12, 1), ((yX12_restore, cX12_restore, 3, (some .int)), 0, 12, 1), ((yX12_status, cX12_status, 2, (some .int)), 0, 12, 1), ((yX12_count, cX12_count, 2, (some .int)), 0, 12, 1), ((yJ6_bitCount_0f7a4, cJ6_bitCount_0f7a4, 1, (some .int)), 1, 99, 1), ((yJ9_floorMod_7cf53, cJ9_floorMod_7cf53, 3, (some .int)), 1, 99, 2), ((yJ7_rangeCheck_23922, cJ7_rangeCheck_23922, 3, none), 1, 99, 3), ((yJ7_fill_d0a16, cJ7_fill_d0a16, 5, none), 1, 99, 2), ((yJ7_fill_bad5a, cJ7_fill_bad5a, 6, none), 1, 99, 4), ((yJ7_fill_53178, cJ7_fill_53178, 4, none), 1, 99, 2), ((yJ7_fill_fda19, cJ7_fill_fda19, 5, none), 1, 99, 4)]
def MT : List (mM × Nat × Nat × Nat) := MT_0 ++ (MT_1 ++ (MT_2 ++ (MT_3 ++ (MT_4 ++ (MT_5)))))
def MTn_0 : List MethodName := [yX0_init, yX0_clear, yX0_become, yX0_hasKind, yX0_hasBand, yX0_hasStake, yX0_hasWeaver, yX0_hasCrossing, yX0_ofKind, yX0_ofBand, yX0_kindOf, yX0_ring, yX0_weaversOf, yX0_periodOf, yX0_crossingsOf, yX0_rowsOf, yX0_slipsOfBand, yX0_slipsAt, yX0_stakeAt, yX0_offsetOf, yX0_aheadOf, yX0_allCrossings, yX0_whenOf, yX0_firstTouch, yX0_rodStep, yX0_rodsFor, yX0_rodAt, yX0_weaversOfKind, yX0_rodsTaken, yX0_leftOver, yX0_cheapestKind, yX0_longestRod, yX0_driesTo, yX0_heightOf, yX0_loosest, yX0_widthBehind, yX0_wanderFrom, yX1_init, yX1_difference, yX1_leanOf, yX1_leanShift, yX1_make, yX1_setRanges, yX1_costOfTrial, yX1_tryLean, yX1_widthBy, yX1_narrowRanges, yX1_makeRoom, yX1_rowsOf, yX1_wayAt, yX1_emptyNext, yX1_takeNext, yX1_goOn, yX1_goOnFrom, yX1_leastNear, yX1_goTo, yX2_init, yX2_rodAtPlace, yX2_putRound, yX2_putFrom]
def MTn_1 : List MethodName := [yX2_differenceAt, yX3_init, yX3_become, yX3_isHand, yX3_isTold, yX3_tell, yX3_teacherOf, yX3_teachAll, yX3_nextTaught, yX4_init, yX5_init, yX5_isMissing, yX5_begin, yX5_put, yX5_cut, yX5_allWithin, yX5_intAt, yX6_init, yX6_clear, yX6_become, yX6_isPicture, yX6_isSign, yX6_take, yX6_takeWished, yX6_takePrinted, yX7_init, yX7_make, yX7_strandAt, yX7_orderOf, yX7_ringOf, yX7_leftOf, yX8_init, yX8_readBasket, yX8_readLine, yX8_readStakes, yX8_readRod, yX8_readBand, yX8_takeLeft, yX8_takeLean, yX8_readSlip, yX8_fail, yX8_isWord, yX8_takeWord, yX8_takeNumber, yX8_takeSign, yX8_byteAt, yX8_isLetter, yX8_isDigit, yX8_advance, yX9_init, yX9_forgetWish, yX9_forgetPrint, yX9_ofMaker, yX9_ofReader, yX9_makeKnown, yX9_kindsAgree, yX9_kindOfWeaver, yX9_makeWith, yX9_readKnown, yX9_readSide]
def MTn_2 : List MethodName := [yX9_readWith, yX9_begin, yX9_goOn, yX9_weaveRounds, yX9_mistakesOf, yX10_init, yX10_forget, yX10_rowBits, yX10_weaveOne, yX10_goesOver, yX10_overAt, yX10_kindSeen, yX10_oversAt, yX10_longestRun, yX10_stakeBits, yX10_alike, yX10_bestFrom, yX10_turnBetween, yX10_rowsTillAgain, yX10_sameBehind, yX10_mostSeen, yX10_longStretches, yX10_learnerDoes, yX10_joinsOf, yX10_holdOf, yX10_changesOf, yX11_init, yX11_feed, yX11_basket, yX11_fault, yX11_rod, yX11_band, yX11_lean, yX11_crossing, yX11_seen, yX11_overs, yX11_run, yX11_step, yX11_counts, yX11_total, yX11_undo, yX11_mend, yX11_seam, yX11_turn, yX11_spiral, yX11_repeats, yX11_colour, yX11_floats, yX11_learner, yX11_wish, yX11_find, yX11_print, yX11_reads, yX11_nearest, yX11_rods, yX11_waste, yX11_cost, yX11_cheaper, yX11_joins, yX11_hide]
def MTn_3 : List MethodName := [yX11_reach, yX11_nest, yX11_plait, yX11_even, yX11_height, yX11_loose, yX11_hold, yX11_gives, yX11_width, yX11_bowl, yX11_wander, yX11_closes, yX11_border, yX11_ways, yX11_taught, yX11_lid, yX11_numbers, yX11_write, yX11_copy, yX11_image, yX11_restore, yX11_status, yX11_count, yX11_refuse, yX11_putBytes, yX11_onTape, yX11_isRow, yX11_forgetAnswers, yX11_takePicture, yX11_stakesCan, yX11_strokeCan, yX11_commonDivisor, yX11_turnsOver, yX11_coveredBy, yX11_fewestThatReach, yX11_mostNested, yX11_bowlCan, yX11_isClosed, yX11_bordersThatClose, yX11_nextMoves, yX11_drawn, yX11_maskOf, yX11_turned, yX11_mirrored, yX12_no, yX12_within, yX12_init, yX12_plain, yX12_feed, yX12_see, yX12_isSmall, yX12_isDigit, yX12_keyAt, yX12_next, yX12_fails, yX12_is, yX12_eats, yX12_needs, yX12_takes, yX12_readStakes]
def MTn_4 : List MethodName := [yX12_readRod, yX12_readBand, yX12_readSlip, yX12_readLine, yX12_basket, yX12_fault, yX12_isKind, yX12_isBand, yX12_rod, yX12_slipsOf, yX12_band, yX12_lean, yX12_crossingsOf, yX12_round, yX12_stakeAt, yX12_placeIn, yX12_isOver, yX12_allAhead, yX12_when, yX12_stepOf, yX12_rodsFor, yX12_kindOf, yX12_rodAt, yX12_isCrossing, yX12_crossing, yX12_indexAt, yX12_isStake, yX12_isOverIn, yX12_seen, yX12_overs, yX12_run, yX12_common, yX12_step, yX12_counts, yX12_total, yX12_undo, yX12_mend, yX12_seamOf, yX12_seam, yX12_turn, yX12_spiral, yX12_isRowAlike, yX12_repeats, yX12_colour, yX12_floats, yX12_learner, yX12_readsPicture, yX12_wish, yX12_print, yX12_strokeOver, yX12_makes, yX12_mistakes, yX12_nextStroke, yX12_firstStroke, yX12_keepsStroke, yX12_find, yX12_reads, yX12_nearest, yX12_rodsOf, yX12_rods]
def MTn_5 : List MethodName := [yX12_waste, yX12_cost, yX12_cheaper, yX12_joinsOf, yX12_joins, yX12_hide, yX12_areNumbers, yX12_reach, yX12_nest, yX12_plait, yX12_offOf, yX12_puts, yX12_even, yX12_heightOf, yX12_height, yX12_loose, yX12_holdOf, yX12_hold, yX12_gives, yX12_atLeastOne, yX12_width, yX12_offAt, yX12_offBy, yX12_leastBy, yX12_isBowl, yX12_mostAhead, yX12_bowl, yX12_wander, yX12_closesBy, yX12_closes, yX12_border, yX12_ways, yX12_bitsOf, yX12_teaches, yX12_taught, yX12_dried, yX12_lid, yX12_cut, yX12_numbers, yX12_write, yX12_copy, yX12_image, yX12_restore, yX12_status, yX12_count, yJ6_bitCount_0f7a4, yJ9_floorMod_7cf53, yJ7_rangeCheck_23922, yJ7_fill_d0a16, yJ7_fill_bad5a, yJ7_fill_53178, yJ7_fill_fda19]
def MTn : List MethodName := MTn_0 ++ (MTn_1 ++ (MTn_2 ++ (MTn_3 ++ (MTn_4 ++ (MTn_5)))))
set_option maxRecDepth 100000 in
theorem MTn_eq : MT.map (fun q => q.1.1) = MTn := rfl
def mN (j : Nat) : MethodName := MTn.getD j yL_law
def pmN (j : Nat) : MethodName := match j with
  | 5 => ⟨"java/lang/Object", "<init>", "()V"⟩
  | 6 => ⟨"java/lang/Math", "max", "(II)I"⟩
  | 7 => ⟨"java/lang/Math", "min", "(II)I"⟩
  | 8 => ⟨"java/lang/Math", "abs", "(I)I"⟩
  | 9 => ⟨"java/lang/Math", "min", "(JJ)J"⟩
  | 10 => ⟨"java/lang/System", "arraycopy", "(Ljava/lang/Object;ILjava/lang/Object;II)V"⟩
  | 11 => ⟨"java/lang/String", "length", "()I"⟩
  | 12 => ⟨"java/lang/String", "charAt", "(I)C"⟩
  | _ => yL_law
def ML : List (Nat × Nat × Nat) := [(13, 9, 146), (11, 15, 0), (11, 25, 91), (11, 32, 125), (11, 58, 61), (3, 18, 350), (11, 65, 70), (4, 9, 0), (4, 28, 61), (13, 13, 147), (11, 109, 203), (11, 113, 204), (13, 18, 148), (11, 117, 205), (11, 121, 92), (8, 34, 1), (8, 39, 108), (8, 162, 105), (8, 172, 106), (8, 176, 107), (8, 94, 100), (8, 45, 93), (8, 57, 101), (8, 61, 94), (8, 81, 102), (8, 85, 103), (8, 66, 95), (8, 71, 96), (8, 129, 97), (8, 133, 98), (8, 76, 99), (8, 148, 9), (8, 151, 14), (0, 53, 9), (8, 49, 104), (11, 128, 2), (11, 131, 78), (11, 134, 207), (11, 442, 126), (11, 445, 110), (11, 448, 111), (13, 23, 149), (13, 27, 150), (11, 143, 3), (11, 146, 8), (13, 32, 151), (11, 150, 4), (11, 153, 9), (11, 156, 16), (11, 159, 6), (0, 49, 4), (11, 163, 10), (13, 36, 152), (13, 40, 153), (11, 166, 7), (0, 57, 6), (0, 61, 14), (11, 170, 26), (0, 96, 10), (0, 93, 24), (0, 90, 8), (0, 99, 25), (11, 174, 18), (0, 70, 11), (0, 74, 346), (11, 177, 129), (10, 63, 11), (10, 38, 12), (10, 67, 127), (10, 34, 4), (10, 42, 128), (10, 46, 9), (10, 50, 13), (10, 53, 16), (10, 59, 17), (11, 183, 24), (11, 186, 22), (0, 77, 20), (13, 45, 154), (11, 189, 15), (11, 192, 5), (11, 195, 131), (10, 73, 130), (10, 70, 19), (10, 77, 10), (13, 50, 155), (11, 199, 132), (10, 80, 15), (13, 54, 156), (11, 202, 133), (13, 58, 157), (11, 205, 209), (11, 208, 210), (11, 211, 211), (11, 214, 212), (13, 62, 158), (13, 66, 159), (11, 217, 21), (13, 71, 160), (13, 75, 161), (11, 221, 23), (0, 80, 19), (0, 84, 22), (13, 80, 162), (11, 224, 135), (10, 94, 134), (11, 472, 346), (11, 475, 221), (10, 97, 345), (13, 84, 163), (11, 227, 136), (10, 102, 135), (13, 88, 164), (11, 230, 137), (13, 92, 165), (11, 233, 138), (10, 105, 139), (13, 96, 166), (11, 236, 140), (10, 108, 350), (10, 114, 131), (13, 101, 167), (11, 240, 141), (10, 118, 14), (10, 121, 129), (13, 105, 168), (11, 243, 142), (10, 130, 22), (13, 109, 169), (11, 247, 208), (11, 451, 80), (6, 35, 81), (11, 455, 82), (6, 42, 83), (6, 46, 84), (13, 113, 170), (11, 257, 114), (9, 44, 350), (9, 65, 115), (9, 73, 116), (9, 69, 117), (9, 86, 121), (9, 117, 123), (9, 90, 124), (9, 124, 345), (9, 99, 122), (11, 261, 112), (13, 117, 171), (13, 121, 172), (11, 264, 118), (9, 109, 119), (9, 113, 120), (11, 267, 113), (13, 125, 173), (13, 129, 174), (11, 270, 28), (0, 102, 27), (13, 133, 175), (11, 273, 29), (13, 137, 176), (13, 141, 177), (11, 279, 30), (13, 145, 178), (11, 282, 143), (10, 133, 24), (10, 136, 25), (13, 150, 179), (11, 285, 31), (13, 154, 180), (11, 288, 206), (11, 291, 71), (11, 300, 75), (11, 304, 214), (11, 313, 213), (11, 378, 76), (11, 308, 345), (13, 158, 181), (11, 318, 215), (13, 162, 182), (11, 321, 90), (7, 24, 76), (11, 325, 86), (11, 329, 88), (7, 28, 89), (11, 332, 87), (13, 166, 183), (11, 337, 58), (2, 37, 76), (2, 45, 59), (2, 55, 60), (11, 344, 57), (13, 170, 184), (11, 350, 33), (0, 105, 32), (13, 174, 185), (11, 354, 34), (0, 108, 33), (13, 178, 186), (11, 357, 144), (10, 139, 145), (10, 142, 8), (10, 145, 32), (13, 182, 187), (13, 186, 188), (11, 360, 35), (13, 190, 189), (11, 363, 216), (11, 366, 41), (1, 79, 9), (1, 82, 76), (1, 87, 42), (1, 90, 43), (1, 107, 45), (1, 139, 44), (1, 97, 46), (1, 100, 47), (1, 123, 48), (1, 103, 50), (1, 150, 349), (16, 13, 347), (1, 111, 55), (1, 55, 40), (1, 115, 51), (1, 118, 52), (1, 126, 49), (1, 156, 53), (1, 159, 54), (11, 369, 38), (11, 372, 39), (13, 194, 190), (11, 375, 36), (13, 198, 191), (11, 381, 217), (13, 202, 192), (11, 385, 218), (11, 462, 351), (11, 468, 219), (13, 206, 193), (11, 388, 63), (11, 391, 65), (3, 30, 63), (13, 210, 194), (11, 394, 67), (3, 34, 64), (3, 37, 68), (3, 41, 345), (11, 397, 64), (11, 400, 66), (13, 214, 195), (11, 403, 32), (13, 218, 196), (11, 411, 72), (5, 28, 348), (13, 224, 197), (11, 415, 73), (5, 34, 74), (13, 229, 198), (11, 419, 14), (13, 233, 199), (11, 424, 79), (11, 429, 62), (13, 237, 200), (13, 241, 201), (13, 245, 202), (13, 12, 226), (12, 77, 227), (13, 17, 228), (12, 84, 224), (13, 22, 244), (12, 147, 225), (12, 137, 233), (12, 109, 229), (12, 115, 230), (12, 119, 232), (12, 122, 231), (12, 170, 243), (12, 134, 235), (12, 158, 239), (12, 143, 234), (12, 151, 238), (12, 161, 240), (12, 155, 237), (12, 140, 236), (12, 164, 241), (12, 167, 242), (13, 26, 245), (13, 31, 248), (12, 176, 246), (13, 35, 250), (12, 181, 247), (12, 188, 249), (13, 39, 251), (13, 44, 264), (12, 213, 263), (12, 198, 252), (12, 219, 262), (12, 207, 261), (12, 204, 259), (12, 210, 260), (12, 222, 254), (12, 191, 253), (12, 225, 256), (12, 194, 255), (12, 228, 258), (12, 201, 257), (13, 49, 268), (12, 235, 266), (12, 238, 267), (12, 231, 265), (13, 53, 269), (13, 57, 270), (13, 61, 272), (12, 247, 271), (13, 65, 273), (13, 70, 274), (13, 74, 275), (13, 79, 276), (13, 83, 278), (12, 250, 277), (13, 87, 279), (13, 91, 280), (13, 95, 282), (12, 253, 281), (13, 100, 283), (13, 104, 284), (13, 108, 285), (13, 112, 287), (12, 261, 286), (13, 120, 288), (13, 116, 295), (12, 286, 293), (12, 289, 290), (12, 280, 289), (12, 293, 294), (12, 296, 292), (13, 124, 296), (12, 299, 291), (13, 128, 297), (13, 132, 299), (12, 302, 298), (13, 136, 300), (13, 140, 301), (13, 144, 302), (13, 149, 304), (12, 305, 303), (13, 153, 305), (13, 157, 307), (12, 309, 306), (13, 161, 308), (13, 165, 309), (13, 169, 312), (12, 327, 311), (12, 321, 310), (13, 173, 314), (12, 337, 313), (13, 177, 315), (13, 181, 317), (12, 340, 316), (13, 185, 318), (13, 189, 320), (12, 343, 319), (13, 193, 326), (12, 352, 324), (12, 355, 325), (12, 346, 321), (12, 358, 323), (12, 349, 322), (13, 197, 327), (13, 201, 329), (12, 362, 328), (13, 205, 330), (13, 209, 331), (13, 213, 334), (12, 372, 333), (12, 369, 332), (13, 217, 336), (12, 377, 335), (13, 221, 338), (13, 228, 339), (12, 382, 337), (13, 232, 340), (13, 236, 341), (13, 240, 342), (13, 244, 343), (13, 248, 344)]
def mlC (q : Nat × Nat × Nat) : Cond := .methodLink (oN q.1) q.2.1 (mN q.2.2)
def NL : List (Nat × Nat × Nat) := [(11, 41, 77), (11, 51, 109), (11, 72, 69), (4, 18, 77), (11, 79, 56), (11, 86, 37), (11, 93, 85), (10, 88, 223), (10, 91, 222), (10, 127, 220), (9, 61, 221), (9, 106, 223), (9, 120, 222), (7, 31, 211), (10, 148, 221), (0, 113, 220)]
theorem NL_eq : NL.map (fun q => (oN q.1, q.2.1, mN q.2.2)) = nestW := by decide +kernel
def PL : List (Nat × Nat × Nat) := [(11, 1, 5), (0, 5, 5), (8, 3, 5), (10, 3, 5), (6, 1, 5), (9, 3, 5), (3, 3, 5), (5, 3, 5), (4, 1, 5), (2, 3, 5), (1, 5, 5), (7, 3, 5), (8, 19, 7), (8, 158, 11), (8, 165, 12), (0, 43, 10), (0, 65, 6), (0, 87, 7), (10, 83, 6), (11, 459, 6), (10, 124, 7), (6, 29, 6), (6, 39, 7), (9, 80, 6), (9, 93, 10), (2, 28, 7), (2, 49, 10), (2, 61, 8), (2, 58, 6), (1, 65, 7), (1, 133, 6), (1, 136, 8), (1, 143, 10), (1, 130, 9), (11, 406, 7), (5, 22, 7), (6, 23, 10), (3, 24, 10), (12, 11, 5), (12, 93, 11), (12, 99, 12)]
def plC (q : Nat × Nat × Nat) : Cond := .methodLink (oN q.1) q.2.1 (pmN q.2.2)
theorem ML_pl : ML.map mlC = [139, 147, 206, 239, 328, 332, 345, 371, 375, 545, 549, 553, 557, 561, 565, 572, 576, 580, 584, 587, 590, 594, 599, 651, 655, 659, 664, 672, 681, 686, 693, 697, 701, 705, 708, 712, 719, 723, 727, 731, 735, 739, 743, 747, 751, 755, 759, 763, 764, 768, 772, 773, 777, 781, 785, 789, 790, 791, 795, 796, 800, 804, 809, 813, 817, 820, 824, 825, 829, 833, 834, 838, 839, 843, 844, 848, 849, 853, 857, 861, 865, 869, 873, 877, 881, 882, 886, 890, 891, 895, 900, 904, 907, 910, 914, 917, 921, 925, 929, 933, 937, 941, 942, 943, 947, 951, 961, 962, 965, 971, 975, 979, 980, 984, 988, 992, 996, 1000, 1004, 1008, 1009, 1010, 1014, 1018, 1019, 1020, 1024, 1033, 1034, 1038, 1042, 1046, 1049, 1054, 1058, 1062, 1066, 1070, 1072, 1075, 1079, 1083, 1087, 1092, 1097, 1099, 1103, 1107, 1111, 1115, 1119, 1124, 1128, 1132, 1136, 1140, 1144, 1148, 1152, 1156, 1160, 1164, 1168, 1172, 1176, 1177, 1178, 1182, 1186, 1190, 1194, 1199, 1203, 1207, 1211, 1215, 1216, 1221, 1225, 1229, 1233, 1234, 1238, 1242, 1247, 1251, 1256, 1261, 1263, 1268, 1276, 1280, 1284, 1288, 1292, 1296, 1300, 1301, 1305, 1309, 1314, 1315, 1316, 1320, 1324, 1328, 1332, 1336, 1341, 1342, 1343, 1348, 1352, 1357, 1363, 1367, 1371, 1375, 1380, 1383, 1386, 1390, 1396, 1400, 1404, 1408, 1413, 1417, 1421, 1425, 1429, 1435, 1439, 1442, 1446, 1450, 1453, 1457, 1461, 1465, 1469, 1470, 1474, 1478, 1482, 1486, 1487, 1488, 1492, 1496, 1498, 1502, 1507, 1510, 1514, 1518, 1522, 1526, 1527, 1531, 1536, 1541, 1545, 1549, 1555, 1560, 1676, 1680, 1684, 1688, 1691, 1695, 1699, 1702, 1709, 1712, 1716, 1720, 1724, 1728, 1732, 1736, 1740, 1744, 1748, 1752, 1756, 1760, 1765, 1769, 1775, 1779, 1783, 1787, 1791, 1796, 1800, 1804, 1808, 1812, 1816, 1819, 1823, 1827, 1831, 1835, 1839, 1843, 1847, 1851, 1855, 1859, 1866, 1869, 1873, 1877, 1881, 1885, 1889, 1893, 1897, 1901, 1905, 1909, 1913, 1918, 1924, 1928, 1932, 1936, 1941, 1945, 1949, 1953, 1957, 1961, 1965, 1969, 1973, 1977, 1981, 1985, 1989, 1993, 1997, 2001, 2005, 2009, 2013, 2019, 2024, 2031, 2035, 2039, 2043, 2047, 2051, 2055, 2059, 2063, 2067, 2070, 2074, 2078, 2082, 2086, 2090, 2094, 2098, 2102, 2106, 2111, 2116, 2120, 2124, 2127, 2132, 2136, 2141, 2145, 2148, 2152, 2156, 2160, 2164].filterMap (fun i => lw_tbl[i]?) := by decide +kernel
theorem ML_gd : (ML.map mlC).all goodWord = true := by decide +kernel
theorem ML_ok : ∀ q ∈ ML, mlC q ∈ WT := pl_ok ML_pl ML_gd
theorem PL_pl : PL.map plC = [142, 150, 209, 242, 267, 291, 331, 348, 369, 401, 427, 485, 569, 603, 613, 716, 801, 808, 899, 913, 1028, 1045, 1053, 1078, 1098, 1260, 1267, 1272, 1275, 1340, 1347, 1356, 1362, 1393, 1497, 1506, 1535, 1540, 1558, 1707, 1708].filterMap (fun i => lw_tbl[i]?) := by decide +kernel
theorem PL_gd : (PL.map plC).all goodWord = true := by decide +kernel
theorem PL_ok : ∀ q ∈ PL, plC q ∈ WT := pl_ok PL_pl PL_gd
def mS_l : List Nat := [40, 80, 81, 106, 107, 115, 116, 209, 210, 211, 212, 217, 220, 221, 222, 223, 225, 227, 230, 231, 253, 271, 319, 332, 337, 345, 346, 347, 348, 349, 350, 351]
theorem mS_pl : mS_l.map (fun j => Cond.static (mN j)) = [1391, 1043, 1047, 585, 588, 1073, 1076, 905, 908, 911, 915, 1440, 1030, 963, 959, 956, 1689, 1561, 1700, 1710, 1817, 1867, 2068, 2125, 2146, 966, 818, 1384, 1508, 1381, 333, 1451].filterMap (fun i => lw_tbl[i]?) := by decide +kernel
theorem mS_gd : (mS_l.map (fun j => Cond.static (mN j))).all goodWord = true := by decide +kernel
theorem mS_ok : ∀ j ∈ mS_l, (fun j => Cond.static (mN j)) j ∈ WT := pl_ok mS_pl mS_gd
def mI_l : List Nat := [0, 1, 2, 3, 4, 5, 6, 7, 8, 9, 10, 11, 12, 13, 14, 15, 16, 17, 18, 19, 20, 21, 22, 23, 24, 25, 26, 27, 28, 29, 30, 31, 32, 33, 34, 35, 36, 37, 38, 39, 41, 42, 43, 44, 45, 46, 47, 48, 49, 50, 51, 52, 53, 54, 55, 56, 57, 58, 59, 60, 61, 62, 63, 64, 65, 66, 67, 68, 69, 70, 71, 72, 73, 74, 75, 76, 77, 78, 79, 82, 83, 84, 85, 86, 87, 88, 89, 90, 91, 92, 93, 94, 95, 96, 97, 98, 99, 100, 101, 102, 103, 104, 105, 108, 109, 110, 111, 112, 113, 114, 117, 118, 119, 120, 121, 122, 123, 124, 125, 126, 127, 128, 129, 130, 131, 132, 133, 134, 135, 136, 137, 138, 139, 140, 141, 142, 143, 144, 145, 146, 147, 148, 149, 150, 151, 152, 153, 154, 155, 156, 157, 158, 159, 160, 161, 162, 163, 164, 165, 166, 167, 168, 169, 170, 171, 172, 173, 174, 175, 176, 177, 178, 179, 180, 181, 182, 183, 184, 185, 186, 187, 188, 189, 190, 191, 192, 193, 194, 195, 196, 197, 198, 199, 200, 201, 202, 203, 204, 205, 206, 207, 208, 213, 214, 215, 216, 218, 219, 224, 226, 228, 229, 232, 233, 234, 235, 236, 237, 238, 239, 240, 241, 242, 243, 244, 245, 246, 247, 248, 249, 250, 251, 252, 254, 255, 256, 257, 258, 259, 260, 261, 262, 263, 264, 265, 266, 267, 268, 269, 270, 272, 273, 274, 275, 276, 277, 278, 279, 280, 281, 282, 283, 284, 285, 286, 287, 288, 289, 290, 291, 292, 293, 294, 295, 296, 297, 298, 299, 300, 301, 302, 303, 304, 305, 306, 307, 308, 309, 310, 311, 312, 313, 314, 315, 316, 317, 318, 320, 321, 322, 323, 324, 325, 326, 327, 328, 329, 330, 331, 333, 334, 335, 336, 338, 339, 340, 341, 342, 343, 344]
theorem mI_pl : mI_l.map (fun j => Cond.instanceMethod (mN j)) = [148, 573, 713, 748, 760, 866, 769, 786, 752, 698, 774, 814, 826, 840, 702, 862, 765, 845, 810, 878, 854, 926, 850, 938, 797, 805, 792, 1145, 1141, 1153, 1165, 1183, 1289, 1285, 1297, 1325, 1430, 425, 1418, 1422, 1337, 1345, 1350, 1359, 1354, 1365, 1369, 1373, 1406, 1377, 1398, 1402, 1410, 1415, 1388, 399, 1277, 1257, 1265, 1270, 329, 1537, 1462, 1479, 1466, 1489, 1475, 1484, 367, 346, 1195, 1503, 1515, 1520, 1200, 1212, 265, 720, 1532, 1050, 1056, 1060, 483, 1235, 1248, 1239, 1244, 1230, 207, 566, 596, 653, 666, 674, 683, 688, 695, 592, 601, 657, 661, 710, 582, 578, 289, 732, 736, 1104, 1129, 1067, 1081, 1116, 1121, 1126, 1085, 1101, 1089, 1094, 240, 728, 831, 836, 821, 875, 870, 887, 896, 953, 948, 976, 985, 993, 998, 1005, 1015, 1025, 1173, 1306, 1311, 140, 546, 558, 740, 744, 756, 778, 782, 858, 883, 892, 901, 918, 922, 930, 934, 944, 972, 981, 989, 1001, 1011, 1021, 1035, 1063, 1108, 1112, 1133, 1137, 1149, 1157, 1161, 1169, 1179, 1187, 1217, 1226, 1252, 1281, 1293, 1302, 1317, 1321, 1329, 1426, 1436, 1443, 1458, 1471, 1493, 1499, 1511, 1523, 1528, 1542, 1546, 1550, 551, 555, 563, 1192, 725, 1040, 1209, 1205, 1223, 1334, 1448, 1455, 1682, 1556, 1677, 1697, 1704, 1693, 1726, 1718, 1742, 1738, 1730, 1722, 1734, 1746, 1750, 1714, 1685, 1753, 1762, 1771, 1757, 1777, 1766, 1780, 1793, 1814, 1825, 1821, 1833, 1829, 1806, 1810, 1802, 1798, 1789, 1784, 1849, 1841, 1845, 1836, 1852, 1856, 1860, 1870, 1874, 1878, 1882, 1891, 1886, 1894, 1898, 1907, 1902, 1910, 1914, 1919, 1930, 1925, 1933, 1951, 1947, 1967, 1959, 1943, 1955, 1937, 1962, 1970, 1979, 1974, 1982, 1986, 1990, 1999, 1994, 2002, 2011, 2006, 2014, 2020, 2037, 2033, 2025, 2045, 2040, 2048, 2057, 2052, 2060, 2064, 2084, 2092, 2088, 2076, 2080, 2071, 2095, 2104, 2099, 2107, 2112, 2122, 2117, 2134, 2128, 2137, 2142, 2149, 2153, 2157, 2161, 2165].filterMap (fun i => lw_tbl[i]?) := by decide +kernel
theorem mI_gd : (mI_l.map (fun j => Cond.instanceMethod (mN j))).all goodWord = true := by decide +kernel
theorem mI_ok : ∀ j ∈ mI_l, (fun j => Cond.instanceMethod (mN j)) j ∈ WT := pl_ok mI_pl mI_gd
def mV_l : List Nat := [1, 2, 3, 4, 5, 6, 7, 8, 9, 10, 11, 12, 13, 14, 15, 16, 17, 18, 19, 20, 21, 22, 23, 24, 25, 26, 27, 28, 29, 30, 31, 32, 33, 34, 35, 36, 38, 39, 41, 42, 43, 44, 45, 46, 47, 48, 49, 50, 51, 52, 53, 54, 55, 57, 58, 59, 60, 62, 63, 64, 65, 66, 67, 68, 71, 72, 73, 74, 75, 76, 78, 79, 82, 83, 84, 86, 87, 88, 89, 90, 92, 93, 94, 95, 96, 97, 98, 99, 100, 101, 102, 103, 104, 105, 108, 110, 111, 112, 113, 114, 117, 118, 119, 120, 121, 122, 123, 124, 126, 127, 128, 129, 130, 131, 132, 133, 134, 135, 136, 137, 138, 139, 140, 141, 142, 143, 144, 145, 147, 148, 149, 150, 151, 152, 153, 154, 155, 156, 157, 158, 159, 160, 161, 162, 163, 164, 165, 166, 167, 168, 169, 170, 171, 172, 173, 174, 175, 176, 177, 178, 179, 180, 181, 182, 183, 184, 185, 186, 187, 188, 189, 190, 191, 192, 193, 194, 195, 196, 197, 198, 199, 200, 201, 202, 203, 204, 205, 206, 207, 208, 213, 214, 215, 216, 218, 219, 224, 228, 229, 232, 233, 234, 235, 236, 237, 238, 239, 240, 241, 242, 243, 244, 245, 246, 247, 248, 249, 250, 251, 252, 254, 255, 256, 257, 258, 259, 260, 261, 262, 263, 264, 265, 266, 267, 268, 269, 270, 272, 273, 274, 275, 276, 277, 278, 279, 280, 281, 282, 283, 284, 285, 286, 287, 288, 289, 290, 291, 292, 293, 294, 295, 296, 297, 298, 299, 300, 301, 302, 303, 304, 305, 306, 307, 308, 309, 310, 311, 312, 313, 314, 315, 316, 317, 318, 320, 321, 322, 323, 324, 325, 326, 327, 328, 329, 330, 331, 333, 334, 335, 336, 338, 339, 340, 341, 342, 343, 344]
theorem mV_pl : mV_l.map (fun j => Cond.selects (mN j).cls (mN j) (mN j)) = [574, 714, 749, 761, 867, 770, 787, 753, 699, 775, 815, 827, 841, 703, 863, 766, 846, 811, 879, 855, 927, 851, 939, 798, 806, 793, 1146, 1142, 1154, 1166, 1184, 1290, 1286, 1298, 1326, 1431, 1419, 1423, 1338, 42, 43, 45, 44, 46, 47, 48, 53, 49, 51, 52, 54, 55, 50, 1278, 1258, 38, 39, 1538, 1463, 1480, 1467, 1490, 1476, 58, 1196, 1504, 1516, 59, 1201, 1213, 721, 1533, 1051, 24, 25, 1236, 1249, 1240, 37, 1231, 567, 6, 8, 11, 12, 13, 14, 15, 5, 7, 9, 10, 16, 4, 3, 733, 737, 1105, 1130, 1068, 26, 1117, 31, 32, 27, 30, 28, 29, 729, 18, 19, 822, 20, 871, 888, 897, 21, 949, 977, 986, 994, 22, 1006, 1016, 1026, 1174, 1307, 40, 547, 559, 741, 745, 757, 779, 783, 859, 884, 893, 902, 919, 923, 931, 935, 945, 973, 982, 990, 1002, 1012, 1022, 1036, 1064, 1109, 1113, 1134, 1138, 1150, 1158, 1162, 1170, 1180, 1188, 1218, 1227, 1253, 1282, 1294, 1303, 1318, 1322, 1330, 1427, 1437, 1444, 1459, 1472, 1494, 1500, 1512, 1524, 1529, 1543, 1547, 1551, 0, 1, 2, 33, 17, 23, 35, 34, 36, 41, 56, 57, 60, 1678, 62, 63, 61, 67, 65, 71, 70, 68, 66, 69, 72, 73, 64, 1686, 1754, 74, 75, 1758, 76, 1767, 1781, 78, 83, 85, 84, 87, 86, 81, 82, 80, 79, 77, 1785, 90, 88, 89, 1837, 1853, 1857, 1861, 1871, 1875, 1879, 1883, 91, 1887, 1895, 1899, 92, 1903, 1911, 1915, 1920, 93, 1926, 1934, 96, 95, 99, 98, 94, 97, 1938, 1963, 1971, 100, 1975, 1983, 1987, 1991, 101, 1995, 2003, 102, 2007, 2015, 2021, 104, 103, 2026, 105, 2041, 2049, 106, 2053, 2061, 2065, 109, 111, 110, 107, 108, 2072, 2096, 112, 2100, 2108, 2113, 113, 2118, 114, 2129, 2138, 2143, 2150, 2154, 2158, 2162, 2166].filterMap (fun i => lw_tbl[i]?) := by decide +kernel
theorem mV_gd : (mV_l.map (fun j => Cond.selects (mN j).cls (mN j) (mN j))).all goodWord = true := by decide +kernel
theorem mV_ok : ∀ j ∈ mV_l, (fun j => Cond.selects (mN j).cls (mN j) (mN j)) j ∈ WT := pl_ok mV_pl mV_gd
def mC_l : List Nat := [0, 1, 2, 3, 4, 5, 6, 7, 8, 9, 10, 11, 12, 13, 14, 15, 16, 17, 18, 19, 20, 21, 22, 23, 24, 25, 26, 27, 28, 29, 30, 31, 32, 33, 34, 35, 36, 37, 38, 39, 40, 41, 42, 43, 44, 45, 46, 47, 48, 49, 50, 51, 52, 53, 54, 55, 56, 57, 58, 59, 60, 61, 62, 63, 64, 65, 66, 67, 68, 69, 70, 71, 72, 73, 74, 75, 76, 77, 78, 79, 80, 81, 82, 83, 84, 85, 86, 87, 88, 89, 90, 91, 92, 93, 94, 95, 96, 97, 98, 99, 100, 101, 102, 103, 104, 105, 106, 107, 108, 109, 110, 111, 112, 113, 114, 115, 116, 117, 118, 119, 120, 121, 122, 123, 124, 125, 126, 127, 128, 129, 130, 131, 132, 133, 134, 135, 136, 137, 138, 139, 140, 141, 142, 143, 144, 145, 146, 147, 148, 149, 150, 151, 152, 153, 154, 155, 156, 157, 158, 159, 160, 161, 162, 163, 164, 165, 166, 167, 168, 169, 170, 171, 172, 173, 174, 175, 176, 177, 178, 179, 180, 181, 182, 183, 184, 185, 186, 187, 188, 189, 190, 191, 192, 193, 194, 195, 196, 197, 198, 199, 200, 201, 202, 203, 204, 205, 206, 207, 208, 209, 210, 211, 212, 213, 214, 215, 216, 217, 218, 219, 220, 221, 222, 223, 224, 225, 226, 227, 228, 229, 230, 231, 232, 233, 234, 235, 236, 237, 238, 239, 240, 241, 242, 243, 244, 245, 246, 247, 248, 249, 250, 251, 252, 253, 254, 255, 256, 257, 258, 259, 260, 261, 262, 263, 264, 265, 266, 267, 268, 269, 270, 271, 272, 273, 274, 275, 276, 277, 278, 279, 280, 281, 282, 283, 284, 285, 286, 287, 288, 289, 290, 291, 292, 293, 294, 295, 296, 297, 298, 299, 300, 301, 302, 303, 304, 305, 306, 307, 308, 309, 310, 311, 312, 313, 314, 315, 316, 317, 318, 319, 320, 321, 322, 323, 324, 325, 326, 327, 328, 329, 330, 331, 332, 333, 334, 335, 336, 337, 338, 339, 340, 341, 342, 343, 344, 345, 346, 347, 348, 349, 350, 351]
theorem mC_pl : mC_l.map (fun j => Cond.initialized (mN j).cls) = [117, 117, 117, 117, 117, 117, 117, 117, 117, 117, 117, 117, 117, 117, 117, 117, 117, 117, 117, 117, 117, 117, 117, 117, 117, 117, 117, 117, 117, 117, 117, 117, 117, 117, 117, 117, 117, 127, 127, 127, 127, 127, 127, 127, 127, 127, 127, 127, 127, 127, 127, 127, 127, 127, 127, 127, 126, 126, 126, 126, 126, 122, 122, 122, 122, 122, 122, 122, 122, 125, 124, 124, 124, 124, 124, 124, 124, 120, 120, 120, 120, 120, 120, 120, 120, 128, 128, 128, 128, 128, 128, 118, 118, 118, 118, 118, 118, 118, 118, 118, 118, 118, 118, 118, 118, 118, 118, 118, 118, 121, 121, 121, 121, 121, 121, 121, 121, 121, 121, 121, 121, 121, 121, 121, 121, 119, 119, 119, 119, 119, 119, 119, 119, 119, 119, 119, 119, 119, 119, 119, 119, 119, 119, 119, 119, 119, 116, 116, 116, 116, 116, 116, 116, 116, 116, 116, 116, 116, 116, 116, 116, 116, 116, 116, 116, 116, 116, 116, 116, 116, 116, 116, 116, 116, 116, 116, 116, 116, 116, 116, 116, 116, 116, 116, 116, 116, 116, 116, 116, 116, 116, 116, 116, 116, 116, 116, 116, 116, 116, 116, 116, 116, 116, 116, 116, 116, 116, 116, 116, 116, 116, 116, 116, 116, 116, 116, 116, 116, 116, 116, 116, 116, 116, 116, 129, 129, 129, 129, 129, 129, 129, 129, 129, 129, 129, 129, 129, 129, 129, 129, 129, 129, 129, 129, 129, 129, 129, 129, 129, 129, 129, 129, 129, 129, 129, 129, 129, 129, 129, 129, 129, 129, 129, 129, 129, 129, 129, 129, 129, 129, 129, 129, 129, 129, 129, 129, 129, 129, 129, 129, 129, 129, 129, 129, 129, 129, 129, 129, 129, 129, 129, 129, 129, 129, 129, 129, 129, 129, 129, 129, 129, 129, 129, 129, 129, 129, 129, 129, 129, 129, 129, 129, 129, 129, 129, 129, 129, 129, 129, 129, 129, 129, 129, 129, 129, 129, 129, 129, 129, 129, 129, 129, 129, 129, 129, 129, 129, 129, 129, 129, 129, 129, 129, 129, 129, 136, 130, 123, 123, 123, 123, 123].filterMap (fun i => lw_tbl[i]?) := by decide +kernel
theorem mC_gd : (mC_l.map (fun j => Cond.initialized (mN j).cls)).all goodWord = true := by decide +kernel
theorem mC_ok : ∀ j ∈ mC_l, (fun j => Cond.initialized (mN j).cls) j ∈ WT := pl_ok mC_pl mC_gd
end
section
theorem tt_1 {w : Cond} (h : w ∈ tables_1_1) : w ∈ lw_tbl := List.mem_append_right _ (show w ∈ tables_1 from List.mem_append_left _ h)
theorem tt_2 {w : Cond} (h : w ∈ tables_1_2) : w ∈ lw_tbl := List.mem_append_right _ (show w ∈ tables_1 from List.mem_append_right _ (List.mem_append_left _ h))
theorem tt_3 {w : Cond} (h : w ∈ tables_1_3) : w ∈ lw_tbl := List.mem_append_right _ (show w ∈ tables_1 from List.mem_append_right _ (List.mem_append_right _ (List.mem_append_left _ h)))
theorem tt_4 {w : Cond} (h : w ∈ tables_1_4) : w ∈ lw_tbl := List.mem_append_right _ (show w ∈ tables_1 from List.mem_append_right _ (List.mem_append_right _ (List.mem_append_right _ (List.mem_append_left _ h))))
theorem tt_5 {w : Cond} (h : w ∈ tables_1_5) : w ∈ lw_tbl := List.mem_append_right _ (show w ∈ tables_1 from List.mem_append_right _ (List.mem_append_right _ (List.mem_append_right _ (List.mem_append_right _ (List.mem_append_left _ h)))))
theorem tt_6 {w : Cond} (h : w ∈ tables_1_6) : w ∈ lw_tbl := List.mem_append_right _ (show w ∈ tables_1 from List.mem_append_right _ (List.mem_append_right _ (List.mem_append_right _ (List.mem_append_right _ (List.mem_append_right _ (List.mem_append_left _ h))))))
theorem tt_7 {w : Cond} (h : w ∈ tables_1_7) : w ∈ lw_tbl := List.mem_append_right _ (show w ∈ tables_1 from List.mem_append_right _ (List.mem_append_right _ (List.mem_append_right _ (List.mem_append_right _ (List.mem_append_right _ (List.mem_append_right _ (List.mem_append_left _ h)))))))
theorem tt_8 {w : Cond} (h : w ∈ tables_1_8) : w ∈ lw_tbl := List.mem_append_right _ (show w ∈ tables_1 from List.mem_append_right _ (List.mem_append_right _ (List.mem_append_right _ (List.mem_append_right _ (List.mem_append_right _ (List.mem_append_right _ (List.mem_append_right _ (List.mem_append_left _ h))))))))
theorem tt_9 {w : Cond} (h : w ∈ tables_1_9) : w ∈ lw_tbl := List.mem_append_right _ (show w ∈ tables_1 from List.mem_append_right _ (List.mem_append_right _ (List.mem_append_right _ (List.mem_append_right _ (List.mem_append_right _ (List.mem_append_right _ (List.mem_append_right _ (List.mem_append_right _ (h)))))))))
theorem mc_0 : Cond.code yX0_init cX0_init 1 none ∈ lw_tbl := tt_1 (List.mem_of_getElem? (i := 34) rfl)
theorem mc_1 : Cond.code yX0_clear cX0_clear 1 none ∈ lw_tbl := tt_2 (List.mem_of_getElem? (i := 220) rfl)
theorem mc_2 : Cond.code yX0_become cX0_become 2 none ∈ lw_tbl := tt_3 (List.mem_of_getElem? (i := 120) rfl)
theorem mc_3 : Cond.code yX0_hasKind cX0_hasKind 2 (some .boolean) ∈ lw_tbl := tt_3 (List.mem_of_getElem? (i := 155) rfl)
theorem mc_4 : Cond.code yX0_hasBand cX0_hasBand 2 (some .boolean) ∈ lw_tbl := tt_3 (List.mem_of_getElem? (i := 167) rfl)
theorem mc_5 : Cond.code yX0_hasStake cX0_hasStake 2 (some .boolean) ∈ lw_tbl := tt_4 (List.mem_of_getElem? (i := 33) rfl)
theorem mc_6 : Cond.code yX0_hasWeaver cX0_hasWeaver 3 (some .boolean) ∈ lw_tbl := tt_3 (List.mem_of_getElem? (i := 176) rfl)
theorem mc_7 : Cond.code yX0_hasCrossing cX0_hasCrossing 4 (some .boolean) ∈ lw_tbl := tt_3 (List.mem_of_getElem? (i := 193) rfl)
theorem mc_8 : Cond.code yX0_ofKind cX0_ofKind 4 (some .int) ∈ lw_tbl := tt_3 (List.mem_of_getElem? (i := 159) rfl)
theorem mc_9 : Cond.code yX0_ofBand cX0_ofBand 4 (some .int) ∈ lw_tbl := tt_3 (List.mem_of_getElem? (i := 105) rfl)
theorem mc_10 : Cond.code yX0_kindOf cX0_kindOf 3 (some .int) ∈ lw_tbl := tt_3 (List.mem_of_getElem? (i := 181) rfl)
theorem mc_11 : Cond.code yX0_ring cX0_ring 1 (some .int) ∈ lw_tbl := tt_3 (List.mem_of_getElem? (i := 221) rfl)
theorem mc_12 : Cond.code yX0_weaversOf cX0_weaversOf 2 (some .int) ∈ lw_tbl := tt_3 (List.mem_of_getElem? (i := 233) rfl)
theorem mc_13 : Cond.code yX0_periodOf cX0_periodOf 2 (some .int) ∈ lw_tbl := tt_4 (List.mem_of_getElem? (i := 7) rfl)
theorem mc_14 : Cond.code yX0_crossingsOf cX0_crossingsOf 2 (some .int) ∈ lw_tbl := tt_3 (List.mem_of_getElem? (i := 109) rfl)
theorem mc_15 : Cond.code yX0_rowsOf cX0_rowsOf 2 (some .int) ∈ lw_tbl := tt_4 (List.mem_of_getElem? (i := 29) rfl)
theorem mc_16 : Cond.code yX0_slipsOfBand cX0_slipsOfBand 4 (some .int) ∈ lw_tbl := tt_3 (List.mem_of_getElem? (i := 172) rfl)
theorem mc_17 : Cond.code yX0_slipsAt cX0_slipsAt 7 (some .int) ∈ lw_tbl := tt_4 (List.mem_of_getElem? (i := 12) rfl)
theorem mc_18 : Cond.code yX0_stakeAt cX0_stakeAt 5 (some .int) ∈ lw_tbl := tt_3 (List.mem_of_getElem? (i := 217) rfl)
theorem mc_19 : Cond.code yX0_offsetOf cX0_offsetOf 5 (some .int) ∈ lw_tbl := tt_4 (List.mem_of_getElem? (i := 45) rfl)
theorem mc_20 : Cond.code yX0_aheadOf cX0_aheadOf 4 (some .int) ∈ lw_tbl := tt_4 (List.mem_of_getElem? (i := 21) rfl)
theorem mc_21 : Cond.code yX0_allCrossings cX0_allCrossings 1 (some .int) ∈ lw_tbl := tt_4 (List.mem_of_getElem? (i := 93) rfl)
theorem mc_22 : Cond.code yX0_whenOf cX0_whenOf 4 (some .int) ∈ lw_tbl := tt_4 (List.mem_of_getElem? (i := 17) rfl)
theorem mc_23 : Cond.code yX0_firstTouch cX0_firstTouch 6 (some .int) ∈ lw_tbl := tt_4 (List.mem_of_getElem? (i := 105) rfl)
theorem mc_24 : Cond.code yX0_rodStep cX0_rodStep 3 (some .int) ∈ lw_tbl := tt_3 (List.mem_of_getElem? (i := 204) rfl)
theorem mc_25 : Cond.code yX0_rodsFor cX0_rodsFor 6 (some .int) ∈ lw_tbl := tt_3 (List.mem_of_getElem? (i := 212) rfl)
theorem mc_26 : Cond.code yX0_rodAt cX0_rodAt 5 (some .int) ∈ lw_tbl := tt_3 (List.mem_of_getElem? (i := 199) rfl)
theorem mc_27 : Cond.code yX0_weaversOfKind cX0_weaversOfKind 5 (some .int) ∈ lw_tbl := tt_5 (List.mem_of_getElem? (i := 72) rfl)
theorem mc_28 : Cond.code yX0_rodsTaken cX0_rodsTaken 4 (some .int) ∈ lw_tbl := tt_5 (List.mem_of_getElem? (i := 68) rfl)
theorem mc_29 : Cond.code yX0_leftOver cX0_leftOver 6 (some .int) ∈ lw_tbl := tt_5 (List.mem_of_getElem? (i := 80) rfl)
theorem mc_30 : Cond.code yX0_cheapestKind cX0_cheapestKind 6 (some .int) ∈ lw_tbl := tt_5 (List.mem_of_getElem? (i := 92) rfl)
theorem mc_31 : Cond.code yX0_longestRod cX0_longestRod 4 (some .int) ∈ lw_tbl := tt_5 (List.mem_of_getElem? (i := 110) rfl)
theorem mc_32 : Cond.code yX0_driesTo cX0_driesTo 2 (some .int) ∈ lw_tbl := tt_5 (List.mem_of_getElem? (i := 216) rfl)
theorem mc_33 : Cond.code yX0_heightOf cX0_heightOf 6 (some .int) ∈ lw_tbl := tt_5 (List.mem_of_getElem? (i := 212) rfl)
theorem mc_34 : Cond.code yX0_loosest cX0_loosest 11 (some .int) ∈ lw_tbl := tt_5 (List.mem_of_getElem? (i := 224) rfl)
theorem mc_35 : Cond.code yX0_widthBehind cX0_widthBehind 4 (some .int) ∈ lw_tbl := tt_6 (List.mem_of_getElem? (i := 12) rfl)
theorem mc_36 : Cond.code yX0_wanderFrom cX0_wanderFrom 9 (some .int) ∈ lw_tbl := tt_6 (List.mem_of_getElem? (i := 117) rfl)
theorem mc_37 : Cond.code yX1_init cX1_init 1 none ∈ lw_tbl := tt_2 (List.mem_of_getElem? (i := 71) rfl)
theorem mc_38 : Cond.code yX1_difference cX1_difference 1 (some .int) ∈ lw_tbl := tt_6 (List.mem_of_getElem? (i := 105) rfl)
theorem mc_39 : Cond.code yX1_leanOf cX1_leanOf 2 (some .int) ∈ lw_tbl := tt_6 (List.mem_of_getElem? (i := 109) rfl)
theorem mc_40 : Cond.code yX1_leanShift cX1_leanShift 1 (some .int) ∈ lw_tbl := tt_6 (List.mem_of_getElem? (i := 77) rfl)
theorem mc_41 : Cond.code yX1_make cX1_make 5 none ∈ lw_tbl := tt_6 (List.mem_of_getElem? (i := 24) rfl)
theorem mc_42 : Cond.code yX1_setRanges cX1_setRanges 5 none ∈ lw_tbl := tt_6 (List.mem_of_getElem? (i := 31) rfl)
theorem mc_43 : Cond.code yX1_costOfTrial cX1_costOfTrial 3 (some .int) ∈ lw_tbl := tt_6 (List.mem_of_getElem? (i := 36) rfl)
theorem mc_44 : Cond.code yX1_tryLean cX1_tryLean 7 none ∈ lw_tbl := tt_6 (List.mem_of_getElem? (i := 45) rfl)
theorem mc_45 : Cond.code yX1_widthBy cX1_widthBy 4 (some .int) ∈ lw_tbl := tt_6 (List.mem_of_getElem? (i := 40) rfl)
theorem mc_46 : Cond.code yX1_narrowRanges cX1_narrowRanges 3 none ∈ lw_tbl := tt_6 (List.mem_of_getElem? (i := 51) rfl)
theorem mc_47 : Cond.code yX1_makeRoom cX1_makeRoom 3 none ∈ lw_tbl := tt_6 (List.mem_of_getElem? (i := 55) rfl)
theorem mc_48 : Cond.code yX1_rowsOf cX1_rowsOf 2 (some .int) ∈ lw_tbl := tt_6 (List.mem_of_getElem? (i := 59) rfl)
theorem mc_49 : Cond.code yX1_wayAt cX1_wayAt 2 (some .long) ∈ lw_tbl := tt_6 (List.mem_of_getElem? (i := 92) rfl)
theorem mc_50 : Cond.code yX1_emptyNext cX1_emptyNext 2 none ∈ lw_tbl := tt_6 (List.mem_of_getElem? (i := 63) rfl)
theorem mc_51 : Cond.code yX1_takeNext cX1_takeNext 2 none ∈ lw_tbl := tt_6 (List.mem_of_getElem? (i := 84) rfl)
theorem mc_52 : Cond.code yX1_goOn cX1_goOn 6 none ∈ lw_tbl := tt_6 (List.mem_of_getElem? (i := 88) rfl)
theorem mc_53 : Cond.code yX1_goOnFrom cX1_goOnFrom 10 none ∈ lw_tbl := tt_6 (List.mem_of_getElem? (i := 96) rfl)
theorem mc_54 : Cond.code yX1_leastNear cX1_leastNear 7 (some .long) ∈ lw_tbl := tt_6 (List.mem_of_getElem? (i := 101) rfl)
theorem mc_55 : Cond.code yX1_goTo cX1_goTo 11 none ∈ lw_tbl := tt_6 (List.mem_of_getElem? (i := 74) rfl)
theorem mc_56 : Cond.code yX2_init cX2_init 1 none ∈ lw_tbl := tt_2 (List.mem_of_getElem? (i := 45) rfl)
theorem mc_57 : Cond.code yX2_rodAtPlace cX2_rodAtPlace 2 (some .int) ∈ lw_tbl := tt_5 (List.mem_of_getElem? (i := 204) rfl)
theorem mc_58 : Cond.code yX2_putRound cX2_putRound 3 none ∈ lw_tbl := tt_5 (List.mem_of_getElem? (i := 184) rfl)
theorem mc_59 : Cond.code yX2_putFrom cX2_putFrom 6 none ∈ lw_tbl := tt_5 (List.mem_of_getElem? (i := 191) rfl)
theorem mc_60 : Cond.code yX2_differenceAt cX2_differenceAt 5 (some .int) ∈ lw_tbl := tt_5 (List.mem_of_getElem? (i := 196) rfl)
theorem mc_61 : Cond.code yX3_init cX3_init 1 none ∈ lw_tbl := tt_1 (List.mem_of_getElem? (i := 215) rfl)
theorem mc_62 : Cond.code yX3_become cX3_become 2 none ∈ lw_tbl := tt_6 (List.mem_of_getElem? (i := 224) rfl)
theorem mc_63 : Cond.code yX3_isHand cX3_isHand 2 (some .boolean) ∈ lw_tbl := tt_6 (List.mem_of_getElem? (i := 149) rfl)
theorem mc_64 : Cond.code yX3_isTold cX3_isTold 2 (some .boolean) ∈ lw_tbl := tt_6 (List.mem_of_getElem? (i := 166) rfl)
theorem mc_65 : Cond.code yX3_tell cX3_tell 4 (some .int) ∈ lw_tbl := tt_6 (List.mem_of_getElem? (i := 153) rfl)
theorem mc_66 : Cond.code yX3_teacherOf cX3_teacherOf 2 (some .int) ∈ lw_tbl := tt_6 (List.mem_of_getElem? (i := 176) rfl)
theorem mc_67 : Cond.code yX3_teachAll cX3_teachAll 5 (some .int) ∈ lw_tbl := tt_6 (List.mem_of_getElem? (i := 162) rfl)
theorem mc_68 : Cond.code yX3_nextTaught cX3_nextTaught 7 (some .int) ∈ lw_tbl := tt_6 (List.mem_of_getElem? (i := 170) rfl)
theorem mc_69 : Cond.code yX4_init cX4_init 1 none ∈ lw_tbl := tt_2 (List.mem_of_getElem? (i := 13) rfl)
theorem mc_70 : Cond.code yX5_init cX5_init 1 none ∈ lw_tbl := tt_1 (List.mem_of_getElem? (i := 232) rfl)
theorem mc_71 : Cond.code yX5_isMissing cX5_isMissing 1 (some .boolean) ∈ lw_tbl := tt_5 (List.mem_of_getElem? (i := 122) rfl)
theorem mc_72 : Cond.code yX5_begin cX5_begin 3 none ∈ lw_tbl := tt_6 (List.mem_of_getElem? (i := 190) rfl)
theorem mc_73 : Cond.code yX5_put cX5_put 4 (some .long) ∈ lw_tbl := tt_6 (List.mem_of_getElem? (i := 202) rfl)
theorem mc_74 : Cond.code yX5_cut cX5_cut 3 (some .long) ∈ lw_tbl := tt_6 (List.mem_of_getElem? (i := 206) rfl)
theorem mc_75 : Cond.code yX5_allWithin cX5_allWithin 6 (some .boolean) ∈ lw_tbl := tt_5 (List.mem_of_getElem? (i := 127) rfl)
theorem mc_76 : Cond.code yX5_intAt cX5_intAt 2 (some .int) ∈ lw_tbl := tt_5 (List.mem_of_getElem? (i := 139) rfl)
theorem mc_77 : Cond.code yX6_init cX6_init 1 none ∈ lw_tbl := tt_1 (List.mem_of_getElem? (i := 151) rfl)
theorem mc_78 : Cond.code yX6_clear cX6_clear 1 none ∈ lw_tbl := tt_3 (List.mem_of_getElem? (i := 127) rfl)
theorem mc_79 : Cond.code yX6_become cX6_become 2 none ∈ lw_tbl := tt_6 (List.mem_of_getElem? (i := 219) rfl)
theorem mc_80 : Cond.code yX6_isPicture cX6_isPicture 8 (some .boolean) ∈ lw_tbl := tt_4 (List.mem_of_getElem? (i := 209) rfl)
theorem mc_81 : Cond.code yX6_isSign cX6_isSign 2 (some .boolean) ∈ lw_tbl := tt_4 (List.mem_of_getElem? (i := 213) rfl)
theorem mc_82 : Cond.code yX6_take cX6_take 9 none ∈ lw_tbl := tt_4 (List.mem_of_getElem? (i := 217) rfl)
theorem mc_83 : Cond.code yX6_takeWished cX6_takeWished 5 none ∈ lw_tbl := tt_4 (List.mem_of_getElem? (i := 222) rfl)
theorem mc_84 : Cond.code yX6_takePrinted cX6_takePrinted 4 none ∈ lw_tbl := tt_4 (List.mem_of_getElem? (i := 226) rfl)
theorem mc_85 : Cond.code yX7_init cX7_init 1 none ∈ lw_tbl := tt_2 (List.mem_of_getElem? (i := 129) rfl)
theorem mc_86 : Cond.code yX7_make cX7_make 7 none ∈ lw_tbl := tt_5 (List.mem_of_getElem? (i := 162) rfl)
theorem mc_87 : Cond.code yX7_strandAt cX7_strandAt 3 (some .int) ∈ lw_tbl := tt_5 (List.mem_of_getElem? (i := 175) rfl)
theorem mc_88 : Cond.code yX7_orderOf cX7_orderOf 5 (some .int) ∈ lw_tbl := tt_5 (List.mem_of_getElem? (i := 166) rfl)
theorem mc_89 : Cond.code yX7_ringOf cX7_ringOf 4 (some .int) ∈ lw_tbl := tt_5 (List.mem_of_getElem? (i := 170) rfl)
theorem mc_90 : Cond.code yX7_leftOf cX7_leftOf 5 (some .int) ∈ lw_tbl := tt_5 (List.mem_of_getElem? (i := 157) rfl)
theorem mc_91 : Cond.code yX8_init cX8_init 1 none ∈ lw_tbl := tt_1 (List.mem_of_getElem? (i := 93) rfl)
theorem mc_92 : Cond.code yX8_readBasket cX8_readBasket 5 (some .boolean) ∈ lw_tbl := tt_2 (List.mem_of_getElem? (i := 213) rfl)
theorem mc_93 : Cond.code yX8_readLine cX8_readLine 2 none ∈ lw_tbl := tt_3 (List.mem_of_getElem? (i := 2) rfl)
theorem mc_94 : Cond.code yX8_readStakes cX8_readStakes 2 none ∈ lw_tbl := tt_3 (List.mem_of_getElem? (i := 59) rfl)
theorem mc_95 : Cond.code yX8_readRod cX8_readRod 3 none ∈ lw_tbl := tt_3 (List.mem_of_getElem? (i := 72) rfl)
theorem mc_96 : Cond.code yX8_readBand cX8_readBand 5 none ∈ lw_tbl := tt_3 (List.mem_of_getElem? (i := 80) rfl)
theorem mc_97 : Cond.code yX8_takeLeft cX8_takeLeft 1 (some .int) ∈ lw_tbl := tt_3 (List.mem_of_getElem? (i := 89) rfl)
theorem mc_98 : Cond.code yX8_takeLean cX8_takeLean 1 (some .int) ∈ lw_tbl := tt_3 (List.mem_of_getElem? (i := 94) rfl)
theorem mc_99 : Cond.code yX8_readSlip cX8_readSlip 4 none ∈ lw_tbl := tt_3 (List.mem_of_getElem? (i := 101) rfl)
theorem mc_100 : Cond.code yX8_fail cX8_fail 2 none ∈ lw_tbl := tt_2 (List.mem_of_getElem? (i := 238) rfl)
theorem mc_101 : Cond.code yX8_isWord cX8_isWord 3 (some .boolean) ∈ lw_tbl := tt_3 (List.mem_of_getElem? (i := 7) rfl)
theorem mc_102 : Cond.code yX8_takeWord cX8_takeWord 2 none ∈ lw_tbl := tt_3 (List.mem_of_getElem? (i := 63) rfl)
theorem mc_103 : Cond.code yX8_takeNumber cX8_takeNumber 4 (some .int) ∈ lw_tbl := tt_3 (List.mem_of_getElem? (i := 67) rfl)
theorem mc_104 : Cond.code yX8_takeSign cX8_takeSign 1 none ∈ lw_tbl := tt_3 (List.mem_of_getElem? (i := 116) rfl)
theorem mc_105 : Cond.code yX8_byteAt cX8_byteAt 2 (some .int) ∈ lw_tbl := tt_2 (List.mem_of_getElem? (i := 228) rfl)
theorem mc_106 : Cond.code yX8_isLetter cX8_isLetter 1 (some .boolean) ∈ lw_tbl := tt_2 (List.mem_of_getElem? (i := 231) rfl)
theorem mc_107 : Cond.code yX8_isDigit cX8_isDigit 1 (some .boolean) ∈ lw_tbl := tt_2 (List.mem_of_getElem? (i := 234) rfl)
theorem mc_108 : Cond.code yX8_advance cX8_advance 2 none ∈ lw_tbl := tt_2 (List.mem_of_getElem? (i := 224) rfl)
theorem mc_109 : Cond.code yX9_init cX9_init 1 none ∈ lw_tbl := tt_1 (List.mem_of_getElem? (i := 175) rfl)
theorem mc_110 : Cond.code yX9_forgetWish cX9_forgetWish 1 none ∈ lw_tbl := tt_3 (List.mem_of_getElem? (i := 139) rfl)
theorem mc_111 : Cond.code yX9_forgetPrint cX9_forgetPrint 1 none ∈ lw_tbl := tt_3 (List.mem_of_getElem? (i := 143) rfl)
theorem mc_112 : Cond.code yX9_ofMaker cX9_ofMaker 2 (some .int) ∈ lw_tbl := tt_5 (List.mem_of_getElem? (i := 31) rfl)
theorem mc_113 : Cond.code yX9_ofReader cX9_ofReader 4 (some .int) ∈ lw_tbl := tt_5 (List.mem_of_getElem? (i := 56) rfl)
theorem mc_114 : Cond.code yX9_makeKnown cX9_makeKnown 4 none ∈ lw_tbl := tt_4 (List.mem_of_getElem? (i := 234) rfl)
theorem mc_115 : Cond.code yX9_kindsAgree cX9_kindsAgree 3 (some .boolean) ∈ lw_tbl := tt_4 (List.mem_of_getElem? (i := 239) rfl)
theorem mc_116 : Cond.code yX9_kindOfWeaver cX9_kindOfWeaver 6 (some .int) ∈ lw_tbl := tt_5 (List.mem_of_getElem? (i := 2) rfl)
theorem mc_117 : Cond.code yX9_makeWith cX9_makeWith 6 none ∈ lw_tbl := tt_5 (List.mem_of_getElem? (i := 7) rfl)
theorem mc_118 : Cond.code yX9_readKnown cX9_readKnown 7 none ∈ lw_tbl := tt_5 (List.mem_of_getElem? (i := 43) rfl)
theorem mc_119 : Cond.code yX9_readSide cX9_readSide 3 none ∈ lw_tbl := tt_5 (List.mem_of_getElem? (i := 47) rfl)
theorem mc_120 : Cond.code yX9_readWith cX9_readWith 6 none ∈ lw_tbl := tt_5 (List.mem_of_getElem? (i := 52) rfl)
theorem mc_121 : Cond.code yX9_begin cX9_begin 2 none ∈ lw_tbl := tt_5 (List.mem_of_getElem? (i := 11) rfl)
theorem mc_122 : Cond.code yX9_goOn cX9_goOn 1 (some .boolean) ∈ lw_tbl := tt_5 (List.mem_of_getElem? (i := 27) rfl)
theorem mc_123 : Cond.code yX9_weaveRounds cX9_weaveRounds 6 none ∈ lw_tbl := tt_5 (List.mem_of_getElem? (i := 15) rfl)
theorem mc_124 : Cond.code yX9_mistakesOf cX9_mistakesOf 7 (some .int) ∈ lw_tbl := tt_5 (List.mem_of_getElem? (i := 20) rfl)
theorem mc_125 : Cond.code yX10_init cX10_init 2 none ∈ lw_tbl := tt_1 (List.mem_of_getElem? (i := 126) rfl)
theorem mc_126 : Cond.code yX10_forget cX10_forget 1 none ∈ lw_tbl := tt_3 (List.mem_of_getElem? (i := 135) rfl)
theorem mc_127 : Cond.code yX10_rowBits cX10_rowBits 4 (some .int) ∈ lw_tbl := tt_3 (List.mem_of_getElem? (i := 237) rfl)
theorem mc_128 : Cond.code yX10_weaveOne cX10_weaveOne 12 none ∈ lw_tbl := tt_4 (List.mem_of_getElem? (i := 2) rfl)
theorem mc_129 : Cond.code yX10_goesOver cX10_goesOver 6 (some .boolean) ∈ lw_tbl := tt_3 (List.mem_of_getElem? (i := 228) rfl)
theorem mc_130 : Cond.code yX10_overAt cX10_overAt 5 (some .boolean) ∈ lw_tbl := tt_4 (List.mem_of_getElem? (i := 41) rfl)
theorem mc_131 : Cond.code yX10_kindSeen cX10_kindSeen 5 (some .int) ∈ lw_tbl := tt_4 (List.mem_of_getElem? (i := 37) rfl)
theorem mc_132 : Cond.code yX10_oversAt cX10_oversAt 5 (some .int) ∈ lw_tbl := tt_4 (List.mem_of_getElem? (i := 54) rfl)
theorem mc_133 : Cond.code yX10_longestRun cX10_longestRun 8 (some .int) ∈ lw_tbl := tt_4 (List.mem_of_getElem? (i := 63) rfl)
theorem mc_134 : Cond.code yX10_stakeBits cX10_stakeBits 7 (some .int) ∈ lw_tbl := tt_4 (List.mem_of_getElem? (i := 119) rfl)
theorem mc_135 : Cond.code yX10_alike cX10_alike 5 (some .int) ∈ lw_tbl := tt_4 (List.mem_of_getElem? (i := 115) rfl)
theorem mc_136 : Cond.code yX10_bestFrom cX10_bestFrom 6 (some .int) ∈ lw_tbl := tt_4 (List.mem_of_getElem? (i := 143) rfl)
theorem mc_137 : Cond.code yX10_turnBetween cX10_turnBetween 9 (some .int) ∈ lw_tbl := tt_4 (List.mem_of_getElem? (i := 152) rfl)
theorem mc_138 : Cond.code yX10_rowsTillAgain cX10_rowsTillAgain 4 (some .int) ∈ lw_tbl := tt_4 (List.mem_of_getElem? (i := 160) rfl)
theorem mc_139 : Cond.code yX10_sameBehind cX10_sameBehind 5 (some .boolean) ∈ lw_tbl := tt_4 (List.mem_of_getElem? (i := 164) rfl)
theorem mc_140 : Cond.code yX10_mostSeen cX10_mostSeen 6 (some .int) ∈ lw_tbl := tt_4 (List.mem_of_getElem? (i := 172) rfl)
theorem mc_141 : Cond.code yX10_longStretches cX10_longStretches 9 (some .int) ∈ lw_tbl := tt_4 (List.mem_of_getElem? (i := 182) rfl)
theorem mc_142 : Cond.code yX10_learnerDoes cX10_learnerDoes 18 (some .int) ∈ lw_tbl := tt_4 (List.mem_of_getElem? (i := 192) rfl)
theorem mc_143 : Cond.code yX10_joinsOf cX10_joinsOf 10 (some .int) ∈ lw_tbl := tt_5 (List.mem_of_getElem? (i := 100) rfl)
theorem mc_144 : Cond.code yX10_holdOf cX10_holdOf 5 (some .int) ∈ lw_tbl := tt_5 (List.mem_of_getElem? (i := 233) rfl)
theorem mc_145 : Cond.code yX10_changesOf cX10_changesOf 8 (some .int) ∈ lw_tbl := tt_5 (List.mem_of_getElem? (i := 237) rfl)
theorem mc_146 : Cond.code yX11_init cX11_init 1 none ∈ lw_tbl := tt_1 (List.mem_of_getElem? (i := 26) rfl)
theorem mc_147 : Cond.code yX11_feed cX11_feed 6 (some .int) ∈ lw_tbl := tt_2 (List.mem_of_getElem? (i := 193) rfl)
theorem mc_148 : Cond.code yX11_basket cX11_basket 2 (some .int) ∈ lw_tbl := tt_2 (List.mem_of_getElem? (i := 205) rfl)
theorem mc_149 : Cond.code yX11_fault cX11_fault 2 (some .int) ∈ lw_tbl := tt_3 (List.mem_of_getElem? (i := 147) rfl)
theorem mc_150 : Cond.code yX11_rod cX11_rod 3 (some .int) ∈ lw_tbl := tt_3 (List.mem_of_getElem? (i := 151) rfl)
theorem mc_151 : Cond.code yX11_band cX11_band 4 (some .int) ∈ lw_tbl := tt_3 (List.mem_of_getElem? (i := 163) rfl)
theorem mc_152 : Cond.code yX11_lean cX11_lean 2 (some .int) ∈ lw_tbl := tt_3 (List.mem_of_getElem? (i := 185) rfl)
theorem mc_153 : Cond.code yX11_crossing cX11_crossing 6 (some .int) ∈ lw_tbl := tt_3 (List.mem_of_getElem? (i := 189) rfl)
theorem mc_154 : Cond.code yX11_seen cX11_seen 5 (some .int) ∈ lw_tbl := tt_4 (List.mem_of_getElem? (i := 25) rfl)
theorem mc_155 : Cond.code yX11_overs cX11_overs 3 (some .int) ∈ lw_tbl := tt_4 (List.mem_of_getElem? (i := 50) rfl)
theorem mc_156 : Cond.code yX11_run cX11_run 3 (some .int) ∈ lw_tbl := tt_4 (List.mem_of_getElem? (i := 59) rfl)
theorem mc_157 : Cond.code yX11_step cX11_step 6 (some .int) ∈ lw_tbl := tt_4 (List.mem_of_getElem? (i := 68) rfl)
theorem mc_158 : Cond.code yX11_counts cX11_counts 9 (some .int) ∈ lw_tbl := tt_4 (List.mem_of_getElem? (i := 85) rfl)
theorem mc_159 : Cond.code yX11_total cX11_total 1 (some .int) ∈ lw_tbl := tt_4 (List.mem_of_getElem? (i := 89) rfl)
theorem mc_160 : Cond.code yX11_undo cX11_undo 6 (some .int) ∈ lw_tbl := tt_4 (List.mem_of_getElem? (i := 97) rfl)
theorem mc_161 : Cond.code yX11_mend cX11_mend 4 (some .int) ∈ lw_tbl := tt_4 (List.mem_of_getElem? (i := 101) rfl)
theorem mc_162 : Cond.code yX11_seam cX11_seam 2 (some .int) ∈ lw_tbl := tt_4 (List.mem_of_getElem? (i := 111) rfl)
theorem mc_163 : Cond.code yX11_turn cX11_turn 2 (some .int) ∈ lw_tbl := tt_4 (List.mem_of_getElem? (i := 139) rfl)
theorem mc_164 : Cond.code yX11_spiral cX11_spiral 4 (some .int) ∈ lw_tbl := tt_4 (List.mem_of_getElem? (i := 148) rfl)
theorem mc_165 : Cond.code yX11_repeats cX11_repeats 2 (some .int) ∈ lw_tbl := tt_4 (List.mem_of_getElem? (i := 156) rfl)
theorem mc_166 : Cond.code yX11_colour cX11_colour 4 (some .int) ∈ lw_tbl := tt_4 (List.mem_of_getElem? (i := 168) rfl)
theorem mc_167 : Cond.code yX11_floats cX11_floats 3 (some .int) ∈ lw_tbl := tt_4 (List.mem_of_getElem? (i := 178) rfl)
theorem mc_168 : Cond.code yX11_learner cX11_learner 5 (some .int) ∈ lw_tbl := tt_4 (List.mem_of_getElem? (i := 188) rfl)
theorem mc_169 : Cond.code yX11_wish cX11_wish 2 (some .int) ∈ lw_tbl := tt_4 (List.mem_of_getElem? (i := 202) rfl)
theorem mc_170 : Cond.code yX11_find cX11_find 4 (some .int) ∈ lw_tbl := tt_4 (List.mem_of_getElem? (i := 230) rfl)
theorem mc_171 : Cond.code yX11_print cX11_print 2 (some .int) ∈ lw_tbl := tt_5 (List.mem_of_getElem? (i := 35) rfl)
theorem mc_172 : Cond.code yX11_reads cX11_reads 3 (some .int) ∈ lw_tbl := tt_5 (List.mem_of_getElem? (i := 39) rfl)
theorem mc_173 : Cond.code yX11_nearest cX11_nearest 3 (some .int) ∈ lw_tbl := tt_5 (List.mem_of_getElem? (i := 60) rfl)
theorem mc_174 : Cond.code yX11_rods cX11_rods 2 (some .int) ∈ lw_tbl := tt_5 (List.mem_of_getElem? (i := 64) rfl)
theorem mc_175 : Cond.code yX11_waste cX11_waste 2 (some .int) ∈ lw_tbl := tt_5 (List.mem_of_getElem? (i := 76) rfl)
theorem mc_176 : Cond.code yX11_cost cX11_cost 3 (some .int) ∈ lw_tbl := tt_5 (List.mem_of_getElem? (i := 84) rfl)
theorem mc_177 : Cond.code yX11_cheaper cX11_cheaper 2 (some .int) ∈ lw_tbl := tt_5 (List.mem_of_getElem? (i := 88) rfl)
theorem mc_178 : Cond.code yX11_joins cX11_joins 3 (some .int) ∈ lw_tbl := tt_5 (List.mem_of_getElem? (i := 96) rfl)
theorem mc_179 : Cond.code yX11_hide cX11_hide 8 (some .int) ∈ lw_tbl := tt_5 (List.mem_of_getElem? (i := 106) rfl)
theorem mc_180 : Cond.code yX11_reach cX11_reach 6 (some .int) ∈ lw_tbl := tt_5 (List.mem_of_getElem? (i := 114) rfl)
theorem mc_181 : Cond.code yX11_nest cX11_nest 4 (some .int) ∈ lw_tbl := tt_5 (List.mem_of_getElem? (i := 144) rfl)
theorem mc_182 : Cond.code yX11_plait cX11_plait 6 (some .int) ∈ lw_tbl := tt_5 (List.mem_of_getElem? (i := 153) rfl)
theorem mc_183 : Cond.code yX11_even cX11_even 5 (some .int) ∈ lw_tbl := tt_5 (List.mem_of_getElem? (i := 179) rfl)
theorem mc_184 : Cond.code yX11_height cX11_height 5 (some .int) ∈ lw_tbl := tt_5 (List.mem_of_getElem? (i := 208) rfl)
theorem mc_185 : Cond.code yX11_loose cX11_loose 1 (some .int) ∈ lw_tbl := tt_5 (List.mem_of_getElem? (i := 220) rfl)
theorem mc_186 : Cond.code yX11_hold cX11_hold 2 (some .int) ∈ lw_tbl := tt_5 (List.mem_of_getElem? (i := 229) rfl)
theorem mc_187 : Cond.code yX11_gives cX11_gives 4 (some .int) ∈ lw_tbl := tt_6 (List.mem_of_getElem? (i := 4) rfl)
theorem mc_188 : Cond.code yX11_width cX11_width 2 (some .int) ∈ lw_tbl := tt_6 (List.mem_of_getElem? (i := 8) rfl)
theorem mc_189 : Cond.code yX11_bowl cX11_bowl 4 (some .int) ∈ lw_tbl := tt_6 (List.mem_of_getElem? (i := 16) rfl)
theorem mc_190 : Cond.code yX11_wander cX11_wander 3 (some .int) ∈ lw_tbl := tt_6 (List.mem_of_getElem? (i := 113) rfl)
theorem mc_191 : Cond.code yX11_closes cX11_closes 4 (some .int) ∈ lw_tbl := tt_6 (List.mem_of_getElem? (i := 123) rfl)
theorem mc_192 : Cond.code yX11_border cX11_border 4 (some .int) ∈ lw_tbl := tt_6 (List.mem_of_getElem? (i := 130) rfl)
theorem mc_193 : Cond.code yX11_ways cX11_ways 3 (some .int) ∈ lw_tbl := tt_6 (List.mem_of_getElem? (i := 145) rfl)
theorem mc_194 : Cond.code yX11_taught cX11_taught 2 (some .int) ∈ lw_tbl := tt_6 (List.mem_of_getElem? (i := 158) rfl)
theorem mc_195 : Cond.code yX11_lid cX11_lid 10 (some .int) ∈ lw_tbl := tt_6 (List.mem_of_getElem? (i := 180) rfl)
theorem mc_196 : Cond.code yX11_numbers cX11_numbers 4 (some .int) ∈ lw_tbl := tt_6 (List.mem_of_getElem? (i := 186) rfl)
theorem mc_197 : Cond.code yX11_write cX11_write 6 (some .long) ∈ lw_tbl := tt_6 (List.mem_of_getElem? (i := 198) rfl)
theorem mc_198 : Cond.code yX11_copy cX11_copy 8 (some .int) ∈ lw_tbl := tt_6 (List.mem_of_getElem? (i := 210) rfl)
theorem mc_199 : Cond.code yX11_image cX11_image 3 (some .int) ∈ lw_tbl := tt_6 (List.mem_of_getElem? (i := 215) rfl)
theorem mc_200 : Cond.code yX11_restore cX11_restore 3 (some .int) ∈ lw_tbl := tt_6 (List.mem_of_getElem? (i := 229) rfl)
theorem mc_201 : Cond.code yX11_status cX11_status 2 (some .int) ∈ lw_tbl := tt_6 (List.mem_of_getElem? (i := 233) rfl)
theorem mc_202 : Cond.code yX11_count cX11_count 2 (some .int) ∈ lw_tbl := tt_6 (List.mem_of_getElem? (i := 237) rfl)
theorem mc_203 : Cond.code yX11_refuse cX11_refuse 2 (some .int) ∈ lw_tbl := tt_2 (List.mem_of_getElem? (i := 197) rfl)
theorem mc_204 : Cond.code yX11_putBytes cX11_putBytes 3 none ∈ lw_tbl := tt_2 (List.mem_of_getElem? (i := 201) rfl)
theorem mc_205 : Cond.code yX11_onTape cX11_onTape 2 (some .boolean) ∈ lw_tbl := tt_2 (List.mem_of_getElem? (i := 209) rfl)
theorem mc_206 : Cond.code yX11_isRow cX11_isRow 2 (some .boolean) ∈ lw_tbl := tt_5 (List.mem_of_getElem? (i := 118) rfl)
theorem mc_207 : Cond.code yX11_forgetAnswers cX11_forgetAnswers 1 none ∈ lw_tbl := tt_3 (List.mem_of_getElem? (i := 131) rfl)
theorem mc_208 : Cond.code yX11_takePicture cX11_takePicture 4 (some .int) ∈ lw_tbl := tt_4 (List.mem_of_getElem? (i := 206) rfl)
theorem mc_209 : Cond.code yX11_stakesCan cX11_stakesCan 1 (some .boolean) ∈ lw_tbl := tt_4 (List.mem_of_getElem? (i := 71) rfl)
theorem mc_210 : Cond.code yX11_strokeCan cX11_strokeCan 2 (some .boolean) ∈ lw_tbl := tt_4 (List.mem_of_getElem? (i := 74) rfl)
theorem mc_211 : Cond.code yX11_commonDivisor cX11_commonDivisor 6 (some .int) ∈ lw_tbl := tt_4 (List.mem_of_getElem? (i := 77) rfl)
theorem mc_212 : Cond.code yX11_turnsOver cX11_turnsOver 4 (some .boolean) ∈ lw_tbl := tt_4 (List.mem_of_getElem? (i := 81) rfl)
theorem mc_213 : Cond.code yX11_coveredBy cX11_coveredBy 5 (some .int) ∈ lw_tbl := tt_5 (List.mem_of_getElem? (i := 135) rfl)
theorem mc_214 : Cond.code yX11_fewestThatReach cX11_fewestThatReach 10 (some .int) ∈ lw_tbl := tt_5 (List.mem_of_getElem? (i := 131) rfl)
theorem mc_215 : Cond.code yX11_mostNested cX11_mostNested 6 (some .int) ∈ lw_tbl := tt_5 (List.mem_of_getElem? (i := 149) rfl)
theorem mc_216 : Cond.code yX11_bowlCan cX11_bowlCan 5 (some .boolean) ∈ lw_tbl := tt_6 (List.mem_of_getElem? (i := 20) rfl)
theorem mc_217 : Cond.code yX11_isClosed cX11_isClosed 8 (some .boolean) ∈ lw_tbl := tt_6 (List.mem_of_getElem? (i := 126) rfl)
theorem mc_218 : Cond.code yX11_bordersThatClose cX11_bordersThatClose 12 (some .int) ∈ lw_tbl := tt_6 (List.mem_of_getElem? (i := 134) rfl)
theorem mc_219 : Cond.code yX11_nextMoves cX11_nextMoves 4 (some .boolean) ∈ lw_tbl := tt_6 (List.mem_of_getElem? (i := 141) rfl)
theorem mc_220 : Cond.code yX11_drawn cX11_drawn 1 (some .int) ∈ lw_tbl := tt_4 (List.mem_of_getElem? (i := 196) rfl)
theorem mc_221 : Cond.code yX11_maskOf cX11_maskOf 1 (some .int) ∈ lw_tbl := tt_4 (List.mem_of_getElem? (i := 129) rfl)
theorem mc_222 : Cond.code yX11_turned cX11_turned 4 (some .int) ∈ lw_tbl := tt_4 (List.mem_of_getElem? (i := 125) rfl)
theorem mc_223 : Cond.code yX11_mirrored cX11_mirrored 4 (some .int) ∈ lw_tbl := tt_4 (List.mem_of_getElem? (i := 122) rfl)
theorem mc_224 : Cond.code yX12_no cX12_no 2 (some .int) ∈ lw_tbl := tt_7 (List.mem_of_getElem? (i := 128) rfl)
theorem mc_225 : Cond.code yX12_within cX12_within 6 (some .boolean) ∈ lw_tbl := tt_7 (List.mem_of_getElem? (i := 135) rfl)
theorem mc_226 : Cond.code yX12_init cX12_init 2 none ∈ lw_tbl := tt_7 (List.mem_of_getElem? (i := 2) rfl)
theorem mc_227 : Cond.code yX12_plain cX12_plain 2 none ∈ lw_tbl := tt_7 (List.mem_of_getElem? (i := 7) rfl)
theorem mc_228 : Cond.code yX12_feed cX12_feed 8 (some .int) ∈ lw_tbl := tt_7 (List.mem_of_getElem? (i := 124) rfl)
theorem mc_229 : Cond.code yX12_see cX12_see 2 (some .int) ∈ lw_tbl := tt_7 (List.mem_of_getElem? (i := 143) rfl)
theorem mc_230 : Cond.code yX12_isSmall cX12_isSmall 1 (some .boolean) ∈ lw_tbl := tt_7 (List.mem_of_getElem? (i := 146) rfl)
theorem mc_231 : Cond.code yX12_isDigit cX12_isDigit 1 (some .boolean) ∈ lw_tbl := tt_7 (List.mem_of_getElem? (i := 156) rfl)
theorem mc_232 : Cond.code yX12_keyAt cX12_keyAt 4 (some .int) ∈ lw_tbl := tt_7 (List.mem_of_getElem? (i := 150) rfl)
theorem mc_233 : Cond.code yX12_next cX12_next 1 none ∈ lw_tbl := tt_7 (List.mem_of_getElem? (i := 139) rfl)
theorem mc_234 : Cond.code yX12_fails cX12_fails 2 none ∈ lw_tbl := tt_7 (List.mem_of_getElem? (i := 172) rfl)
theorem mc_235 : Cond.code yX12_is cX12_is 2 (some .boolean) ∈ lw_tbl := tt_7 (List.mem_of_getElem? (i := 164) rfl)
theorem mc_236 : Cond.code yX12_eats cX12_eats 2 (some .boolean) ∈ lw_tbl := tt_7 (List.mem_of_getElem? (i := 188) rfl)
theorem mc_237 : Cond.code yX12_needs cX12_needs 2 none ∈ lw_tbl := tt_7 (List.mem_of_getElem? (i := 184) rfl)
theorem mc_238 : Cond.code yX12_takes cX12_takes 4 (some .int) ∈ lw_tbl := tt_7 (List.mem_of_getElem? (i := 176) rfl)
theorem mc_239 : Cond.code yX12_readStakes cX12_readStakes 1 none ∈ lw_tbl := tt_7 (List.mem_of_getElem? (i := 168) rfl)
theorem mc_240 : Cond.code yX12_readRod cX12_readRod 2 none ∈ lw_tbl := tt_7 (List.mem_of_getElem? (i := 180) rfl)
theorem mc_241 : Cond.code yX12_readBand cX12_readBand 4 none ∈ lw_tbl := tt_7 (List.mem_of_getElem? (i := 192) rfl)
theorem mc_242 : Cond.code yX12_readSlip cX12_readSlip 5 none ∈ lw_tbl := tt_7 (List.mem_of_getElem? (i := 196) rfl)
theorem mc_243 : Cond.code yX12_readLine cX12_readLine 1 none ∈ lw_tbl := tt_7 (List.mem_of_getElem? (i := 160) rfl)
theorem mc_244 : Cond.code yX12_basket cX12_basket 3 (some .int) ∈ lw_tbl := tt_7 (List.mem_of_getElem? (i := 132) rfl)
theorem mc_245 : Cond.code yX12_fault cX12_fault 2 (some .int) ∈ lw_tbl := tt_7 (List.mem_of_getElem? (i := 200) rfl)
theorem mc_246 : Cond.code yX12_isKind cX12_isKind 2 (some .boolean) ∈ lw_tbl := tt_7 (List.mem_of_getElem? (i := 208) rfl)
theorem mc_247 : Cond.code yX12_isBand cX12_isBand 2 (some .boolean) ∈ lw_tbl := tt_7 (List.mem_of_getElem? (i := 217) rfl)
theorem mc_248 : Cond.code yX12_rod cX12_rod 3 (some .int) ∈ lw_tbl := tt_7 (List.mem_of_getElem? (i := 204) rfl)
theorem mc_249 : Cond.code yX12_slipsOf cX12_slipsOf 4 (some .int) ∈ lw_tbl := tt_7 (List.mem_of_getElem? (i := 223) rfl)
theorem mc_250 : Cond.code yX12_band cX12_band 3 (some .int) ∈ lw_tbl := tt_7 (List.mem_of_getElem? (i := 213) rfl)
theorem mc_251 : Cond.code yX12_lean cX12_lean 2 (some .int) ∈ lw_tbl := tt_7 (List.mem_of_getElem? (i := 227) rfl)
theorem mc_252 : Cond.code yX12_crossingsOf cX12_crossingsOf 2 (some .int) ∈ lw_tbl := tt_7 (List.mem_of_getElem? (i := 239) rfl)
theorem mc_253 : Cond.code yX12_round cX12_round 3 (some .int) ∈ lw_tbl := tt_8 (List.mem_of_getElem? (i := 23) rfl)
theorem mc_254 : Cond.code yX12_stakeAt cX12_stakeAt 4 (some .int) ∈ lw_tbl := tt_8 (List.mem_of_getElem? (i := 20) rfl)
theorem mc_255 : Cond.code yX12_placeIn cX12_placeIn 6 (some .int) ∈ lw_tbl := tt_8 (List.mem_of_getElem? (i := 31) rfl)
theorem mc_256 : Cond.code yX12_isOver cX12_isOver 4 (some .boolean) ∈ lw_tbl := tt_8 (List.mem_of_getElem? (i := 27) rfl)
theorem mc_257 : Cond.code yX12_allAhead cX12_allAhead 4 (some .int) ∈ lw_tbl := tt_8 (List.mem_of_getElem? (i := 39) rfl)
theorem mc_258 : Cond.code yX12_when cX12_when 4 (some .int) ∈ lw_tbl := tt_8 (List.mem_of_getElem? (i := 35) rfl)
theorem mc_259 : Cond.code yX12_stepOf cX12_stepOf 3 (some .int) ∈ lw_tbl := tt_8 (List.mem_of_getElem? (i := 12) rfl)
theorem mc_260 : Cond.code yX12_rodsFor cX12_rodsFor 5 (some .int) ∈ lw_tbl := tt_8 (List.mem_of_getElem? (i := 16) rfl)
theorem mc_261 : Cond.code yX12_kindOf cX12_kindOf 3 (some .int) ∈ lw_tbl := tt_8 (List.mem_of_getElem? (i := 8) rfl)
theorem mc_262 : Cond.code yX12_rodAt cX12_rodAt 6 (some .int) ∈ lw_tbl := tt_8 (List.mem_of_getElem? (i := 4) rfl)
theorem mc_263 : Cond.code yX12_isCrossing cX12_isCrossing 4 (some .boolean) ∈ lw_tbl := tt_7 (List.mem_of_getElem? (i := 235) rfl)
theorem mc_264 : Cond.code yX12_crossing cX12_crossing 6 (some .int) ∈ lw_tbl := tt_7 (List.mem_of_getElem? (i := 231) rfl)
theorem mc_265 : Cond.code yX12_indexAt cX12_indexAt 6 (some .int) ∈ lw_tbl := tt_8 (List.mem_of_getElem? (i := 55) rfl)
theorem mc_266 : Cond.code yX12_isStake cX12_isStake 2 (some .boolean) ∈ lw_tbl := tt_8 (List.mem_of_getElem? (i := 47) rfl)
theorem mc_267 : Cond.code yX12_isOverIn cX12_isOverIn 5 (some .boolean) ∈ lw_tbl := tt_8 (List.mem_of_getElem? (i := 51) rfl)
theorem mc_268 : Cond.code yX12_seen cX12_seen 5 (some .int) ∈ lw_tbl := tt_8 (List.mem_of_getElem? (i := 43) rfl)
theorem mc_269 : Cond.code yX12_overs cX12_overs 5 (some .int) ∈ lw_tbl := tt_8 (List.mem_of_getElem? (i := 59) rfl)
theorem mc_270 : Cond.code yX12_run cX12_run 8 (some .int) ∈ lw_tbl := tt_8 (List.mem_of_getElem? (i := 63) rfl)
theorem mc_271 : Cond.code yX12_common cX12_common 5 (some .int) ∈ lw_tbl := tt_8 (List.mem_of_getElem? (i := 73) rfl)
theorem mc_272 : Cond.code yX12_step cX12_step 7 (some .int) ∈ lw_tbl := tt_8 (List.mem_of_getElem? (i := 67) rfl)
theorem mc_273 : Cond.code yX12_counts cX12_counts 8 (some .int) ∈ lw_tbl := tt_8 (List.mem_of_getElem? (i := 77) rfl)
theorem mc_274 : Cond.code yX12_total cX12_total 1 (some .int) ∈ lw_tbl := tt_8 (List.mem_of_getElem? (i := 81) rfl)
theorem mc_275 : Cond.code yX12_undo cX12_undo 5 (some .int) ∈ lw_tbl := tt_8 (List.mem_of_getElem? (i := 85) rfl)
theorem mc_276 : Cond.code yX12_mend cX12_mend 7 (some .int) ∈ lw_tbl := tt_8 (List.mem_of_getElem? (i := 89) rfl)
theorem mc_277 : Cond.code yX12_seamOf cX12_seamOf 4 (some .int) ∈ lw_tbl := tt_8 (List.mem_of_getElem? (i := 97) rfl)
theorem mc_278 : Cond.code yX12_seam cX12_seam 2 (some .int) ∈ lw_tbl := tt_8 (List.mem_of_getElem? (i := 93) rfl)
theorem mc_279 : Cond.code yX12_turn cX12_turn 7 (some .int) ∈ lw_tbl := tt_8 (List.mem_of_getElem? (i := 101) rfl)
theorem mc_280 : Cond.code yX12_spiral cX12_spiral 7 (some .int) ∈ lw_tbl := tt_8 (List.mem_of_getElem? (i := 105) rfl)
theorem mc_281 : Cond.code yX12_isRowAlike cX12_isRowAlike 5 (some .boolean) ∈ lw_tbl := tt_8 (List.mem_of_getElem? (i := 113) rfl)
theorem mc_282 : Cond.code yX12_repeats cX12_repeats 6 (some .int) ∈ lw_tbl := tt_8 (List.mem_of_getElem? (i := 109) rfl)
theorem mc_283 : Cond.code yX12_colour cX12_colour 9 (some .int) ∈ lw_tbl := tt_8 (List.mem_of_getElem? (i := 117) rfl)
theorem mc_284 : Cond.code yX12_floats cX12_floats 7 (some .int) ∈ lw_tbl := tt_8 (List.mem_of_getElem? (i := 121) rfl)
theorem mc_285 : Cond.code yX12_learner cX12_learner 13 (some .int) ∈ lw_tbl := tt_8 (List.mem_of_getElem? (i := 126) rfl)
theorem mc_286 : Cond.code yX12_readsPicture cX12_readsPicture 8 (some .int) ∈ lw_tbl := tt_8 (List.mem_of_getElem? (i := 136) rfl)
theorem mc_287 : Cond.code yX12_wish cX12_wish 2 (some .int) ∈ lw_tbl := tt_8 (List.mem_of_getElem? (i := 132) rfl)
theorem mc_288 : Cond.code yX12_print cX12_print 2 (some .int) ∈ lw_tbl := tt_8 (List.mem_of_getElem? (i := 140) rfl)
theorem mc_289 : Cond.code yX12_strokeOver cX12_strokeOver 6 (some .boolean) ∈ lw_tbl := tt_8 (List.mem_of_getElem? (i := 157) rfl)
theorem mc_290 : Cond.code yX12_makes cX12_makes 4 (some .boolean) ∈ lw_tbl := tt_8 (List.mem_of_getElem? (i := 153) rfl)
theorem mc_291 : Cond.code yX12_mistakes cX12_mistakes 6 (some .int) ∈ lw_tbl := tt_8 (List.mem_of_getElem? (i := 173) rfl)
theorem mc_292 : Cond.code yX12_nextStroke cX12_nextStroke 1 (some .boolean) ∈ lw_tbl := tt_8 (List.mem_of_getElem? (i := 165) rfl)
theorem mc_293 : Cond.code yX12_firstStroke cX12_firstStroke 1 none ∈ lw_tbl := tt_8 (List.mem_of_getElem? (i := 149) rfl)
theorem mc_294 : Cond.code yX12_keepsStroke cX12_keepsStroke 2 none ∈ lw_tbl := tt_8 (List.mem_of_getElem? (i := 161) rfl)
theorem mc_295 : Cond.code yX12_find cX12_find 4 (some .int) ∈ lw_tbl := tt_8 (List.mem_of_getElem? (i := 144) rfl)
theorem mc_296 : Cond.code yX12_reads cX12_reads 5 (some .int) ∈ lw_tbl := tt_8 (List.mem_of_getElem? (i := 169) rfl)
theorem mc_297 : Cond.code yX12_nearest cX12_nearest 6 (some .int) ∈ lw_tbl := tt_8 (List.mem_of_getElem? (i := 177) rfl)
theorem mc_298 : Cond.code yX12_rodsOf cX12_rodsOf 5 (some .int) ∈ lw_tbl := tt_8 (List.mem_of_getElem? (i := 185) rfl)
theorem mc_299 : Cond.code yX12_rods cX12_rods 2 (some .int) ∈ lw_tbl := tt_8 (List.mem_of_getElem? (i := 181) rfl)
theorem mc_300 : Cond.code yX12_waste cX12_waste 6 (some .int) ∈ lw_tbl := tt_8 (List.mem_of_getElem? (i := 189) rfl)
theorem mc_301 : Cond.code yX12_cost cX12_cost 3 (some .int) ∈ lw_tbl := tt_8 (List.mem_of_getElem? (i := 193) rfl)
theorem mc_302 : Cond.code yX12_cheaper cX12_cheaper 6 (some .int) ∈ lw_tbl := tt_8 (List.mem_of_getElem? (i := 197) rfl)
theorem mc_303 : Cond.code yX12_joinsOf cX12_joinsOf 7 (some .int) ∈ lw_tbl := tt_8 (List.mem_of_getElem? (i := 205) rfl)
theorem mc_304 : Cond.code yX12_joins cX12_joins 3 (some .int) ∈ lw_tbl := tt_8 (List.mem_of_getElem? (i := 201) rfl)
theorem mc_305 : Cond.code yX12_hide cX12_hide 8 (some .int) ∈ lw_tbl := tt_8 (List.mem_of_getElem? (i := 209) rfl)
theorem mc_306 : Cond.code yX12_areNumbers cX12_areNumbers 5 (some .boolean) ∈ lw_tbl := tt_8 (List.mem_of_getElem? (i := 217) rfl)
theorem mc_307 : Cond.code yX12_reach cX12_reach 11 (some .int) ∈ lw_tbl := tt_8 (List.mem_of_getElem? (i := 213) rfl)
theorem mc_308 : Cond.code yX12_nest cX12_nest 12 (some .int) ∈ lw_tbl := tt_8 (List.mem_of_getElem? (i := 221) rfl)
theorem mc_309 : Cond.code yX12_plait cX12_plait 10 (some .int) ∈ lw_tbl := tt_8 (List.mem_of_getElem? (i := 227) rfl)
theorem mc_310 : Cond.code yX12_offOf cX12_offOf 6 (some .int) ∈ lw_tbl := tt_9 (List.mem_of_getElem? (i := 3) rfl)
theorem mc_311 : Cond.code yX12_puts cX12_puts 5 none ∈ lw_tbl := tt_8 (List.mem_of_getElem? (i := 239) rfl)
theorem mc_312 : Cond.code yX12_even cX12_even 4 (some .int) ∈ lw_tbl := tt_8 (List.mem_of_getElem? (i := 232) rfl)
theorem mc_313 : Cond.code yX12_heightOf cX12_heightOf 5 (some .int) ∈ lw_tbl := tt_9 (List.mem_of_getElem? (i := 11) rfl)
theorem mc_314 : Cond.code yX12_height cX12_height 5 (some .int) ∈ lw_tbl := tt_9 (List.mem_of_getElem? (i := 7) rfl)
theorem mc_315 : Cond.code yX12_loose cX12_loose 5 (some .int) ∈ lw_tbl := tt_9 (List.mem_of_getElem? (i := 15) rfl)
theorem mc_316 : Cond.code yX12_holdOf cX12_holdOf 6 (some .int) ∈ lw_tbl := tt_9 (List.mem_of_getElem? (i := 23) rfl)
theorem mc_317 : Cond.code yX12_hold cX12_hold 2 (some .int) ∈ lw_tbl := tt_9 (List.mem_of_getElem? (i := 19) rfl)
theorem mc_318 : Cond.code yX12_gives cX12_gives 4 (some .int) ∈ lw_tbl := tt_9 (List.mem_of_getElem? (i := 27) rfl)
theorem mc_319 : Cond.code yX12_atLeastOne cX12_atLeastOne 1 (some .int) ∈ lw_tbl := tt_9 (List.mem_of_getElem? (i := 34) rfl)
theorem mc_320 : Cond.code yX12_width cX12_width 4 (some .int) ∈ lw_tbl := tt_9 (List.mem_of_getElem? (i := 31) rfl)
theorem mc_321 : Cond.code yX12_offAt cX12_offAt 4 (some .int) ∈ lw_tbl := tt_9 (List.mem_of_getElem? (i := 50) rfl)
theorem mc_322 : Cond.code yX12_offBy cX12_offBy 7 (some .int) ∈ lw_tbl := tt_9 (List.mem_of_getElem? (i := 58) rfl)
theorem mc_323 : Cond.code yX12_leastBy cX12_leastBy 9 (some .int) ∈ lw_tbl := tt_9 (List.mem_of_getElem? (i := 54) rfl)
theorem mc_324 : Cond.code yX12_isBowl cX12_isBowl 5 (some .boolean) ∈ lw_tbl := tt_9 (List.mem_of_getElem? (i := 42) rfl)
theorem mc_325 : Cond.code yX12_mostAhead cX12_mostAhead 4 (some .int) ∈ lw_tbl := tt_9 (List.mem_of_getElem? (i := 46) rfl)
theorem mc_326 : Cond.code yX12_bowl cX12_bowl 10 (some .int) ∈ lw_tbl := tt_9 (List.mem_of_getElem? (i := 38) rfl)
theorem mc_327 : Cond.code yX12_wander cX12_wander 9 (some .int) ∈ lw_tbl := tt_9 (List.mem_of_getElem? (i := 62) rfl)
theorem mc_328 : Cond.code yX12_closesBy cX12_closesBy 6 (some .boolean) ∈ lw_tbl := tt_9 (List.mem_of_getElem? (i := 70) rfl)
theorem mc_329 : Cond.code yX12_closes cX12_closes 3 (some .int) ∈ lw_tbl := tt_9 (List.mem_of_getElem? (i := 66) rfl)
theorem mc_330 : Cond.code yX12_border cX12_border 12 (some .int) ∈ lw_tbl := tt_9 (List.mem_of_getElem? (i := 74) rfl)
theorem mc_331 : Cond.code yX12_ways cX12_ways 4 (some .int) ∈ lw_tbl := tt_9 (List.mem_of_getElem? (i := 79) rfl)
theorem mc_332 : Cond.code yX12_bitsOf cX12_bitsOf 3 (some .int) ∈ lw_tbl := tt_9 (List.mem_of_getElem? (i := 91) rfl)
theorem mc_333 : Cond.code yX12_teaches cX12_teaches 9 (some .int) ∈ lw_tbl := tt_9 (List.mem_of_getElem? (i := 88) rfl)
theorem mc_334 : Cond.code yX12_taught cX12_taught 3 (some .int) ∈ lw_tbl := tt_9 (List.mem_of_getElem? (i := 84) rfl)
theorem mc_335 : Cond.code yX12_dried cX12_dried 3 (some .int) ∈ lw_tbl := tt_9 (List.mem_of_getElem? (i := 100) rfl)
theorem mc_336 : Cond.code yX12_lid cX12_lid 11 (some .int) ∈ lw_tbl := tt_9 (List.mem_of_getElem? (i := 95) rfl)
theorem mc_337 : Cond.code yX12_cut cX12_cut 3 (some .long) ∈ lw_tbl := tt_9 (List.mem_of_getElem? (i := 112) rfl)
theorem mc_338 : Cond.code yX12_numbers cX12_numbers 5 (some .int) ∈ lw_tbl := tt_9 (List.mem_of_getElem? (i := 104) rfl)
theorem mc_339 : Cond.code yX12_write cX12_write 5 (some .long) ∈ lw_tbl := tt_9 (List.mem_of_getElem? (i := 109) rfl)
theorem mc_340 : Cond.code yX12_copy cX12_copy 6 (some .int) ∈ lw_tbl := tt_9 (List.mem_of_getElem? (i := 116) rfl)
theorem mc_341 : Cond.code yX12_image cX12_image 3 (some .int) ∈ lw_tbl := tt_9 (List.mem_of_getElem? (i := 120) rfl)
theorem mc_342 : Cond.code yX12_restore cX12_restore 3 (some .int) ∈ lw_tbl := tt_9 (List.mem_of_getElem? (i := 124) rfl)
theorem mc_343 : Cond.code yX12_status cX12_status 2 (some .int) ∈ lw_tbl := tt_9 (List.mem_of_getElem? (i := 128) rfl)
theorem mc_344 : Cond.code yX12_count cX12_count 2 (some .int) ∈ lw_tbl := tt_9 (List.mem_of_getElem? (i := 132) rfl)
theorem mc_345 : Cond.code yJ6_bitCount_0f7a4 cJ6_bitCount_0f7a4 1 (some .int) ∈ lw_tbl := tt_4 (List.mem_of_getElem? (i := 132) rfl)
theorem mc_346 : Cond.code yJ9_floorMod_7cf53 cJ9_floorMod_7cf53 3 (some .int) ∈ lw_tbl := tt_3 (List.mem_of_getElem? (i := 224) rfl)
theorem mc_347 : Cond.code yJ7_rangeCheck_23922 cJ7_rangeCheck_23922 3 none ∈ lw_tbl := tt_6 (List.mem_of_getElem? (i := 70) rfl)
theorem mc_348 : Cond.code yJ7_fill_d0a16 cJ7_fill_d0a16 5 none ∈ lw_tbl := tt_6 (List.mem_of_getElem? (i := 194) rfl)
theorem mc_349 : Cond.code yJ7_fill_bad5a cJ7_fill_bad5a 6 none ∈ lw_tbl := tt_6 (List.mem_of_getElem? (i := 67) rfl)
theorem mc_350 : Cond.code yJ7_fill_53178 cJ7_fill_53178 4 none ∈ lw_tbl := tt_1 (List.mem_of_getElem? (i := 219) rfl)
theorem mc_351 : Cond.code yJ7_fill_fda19 cJ7_fill_fda19 5 none ∈ lw_tbl := tt_6 (List.mem_of_getElem? (i := 137) rfl)
set_option maxRecDepth 20000 in
theorem mcs_0 : ∀ q ∈ MT_0, Cond.code q.1.1 q.1.2.1 q.1.2.2.1 q.1.2.2.2 ∈ lw_tbl := List.forall_mem_cons.mpr ⟨mc_0, List.forall_mem_cons.mpr ⟨mc_1, List.forall_mem_cons.mpr ⟨mc_2, List.forall_mem_cons.mpr ⟨mc_3, List.forall_mem_cons.mpr ⟨mc_4, List.forall_mem_cons.mpr ⟨mc_5, List.forall_mem_cons.mpr ⟨mc_6, List.forall_mem_cons.mpr ⟨mc_7, List.forall_mem_cons.mpr ⟨mc_8, List.forall_mem_cons.mpr ⟨mc_9, List.forall_mem_cons.mpr ⟨mc_10, List.forall_mem_cons.mpr ⟨mc_11, List.forall_mem_cons.mpr ⟨mc_12, List.forall_mem_cons.mpr ⟨mc_13, List.forall_mem_cons.mpr ⟨mc_14, List.forall_mem_cons.mpr ⟨mc_15, List.forall_mem_cons.mpr ⟨mc_16, List.forall_mem_cons.mpr ⟨mc_17, List.forall_mem_cons.mpr ⟨mc_18, List.forall_mem_cons.mpr ⟨mc_19, List.forall_mem_cons.mpr ⟨mc_20, List.forall_mem_cons.mpr ⟨mc_21, List.forall_mem_cons.mpr ⟨mc_22, List.forall_mem_cons.mpr ⟨mc_23, List.forall_mem_cons.mpr ⟨mc_24, List.forall_mem_cons.mpr ⟨mc_25, List.forall_mem_cons.mpr ⟨mc_26, List.forall_mem_cons.mpr ⟨mc_27, List.forall_mem_cons.mpr ⟨mc_28, List.forall_mem_cons.mpr ⟨mc_29, List.forall_mem_cons.mpr ⟨mc_30, List.forall_mem_cons.mpr ⟨mc_31, List.forall_mem_cons.mpr ⟨mc_32, List.forall_mem_cons.mpr ⟨mc_33, List.forall_mem_cons.mpr ⟨mc_34, List.forall_mem_cons.mpr ⟨mc_35, List.forall_mem_cons.mpr ⟨mc_36, List.forall_mem_cons.mpr ⟨mc_37, List.forall_mem_cons.mpr ⟨mc_38, List.forall_mem_cons.mpr ⟨mc_39, List.forall_mem_cons.mpr ⟨mc_40, List.forall_mem_cons.mpr ⟨mc_41, List.forall_mem_cons.mpr ⟨mc_42, List.forall_mem_cons.mpr ⟨mc_43, List.forall_mem_cons.mpr ⟨mc_44, List.forall_mem_cons.mpr ⟨mc_45, List.forall_mem_cons.mpr ⟨mc_46, List.forall_mem_cons.mpr ⟨mc_47, List.forall_mem_cons.mpr ⟨mc_48, List.forall_mem_cons.mpr ⟨mc_49, List.forall_mem_cons.mpr ⟨mc_50, List.forall_mem_cons.mpr ⟨mc_51, List.forall_mem_cons.mpr ⟨mc_52, List.forall_mem_cons.mpr ⟨mc_53, List.forall_mem_cons.mpr ⟨mc_54, List.forall_mem_cons.mpr ⟨mc_55, List.forall_mem_cons.mpr ⟨mc_56, List.forall_mem_cons.mpr ⟨mc_57, List.forall_mem_cons.mpr ⟨mc_58, List.forall_mem_cons.mpr ⟨mc_59, fun _ h => absurd h List.not_mem_nil⟩⟩⟩⟩⟩⟩⟩⟩⟩⟩⟩⟩⟩⟩⟩⟩⟩⟩⟩⟩⟩⟩⟩⟩⟩⟩⟩⟩⟩⟩⟩⟩⟩⟩⟩⟩⟩⟩⟩⟩⟩⟩⟩⟩⟩⟩⟩⟩⟩⟩⟩⟩⟩⟩⟩⟩⟩⟩⟩⟩
set_option maxRecDepth 20000 in
theorem mcs_1 : ∀ q ∈ MT_1, Cond.code q.1.1 q.1.2.1 q.1.2.2.1 q.1.2.2.2 ∈ lw_tbl := List.forall_mem_cons.mpr ⟨mc_60, List.forall_mem_cons.mpr ⟨mc_61, List.forall_mem_cons.mpr ⟨mc_62, List.forall_mem_cons.mpr ⟨mc_63, List.forall_mem_cons.mpr ⟨mc_64, List.forall_mem_cons.mpr ⟨mc_65, List.forall_mem_cons.mpr ⟨mc_66, List.forall_mem_cons.mpr ⟨mc_67, List.forall_mem_cons.mpr ⟨mc_68, List.forall_mem_cons.mpr ⟨mc_69, List.forall_mem_cons.mpr ⟨mc_70, List.forall_mem_cons.mpr ⟨mc_71, List.forall_mem_cons.mpr ⟨mc_72, List.forall_mem_cons.mpr ⟨mc_73, List.forall_mem_cons.mpr ⟨mc_74, List.forall_mem_cons.mpr ⟨mc_75, List.forall_mem_cons.mpr ⟨mc_76, List.forall_mem_cons.mpr ⟨mc_77, List.forall_mem_cons.mpr ⟨mc_78, List.forall_mem_cons.mpr ⟨mc_79, List.forall_mem_cons.mpr ⟨mc_80, List.forall_mem_cons.mpr ⟨mc_81, List.forall_mem_cons.mpr ⟨mc_82, List.forall_mem_cons.mpr ⟨mc_83, List.forall_mem_cons.mpr ⟨mc_84, List.forall_mem_cons.mpr ⟨mc_85, List.forall_mem_cons.mpr ⟨mc_86, List.forall_mem_cons.mpr ⟨mc_87, List.forall_mem_cons.mpr ⟨mc_88, List.forall_mem_cons.mpr ⟨mc_89, List.forall_mem_cons.mpr ⟨mc_90, List.forall_mem_cons.mpr ⟨mc_91, List.forall_mem_cons.mpr ⟨mc_92, List.forall_mem_cons.mpr ⟨mc_93, List.forall_mem_cons.mpr ⟨mc_94, List.forall_mem_cons.mpr ⟨mc_95, List.forall_mem_cons.mpr ⟨mc_96, List.forall_mem_cons.mpr ⟨mc_97, List.forall_mem_cons.mpr ⟨mc_98, List.forall_mem_cons.mpr ⟨mc_99, List.forall_mem_cons.mpr ⟨mc_100, List.forall_mem_cons.mpr ⟨mc_101, List.forall_mem_cons.mpr ⟨mc_102, List.forall_mem_cons.mpr ⟨mc_103, List.forall_mem_cons.mpr ⟨mc_104, List.forall_mem_cons.mpr ⟨mc_105, List.forall_mem_cons.mpr ⟨mc_106, List.forall_mem_cons.mpr ⟨mc_107, List.forall_mem_cons.mpr ⟨mc_108, List.forall_mem_cons.mpr ⟨mc_109, List.forall_mem_cons.mpr ⟨mc_110, List.forall_mem_cons.mpr ⟨mc_111, List.forall_mem_cons.mpr ⟨mc_112, List.forall_mem_cons.mpr ⟨mc_113, List.forall_mem_cons.mpr ⟨mc_114, List.forall_mem_cons.mpr ⟨mc_115, List.forall_mem_cons.mpr ⟨mc_116, List.forall_mem_cons.mpr ⟨mc_117, List.forall_mem_cons.mpr ⟨mc_118, List.forall_mem_cons.mpr ⟨mc_119, fun _ h => absurd h List.not_mem_nil⟩⟩⟩⟩⟩⟩⟩⟩⟩⟩⟩⟩⟩⟩⟩⟩⟩⟩⟩⟩⟩⟩⟩⟩⟩⟩⟩⟩⟩⟩⟩⟩⟩⟩⟩⟩⟩⟩⟩⟩⟩⟩⟩⟩⟩⟩⟩⟩⟩⟩⟩⟩⟩⟩⟩⟩⟩⟩⟩⟩
set_option maxRecDepth 20000 in
theorem mcs_2 : ∀ q ∈ MT_2, Cond.code q.1.1 q.1.2.1 q.1.2.2.1 q.1.2.2.2 ∈ lw_tbl := List.forall_mem_cons.mpr ⟨mc_120, List.forall_mem_cons.mpr ⟨mc_121, List.forall_mem_cons.mpr ⟨mc_122, List.forall_mem_cons.mpr ⟨mc_123, List.forall_mem_cons.mpr ⟨mc_124, List.forall_mem_cons.mpr ⟨mc_125, List.forall_mem_cons.mpr ⟨mc_126, List.forall_mem_cons.mpr ⟨mc_127, List.forall_mem_cons.mpr ⟨mc_128, List.forall_mem_cons.mpr ⟨mc_129, List.forall_mem_cons.mpr ⟨mc_130, List.forall_mem_cons.mpr ⟨mc_131, List.forall_mem_cons.mpr ⟨mc_132, List.forall_mem_cons.mpr ⟨mc_133, List.forall_mem_cons.mpr ⟨mc_134, List.forall_mem_cons.mpr ⟨mc_135, List.forall_mem_cons.mpr ⟨mc_136, List.forall_mem_cons.mpr ⟨mc_137, List.forall_mem_cons.mpr ⟨mc_138, List.forall_mem_cons.mpr ⟨mc_139, List.forall_mem_cons.mpr ⟨mc_140, List.forall_mem_cons.mpr ⟨mc_141, List.forall_mem_cons.mpr ⟨mc_142, List.forall_mem_cons.mpr ⟨mc_143, List.forall_mem_cons.mpr ⟨mc_144, List.forall_mem_cons.mpr ⟨mc_145, List.forall_mem_cons.mpr ⟨mc_146, List.forall_mem_cons.mpr ⟨mc_147, List.forall_mem_cons.mpr ⟨mc_148, List.forall_mem_cons.mpr ⟨mc_149, List.forall_mem_cons.mpr ⟨mc_150, List.forall_mem_cons.mpr ⟨mc_151, List.forall_mem_cons.mpr ⟨mc_152, List.forall_mem_cons.mpr ⟨mc_153, List.forall_mem_cons.mpr ⟨mc_154, List.forall_mem_cons.mpr ⟨mc_155, List.forall_mem_cons.mpr ⟨mc_156, List.forall_mem_cons.mpr ⟨mc_157, List.forall_mem_cons.mpr ⟨mc_158, List.forall_mem_cons.mpr ⟨mc_159, List.forall_mem_cons.mpr ⟨mc_160, List.forall_mem_cons.mpr ⟨mc_161, List.forall_mem_cons.mpr ⟨mc_162, List.forall_mem_cons.mpr ⟨mc_163, List.forall_mem_cons.mpr ⟨mc_164, List.forall_mem_cons.mpr ⟨mc_165, List.forall_mem_cons.mpr ⟨mc_166, List.forall_mem_cons.mpr ⟨mc_167, List.forall_mem_cons.mpr ⟨mc_168, List.forall_mem_cons.mpr ⟨mc_169, List.forall_mem_cons.mpr ⟨mc_170, List.forall_mem_cons.mpr ⟨mc_171, List.forall_mem_cons.mpr ⟨mc_172, List.forall_mem_cons.mpr ⟨mc_173, List.forall_mem_cons.mpr ⟨mc_174, List.forall_mem_cons.mpr ⟨mc_175, List.forall_mem_cons.mpr ⟨mc_176, List.forall_mem_cons.mpr ⟨mc_177, List.forall_mem_cons.mpr ⟨mc_178, List.forall_mem_cons.mpr ⟨mc_179, fun _ h => absurd h List.not_mem_nil⟩⟩⟩⟩⟩⟩⟩⟩⟩⟩⟩⟩⟩⟩⟩⟩⟩⟩⟩⟩⟩⟩⟩⟩⟩⟩⟩⟩⟩⟩⟩⟩⟩⟩⟩⟩⟩⟩⟩⟩⟩⟩⟩⟩⟩⟩⟩⟩⟩⟩⟩⟩⟩⟩⟩⟩⟩⟩⟩⟩
set_option maxRecDepth 20000 in
theorem mcs_3 : ∀ q ∈ MT_3, Cond.code q.1.1 q.1.2.1 q.1.2.2.1 q.1.2.2.2 ∈ lw_tbl := List.forall_mem_cons.mpr ⟨mc_180, List.forall_mem_cons.mpr ⟨mc_181, List.forall_mem_cons.mpr ⟨mc_182, List.forall_mem_cons.mpr ⟨mc_183, List.forall_mem_cons.mpr ⟨mc_184, List.forall_mem_cons.mpr ⟨mc_185, List.forall_mem_cons.mpr ⟨mc_186, List.forall_mem_cons.mpr ⟨mc_187, List.forall_mem_cons.mpr ⟨mc_188, List.forall_mem_cons.mpr ⟨mc_189, List.forall_mem_cons.mpr ⟨mc_190, List.forall_mem_cons.mpr ⟨mc_191, List.forall_mem_cons.mpr ⟨mc_192, List.forall_mem_cons.mpr ⟨mc_193, List.forall_mem_cons.mpr ⟨mc_194, List.forall_mem_cons.mpr ⟨mc_195, List.forall_mem_cons.mpr ⟨mc_196, List.forall_mem_cons.mpr ⟨mc_197, List.forall_mem_cons.mpr ⟨mc_198, List.forall_mem_cons.mpr ⟨mc_199, List.forall_mem_cons.mpr ⟨mc_200, List.forall_mem_cons.mpr ⟨mc_201, List.forall_mem_cons.mpr ⟨mc_202, List.forall_mem_cons.mpr ⟨mc_203, List.forall_mem_cons.mpr ⟨mc_204, List.forall_mem_cons.mpr ⟨mc_205, List.forall_mem_cons.mpr ⟨mc_206, List.forall_mem_cons.mpr ⟨mc_207, List.forall_mem_cons.mpr ⟨mc_208, List.forall_mem_cons.mpr ⟨mc_209, List.forall_mem_cons.mpr ⟨mc_210, List.forall_mem_cons.mpr ⟨mc_211, List.forall_mem_cons.mpr ⟨mc_212, List.forall_mem_cons.mpr ⟨mc_213, List.forall_mem_cons.mpr ⟨mc_214, List.forall_mem_cons.mpr ⟨mc_215, List.forall_mem_cons.mpr ⟨mc_216, List.forall_mem_cons.mpr ⟨mc_217, List.forall_mem_cons.mpr ⟨mc_218, List.forall_mem_cons.mpr ⟨mc_219, List.forall_mem_cons.mpr ⟨mc_220, List.forall_mem_cons.mpr ⟨mc_221, List.forall_mem_cons.mpr ⟨mc_222, List.forall_mem_cons.mpr ⟨mc_223, List.forall_mem_cons.mpr ⟨mc_224, List.forall_mem_cons.mpr ⟨mc_225, List.forall_mem_cons.mpr ⟨mc_226, List.forall_mem_cons.mpr ⟨mc_227, List.forall_mem_cons.mpr ⟨mc_228, List.forall_mem_cons.mpr ⟨mc_229, List.forall_mem_cons.mpr ⟨mc_230, List.forall_mem_cons.mpr ⟨mc_231, List.forall_mem_cons.mpr ⟨mc_232, List.forall_mem_cons.mpr ⟨mc_233, List.forall_mem_cons.mpr ⟨mc_234, List.forall_mem_cons.mpr ⟨mc_235, List.forall_mem_cons.mpr ⟨mc_236, List.forall_mem_cons.mpr ⟨mc_237, List.forall_mem_cons.mpr ⟨mc_238, List.forall_mem_cons.mpr ⟨mc_239, fun _ h => absurd h List.not_mem_nil⟩⟩⟩⟩⟩⟩⟩⟩⟩⟩⟩⟩⟩⟩⟩⟩⟩⟩⟩⟩⟩⟩⟩⟩⟩⟩⟩⟩⟩⟩⟩⟩⟩⟩⟩⟩⟩⟩⟩⟩⟩⟩⟩⟩⟩⟩⟩⟩⟩⟩⟩⟩⟩⟩⟩⟩⟩⟩⟩⟩
set_option maxRecDepth 20000 in
theorem mcs_4 : ∀ q ∈ MT_4, Cond.code q.1.1 q.1.2.1 q.1.2.2.1 q.1.2.2.2 ∈ lw_tbl := List.forall_mem_cons.mpr ⟨mc_240, List.forall_mem_cons.mpr ⟨mc_241, List.forall_mem_cons.mpr ⟨mc_242, List.forall_mem_cons.mpr ⟨mc_243, List.forall_mem_cons.mpr ⟨mc_244, List.forall_mem_cons.mpr ⟨mc_245, List.forall_mem_cons.mpr ⟨mc_246, List.forall_mem_cons.mpr ⟨mc_247, List.forall_mem_cons.mpr ⟨mc_248, List.forall_mem_cons.mpr ⟨mc_249, List.forall_mem_cons.mpr ⟨mc_250, List.forall_mem_cons.mpr ⟨mc_251, List.forall_mem_cons.mpr ⟨mc_252, List.forall_mem_cons.mpr ⟨mc_253, List.forall_mem_cons.mpr ⟨mc_254, List.forall_mem_cons.mpr ⟨mc_255, List.forall_mem_cons.mpr ⟨mc_256, List.forall_mem_cons.mpr ⟨mc_257, List.forall_mem_cons.mpr ⟨mc_258, List.forall_mem_cons.mpr ⟨mc_259, List.forall_mem_cons.mpr ⟨mc_260, List.forall_mem_cons.mpr ⟨mc_261, List.forall_mem_cons.mpr ⟨mc_262, List.forall_mem_cons.mpr ⟨mc_263, List.forall_mem_cons.mpr ⟨mc_264, List.forall_mem_cons.mpr ⟨mc_265, List.forall_mem_cons.mpr ⟨mc_266, List.forall_mem_cons.mpr ⟨mc_267, List.forall_mem_cons.mpr ⟨mc_268, List.forall_mem_cons.mpr ⟨mc_269, List.forall_mem_cons.mpr ⟨mc_270, List.forall_mem_cons.mpr ⟨mc_271, List.forall_mem_cons.mpr ⟨mc_272, List.forall_mem_cons.mpr ⟨mc_273, List.forall_mem_cons.mpr ⟨mc_274, List.forall_mem_cons.mpr ⟨mc_275, List.forall_mem_cons.mpr ⟨mc_276, List.forall_mem_cons.mpr ⟨mc_277, List.forall_mem_cons.mpr ⟨mc_278, List.forall_mem_cons.mpr ⟨mc_279, List.forall_mem_cons.mpr ⟨mc_280, List.forall_mem_cons.mpr ⟨mc_281, List.forall_mem_cons.mpr ⟨mc_282, List.forall_mem_cons.mpr ⟨mc_283, List.forall_mem_cons.mpr ⟨mc_284, List.forall_mem_cons.mpr ⟨mc_285, List.forall_mem_cons.mpr ⟨mc_286, List.forall_mem_cons.mpr ⟨mc_287, List.forall_mem_cons.mpr ⟨mc_288, List.forall_mem_cons.mpr ⟨mc_289, List.forall_mem_cons.mpr ⟨mc_290, List.forall_mem_cons.mpr ⟨mc_291, List.forall_mem_cons.mpr ⟨mc_292, List.forall_mem_cons.mpr ⟨mc_293, List.forall_mem_cons.mpr ⟨mc_294, List.forall_mem_cons.mpr ⟨mc_295, List.forall_mem_cons.mpr ⟨mc_296, List.forall_mem_cons.mpr ⟨mc_297, List.forall_mem_cons.mpr ⟨mc_298, List.forall_mem_cons.mpr ⟨mc_299, fun _ h => absurd h List.not_mem_nil⟩⟩⟩⟩⟩⟩⟩⟩⟩⟩⟩⟩⟩⟩⟩⟩⟩⟩⟩⟩⟩⟩⟩⟩⟩⟩⟩⟩⟩⟩⟩⟩⟩⟩⟩⟩⟩⟩⟩⟩⟩⟩⟩⟩⟩⟩⟩⟩⟩⟩⟩⟩⟩⟩⟩⟩⟩⟩⟩⟩
set_option maxRecDepth 20000 in
theorem mcs_5 : ∀ q ∈ MT_5, Cond.code q.1.1 q.1.2.1 q.1.2.2.1 q.1.2.2.2 ∈ lw_tbl := List.forall_mem_cons.mpr ⟨mc_300, List.forall_mem_cons.mpr ⟨mc_301, List.forall_mem_cons.mpr ⟨mc_302, List.forall_mem_cons.mpr ⟨mc_303, List.forall_mem_cons.mpr ⟨mc_304, List.forall_mem_cons.mpr ⟨mc_305, List.forall_mem_cons.mpr ⟨mc_306, List.forall_mem_cons.mpr ⟨mc_307, List.forall_mem_cons.mpr ⟨mc_308, List.forall_mem_cons.mpr ⟨mc_309, List.forall_mem_cons.mpr ⟨mc_310, List.forall_mem_cons.mpr ⟨mc_311, List.forall_mem_cons.mpr ⟨mc_312, List.forall_mem_cons.mpr ⟨mc_313, List.forall_mem_cons.mpr ⟨mc_314, List.forall_mem_cons.mpr ⟨mc_315, List.forall_mem_cons.mpr ⟨mc_316, List.forall_mem_cons.mpr ⟨mc_317, List.forall_mem_cons.mpr ⟨mc_318, List.forall_mem_cons.mpr ⟨mc_319, List.forall_mem_cons.mpr ⟨mc_320, List.forall_mem_cons.mpr ⟨mc_321, List.forall_mem_cons.mpr ⟨mc_322, List.forall_mem_cons.mpr ⟨mc_323, List.forall_mem_cons.mpr ⟨mc_324, List.forall_mem_cons.mpr ⟨mc_325, List.forall_mem_cons.mpr ⟨mc_326, List.forall_mem_cons.mpr ⟨mc_327, List.forall_mem_cons.mpr ⟨mc_328, List.forall_mem_cons.mpr ⟨mc_329, List.forall_mem_cons.mpr ⟨mc_330, List.forall_mem_cons.mpr ⟨mc_331, List.forall_mem_cons.mpr ⟨mc_332, List.forall_mem_cons.mpr ⟨mc_333, List.forall_mem_cons.mpr ⟨mc_334, List.forall_mem_cons.mpr ⟨mc_335, List.forall_mem_cons.mpr ⟨mc_336, List.forall_mem_cons.mpr ⟨mc_337, List.forall_mem_cons.mpr ⟨mc_338, List.forall_mem_cons.mpr ⟨mc_339, List.forall_mem_cons.mpr ⟨mc_340, List.forall_mem_cons.mpr ⟨mc_341, List.forall_mem_cons.mpr ⟨mc_342, List.forall_mem_cons.mpr ⟨mc_343, List.forall_mem_cons.mpr ⟨mc_344, List.forall_mem_cons.mpr ⟨mc_345, List.forall_mem_cons.mpr ⟨mc_346, List.forall_mem_cons.mpr ⟨mc_347, List.forall_mem_cons.mpr ⟨mc_348, List.forall_mem_cons.mpr ⟨mc_349, List.forall_mem_cons.mpr ⟨mc_350, List.forall_mem_cons.mpr ⟨mc_351, fun _ h => absurd h List.not_mem_nil⟩⟩⟩⟩⟩⟩⟩⟩⟩⟩⟩⟩⟩⟩⟩⟩⟩⟩⟩⟩⟩⟩⟩⟩⟩⟩⟩⟩⟩⟩⟩⟩⟩⟩⟩⟩⟩⟩⟩⟩⟩⟩⟩⟩⟩⟩⟩⟩⟩⟩⟩⟩
theorem mcs : ∀ q ∈ MT, Cond.code q.1.1 q.1.2.1 q.1.2.2.1 q.1.2.2.2 ∈ lw_tbl := List.forall_mem_append.mpr ⟨mcs_0, List.forall_mem_append.mpr ⟨mcs_1, List.forall_mem_append.mpr ⟨mcs_2, List.forall_mem_append.mpr ⟨mcs_3, List.forall_mem_append.mpr ⟨mcs_4, mcs_5⟩⟩⟩⟩⟩
def chM (j : Nat) : Bool := match MT[j]? with
  | some (y, k, c, n) => mC_l.contains j && decide (mN j = y.1) && plainFor y.1 && decide (y.1.cls ≠ "java/lang/invoke/MethodHandle") && decide (y.1.cls ≠ "java/lang/invoke/VarHandle") && decide ((parseMethodDescriptor y.1.desc).map (fun d => d.parameters.length) = some n) && (match k with
    | 0 => mI_l.contains j && mV_l.contains j && decide ((clN c).1 = y.1.cls)
    | 1 => mS_l.contains j
    | 2 => mI_l.contains j && decide (y.1.name = "<init>")
    | _ => false)
  | none => true
theorem chM_0 : ((List.range 60).map (fun j => 0 + j)).all chM = true := by decide +kernel
theorem chM_1 : ((List.range 60).map (fun j => 60 + j)).all chM = true := by decide +kernel
theorem chM_2 : ((List.range 60).map (fun j => 120 + j)).all chM = true := by decide +kernel
theorem chM_3 : ((List.range 60).map (fun j => 180 + j)).all chM = true := by decide +kernel
theorem chM_4 : ((List.range 60).map (fun j => 240 + j)).all chM = true := by decide +kernel
theorem chM_5 : ((List.range 60).map (fun j => 300 + j)).all chM = true := by decide +kernel
theorem chM_6 : ((List.range 60).map (fun j => 360 + j)).all chM = true := by decide +kernel
theorem MT_len : MT.length = 352 := by decide +kernel
theorem chM_of {b : Nat} (h : ((List.range 60).map (fun j => b + j)).all chM = true) {j : Nat} (h1 : b ≤ j) (h2 : j < b + 60) : chM j = true :=
  List.all_eq_true.mp h j (List.mem_map.mpr ⟨j - b, List.mem_range.mpr (by omega), by omega⟩)
theorem chM_all (j : Nat) (hj : j < 352) : chM j = true := by
  by_cases h0 : j < 60
  · exact chM_of chM_0 (by omega) (by omega)
  by_cases h1 : j < 120
  · exact chM_of chM_1 (by omega) (by omega)
  by_cases h2 : j < 180
  · exact chM_of chM_2 (by omega) (by omega)
  by_cases h3 : j < 240
  · exact chM_of chM_3 (by omega) (by omega)
  by_cases h4 : j < 300
  · exact chM_of chM_4 (by omega) (by omega)
  by_cases h5 : j < 360
  · exact chM_of chM_5 (by omega) (by omega)
  omega
theorem mFx {j : Nat} {y : mM} {k c n : Nat} (h : MT[j]? = some (y, k, c, n)) : Cond.code y.1 y.2.1 y.2.2.1 y.2.2.2 ∈ WT ∧ Cond.initialized y.1.cls ∈ WT ∧ mN j = y.1 ∧ plainFor y.1 = true ∧ (y.1.cls ≠ "java/lang/invoke/MethodHandle" ∧ y.1.cls ≠ "java/lang/invoke/VarHandle" ∧ (parseMethodDescriptor y.1.desc).map (fun d => d.parameters.length) = some n) ∧ (k = 1 → Cond.static y.1 ∈ WT) ∧ (k = 0 ∨ k = 2 → Cond.instanceMethod y.1 ∈ WT) ∧ (k = 0 → Cond.selects y.1.cls y.1 y.1 ∈ WT ∧ (clN c).1 = y.1.cls) ∧ (k = 2 → y.1.name = "<init>") := by
  have hj : j < 352 := by
    have := (List.getElem?_eq_some_iff.mp h).1
    rwa [MT_len] at this
  have hc := chM_all j hj
  unfold chM at hc
  rw [h] at hc
  simp only [Bool.and_eq_true, decide_eq_true_eq, List.contains_iff_mem] at hc
  obtain ⟨⟨⟨⟨⟨⟨c1, c2⟩, c3⟩, c4⟩, c5⟩, c6⟩, c7⟩ := hc
  have e1 : Cond.initialized (mN j).cls ∈ WT := mC_ok j c1
  rw [c2] at e1
  refine ⟨WT_of (mcs _ (List.mem_of_getElem? h)) rfl, e1, c2, c3, ⟨c4, c5, c6⟩, fun hk => ?_, fun hk => ?_, fun hk => ?_, fun hk => ?_⟩
  · subst hk
    simp only [List.contains_iff_mem] at c7
    have e2 : Cond.static (mN j) ∈ WT := mS_ok j c7
    rwa [c2] at e2
  · have e2 : Cond.instanceMethod (mN j) ∈ WT := by
      rcases hk with hk | hk
      · subst hk
        simp only [Bool.and_eq_true, decide_eq_true_eq, List.contains_iff_mem] at c7
        exact mI_ok j c7.1.1
      · subst hk
        simp only [Bool.and_eq_true, decide_eq_true_eq, List.contains_iff_mem] at c7
        exact mI_ok j c7.1
    rwa [c2] at e2
  · subst hk
    simp only [Bool.and_eq_true, decide_eq_true_eq, List.contains_iff_mem] at c7
    have e2 : Cond.selects (mN j).cls (mN j) (mN j) ∈ WT := mV_ok j c7.1.2
    rw [c2] at e2
    exact ⟨e2, c7.2⟩
  · subst hk
    simp only [Bool.and_eq_true, decide_eq_true_eq, List.contains_iff_mem] at c7
    exact c7.2
theorem uw_0 : ∀ w ∈ u_ws RX0 TX0 10, w ∈ WT := by
  have h1 : u_ws RX0 TX0 10 = [181, 183, 185, 187, 189, 191, 193, 195, 197, 199].filterMap (fun i => lw_tbl[i]?) := by decide +kernel
  have h2 : (u_ws RX0 TX0 10).all goodWord = true := by decide +kernel
  intro w hw
  have h3 := List.all_eq_true.mp h2 w hw
  rw [h1] at hw
  obtain ⟨i, -, hi⟩ := List.mem_filterMap.mp hw
  exact WT_of (List.mem_of_getElem? hi) h3
theorem uw_1 : ∀ w ∈ u_ws RX1 TX1 17, w ∈ WT := by
  have h1 : u_ws RX1 TX1 17 = [445, 447, 449, 451, 453, 455, 457, 459, 461, 463, 465, 467, 469, 471, 473, 475, 477].filterMap (fun i => lw_tbl[i]?) := by decide +kernel
  have h2 : (u_ws RX1 TX1 17).all goodWord = true := by decide +kernel
  intro w hw
  have h3 := List.all_eq_true.mp h2 w hw
  rw [h1] at hw
  obtain ⟨i, -, hi⟩ := List.mem_filterMap.mp hw
  exact WT_of (List.mem_of_getElem? hi) h3
theorem uw_2 : ∀ w ∈ u_ws RX2 TX2 6, w ∈ WT := by
  have h1 : u_ws RX2 TX2 6 = [409, 411, 413, 415, 417, 419].filterMap (fun i => lw_tbl[i]?) := by decide +kernel
  have h2 : (u_ws RX2 TX2 6).all goodWord = true := by decide +kernel
  intro w hw
  have h3 := List.all_eq_true.mp h2 w hw
  rw [h1] at hw
  obtain ⟨i, -, hi⟩ := List.mem_filterMap.mp hw
  exact WT_of (List.mem_of_getElem? hi) h3
theorem uw_3 : ∀ w ∈ u_ws RX3 TX3 2, w ∈ WT := by
  have h1 : u_ws RX3 TX3 2 = [337, 339].filterMap (fun i => lw_tbl[i]?) := by decide +kernel
  have h2 : (u_ws RX3 TX3 2).all goodWord = true := by decide +kernel
  intro w hw
  have h3 := List.all_eq_true.mp h2 w hw
  rw [h1] at hw
  obtain ⟨i, -, hi⟩ := List.mem_filterMap.mp hw
  exact WT_of (List.mem_of_getElem? hi) h3
theorem uw_4 : ∀ w ∈ u_ws RX4 TX4 5, w ∈ WT := by
  have h1 : u_ws RX4 TX4 5 = [385, 387, 389, 391, 393].filterMap (fun i => lw_tbl[i]?) := by decide +kernel
  have h2 : (u_ws RX4 TX4 5).all goodWord = true := by decide +kernel
  intro w hw
  have h3 := List.all_eq_true.mp h2 w hw
  rw [h1] at hw
  obtain ⟨i, -, hi⟩ := List.mem_filterMap.mp hw
  exact WT_of (List.mem_of_getElem? hi) h3
theorem uw_5 : ∀ w ∈ u_ws RX5 TX5 3, w ∈ WT := by
  have h1 : u_ws RX5 TX5 3 = [355, 357, 359].filterMap (fun i => lw_tbl[i]?) := by decide +kernel
  have h2 : (u_ws RX5 TX5 3).all goodWord = true := by decide +kernel
  intro w hw
  have h3 := List.all_eq_true.mp h2 w hw
  rw [h1] at hw
  obtain ⟨i, -, hi⟩ := List.mem_filterMap.mp hw
  exact WT_of (List.mem_of_getElem? hi) h3
theorem uw_6 : ∀ w ∈ u_ws RX6 TX6 4, w ∈ WT := by
  have h1 : u_ws RX6 TX6 4 = [277, 279, 281, 283].filterMap (fun i => lw_tbl[i]?) := by decide +kernel
  have h2 : (u_ws RX6 TX6 4).all goodWord = true := by decide +kernel
  intro w hw
  have h3 := List.all_eq_true.mp h2 w hw
  rw [h1] at hw
  obtain ⟨i, -, hi⟩ := List.mem_filterMap.mp hw
  exact WT_of (List.mem_of_getElem? hi) h3
theorem uw_7 : ∀ w ∈ u_ws RX7 TX7 2, w ∈ WT := by
  have h1 : u_ws RX7 TX7 2 = [488, 490].filterMap (fun i => lw_tbl[i]?) := by decide +kernel
  have h2 : (u_ws RX7 TX7 2).all goodWord = true := by decide +kernel
  intro w hw
  have h3 := List.all_eq_true.mp h2 w hw
  rw [h1] at hw
  obtain ⟨i, -, hi⟩ := List.mem_filterMap.mp hw
  exact WT_of (List.mem_of_getElem? hi) h3
theorem uw_8 : ∀ w ∈ u_ws RX8 TX8 8, w ∈ WT := by
  have h1 : u_ws RX8 TX8 8 = [220, 222, 224, 226, 228, 230, 232, 234].filterMap (fun i => lw_tbl[i]?) := by decide +kernel
  have h2 : (u_ws RX8 TX8 8).all goodWord = true := by decide +kernel
  intro w hw
  have h3 := List.all_eq_true.mp h2 w hw
  rw [h1] at hw
  obtain ⟨i, -, hi⟩ := List.mem_filterMap.mp hw
  exact WT_of (List.mem_of_getElem? hi) h3
theorem uw_9 : ∀ w ∈ u_ws RX9 TX9 11, w ∈ WT := by
  have h1 : u_ws RX9 TX9 11 = [303, 305, 307, 309, 311, 313, 315, 317, 319, 321, 323].filterMap (fun i => lw_tbl[i]?) := by decide +kernel
  have h2 : (u_ws RX9 TX9 11).all goodWord = true := by decide +kernel
  intro w hw
  have h3 := List.all_eq_true.mp h2 w hw
  rw [h1] at hw
  obtain ⟨i, -, hi⟩ := List.mem_filterMap.mp hw
  exact WT_of (List.mem_of_getElem? hi) h3
theorem uw_10 : ∀ w ∈ u_ws RX10 TX10 6, w ∈ WT := by
  have h1 : u_ws RX10 TX10 6 = [249, 251, 253, 255, 257, 259].filterMap (fun i => lw_tbl[i]?) := by decide +kernel
  have h2 : (u_ws RX10 TX10 6).all goodWord = true := by decide +kernel
  intro w hw
  have h3 := List.all_eq_true.mp h2 w hw
  rw [h1] at hw
  obtain ⟨i, -, hi⟩ := List.mem_filterMap.mp hw
  exact WT_of (List.mem_of_getElem? hi) h3
theorem uw_11 : ∀ w ∈ u_ws RX11 TX11 17, w ∈ WT := by
  have h1 : u_ws RX11 TX11 17 = [510, 512, 514, 516, 518, 520, 522, 524, 526, 528, 530, 532, 534, 536, 538, 540, 542].filterMap (fun i => lw_tbl[i]?) := by decide +kernel
  have h2 : (u_ws RX11 TX11 17).all goodWord = true := by decide +kernel
  intro w hw
  have h3 := List.all_eq_true.mp h2 w hw
  rw [h1] at hw
  obtain ⟨i, -, hi⟩ := List.mem_filterMap.mp hw
  exact WT_of (List.mem_of_getElem? hi) h3
theorem uw_12 : ∀ w ∈ u_ws RX12 TX12 37, w ∈ WT := by
  have h1 : u_ws RX12 TX12 37 = [1600, 1602, 1604, 1606, 1608, 1610, 1612, 1614, 1616, 1618, 1620, 1622, 1624, 1626, 1628, 1630, 1632, 1634, 1636, 1638, 1640, 1642, 1644, 1646, 1648, 1650, 1652, 1654, 1656, 1658, 1660, 1662, 1664, 1666, 1668, 1670, 1672].filterMap (fun i => lw_tbl[i]?) := by decide +kernel
  have h2 : (u_ws RX12 TX12 37).all goodWord = true := by decide +kernel
  intro w hw
  have h3 := List.all_eq_true.mp h2 w hw
  rw [h1] at hw
  obtain ⟨i, -, hi⟩ := List.mem_filterMap.mp hw
  exact WT_of (List.mem_of_getElem? hi) h3
def clsP (ci : Nat) (q : vw_C) : Prop := (∀ w ∈ u_ws q.1 q.2.1 q.2.2, w ∈ WT) ∧ (∀ k, k < q.2.2 → parseFieldDescriptor (q.2.1 k).2.2.1 = some (cty ci k)) ∧ (∀ a, a < q.2.2 → ∀ b, b < q.2.2 → a ≠ b → (q.2.1 a).2.1 ≠ (q.2.1 b).2.1) ∧ Cond.instantiable q.1 q.2.2 ∈ WT ∧ Cond.initialized q.1 ∈ WT ∧ (∀ k, k < q.2.2 → (q.2.1 k).1 = q.1)
theorem cls_0 : clsP 0 (RX0, TX0, 10) := ⟨uw_0, tyX0_ok, nmX0, WT_of (List.mem_of_getElem? (i := 146) (by decide +kernel)) rfl, WT_of (List.mem_of_getElem? (i := 117) (by decide +kernel)) rfl, by decide +kernel⟩
theorem cls_1 : clsP 1 (RX1, TX1, 17) := ⟨uw_1, tyX1_ok, nmX1, WT_of (List.mem_of_getElem? (i := 423) (by decide +kernel)) rfl, WT_of (List.mem_of_getElem? (i := 127) (by decide +kernel)) rfl, by decide +kernel⟩
theorem cls_2 : clsP 2 (RX2, TX2, 6) := ⟨uw_2, tyX2_ok, nmX2, WT_of (List.mem_of_getElem? (i := 397) (by decide +kernel)) rfl, WT_of (List.mem_of_getElem? (i := 126) (by decide +kernel)) rfl, by decide +kernel⟩
theorem cls_3 : clsP 3 (RX3, TX3, 2) := ⟨uw_3, tyX3_ok, nmX3, WT_of (List.mem_of_getElem? (i := 327) (by decide +kernel)) rfl, WT_of (List.mem_of_getElem? (i := 122) (by decide +kernel)) rfl, by decide +kernel⟩
theorem cls_4 : clsP 4 (RX4, TX4, 5) := ⟨uw_4, tyX4_ok, nmX4, WT_of (List.mem_of_getElem? (i := 365) (by decide +kernel)) rfl, WT_of (List.mem_of_getElem? (i := 125) (by decide +kernel)) rfl, by decide +kernel⟩
theorem cls_5 : clsP 5 (RX5, TX5, 3) := ⟨uw_5, tyX5_ok, nmX5, WT_of (List.mem_of_getElem? (i := 344) (by decide +kernel)) rfl, WT_of (List.mem_of_getElem? (i := 124) (by decide +kernel)) rfl, by decide +kernel⟩
theorem cls_6 : clsP 6 (RX6, TX6, 4) := ⟨uw_6, tyX6_ok, nmX6, WT_of (List.mem_of_getElem? (i := 263) (by decide +kernel)) rfl, WT_of (List.mem_of_getElem? (i := 120) (by decide +kernel)) rfl, by decide +kernel⟩
theorem cls_7 : clsP 7 (RX7, TX7, 2) := ⟨uw_7, tyX7_ok, nmX7, WT_of (List.mem_of_getElem? (i := 481) (by decide +kernel)) rfl, WT_of (List.mem_of_getElem? (i := 128) (by decide +kernel)) rfl, by decide +kernel⟩
theorem cls_8 : clsP 8 (RX8, TX8, 8) := ⟨uw_8, tyX8_ok, nmX8, WT_of (List.mem_of_getElem? (i := 205) (by decide +kernel)) rfl, WT_of (List.mem_of_getElem? (i := 118) (by decide +kernel)) rfl, by decide +kernel⟩
theorem cls_9 : clsP 9 (RX9, TX9, 11) := ⟨uw_9, tyX9_ok, nmX9, WT_of (List.mem_of_getElem? (i := 287) (by decide +kernel)) rfl, WT_of (List.mem_of_getElem? (i := 121) (by decide +kernel)) rfl, by decide +kernel⟩
theorem cls_10 : clsP 10 (RX10, TX10, 6) := ⟨uw_10, tyX10_ok, nmX10, WT_of (List.mem_of_getElem? (i := 238) (by decide +kernel)) rfl, WT_of (List.mem_of_getElem? (i := 119) (by decide +kernel)) rfl, by decide +kernel⟩
theorem cls_11 : clsP 11 (RX11, TX11, 17) := ⟨uw_11, tyX11_ok, nmX11, WT_of (List.mem_of_getElem? (i := 138) (by decide +kernel)) rfl, WT_of (List.mem_of_getElem? (i := 116) (by decide +kernel)) rfl, by decide +kernel⟩
theorem cls_12 : clsP 12 (RX12, TX12, 37) := ⟨uw_12, tyX12_ok, nmX12, WT_of (List.mem_of_getElem? (i := 1554) (by decide +kernel)) rfl, WT_of (List.mem_of_getElem? (i := 129) (by decide +kernel)) rfl, by decide +kernel⟩
theorem clsOf {ci : Nat} {q : vw_C} (h : classes[ci]? = some q) : clsP ci q ∧ q = clN ci := by
  match ci, h with
  | 0, h => cases h; exact ⟨cls_0, rfl⟩
  | 1, h => cases h; exact ⟨cls_1, rfl⟩
  | 2, h => cases h; exact ⟨cls_2, rfl⟩
  | 3, h => cases h; exact ⟨cls_3, rfl⟩
  | 4, h => cases h; exact ⟨cls_4, rfl⟩
  | 5, h => cases h; exact ⟨cls_5, rfl⟩
  | 6, h => cases h; exact ⟨cls_6, rfl⟩
  | 7, h => cases h; exact ⟨cls_7, rfl⟩
  | 8, h => cases h; exact ⟨cls_8, rfl⟩
  | 9, h => cases h; exact ⟨cls_9, rfl⟩
  | 10, h => cases h; exact ⟨cls_10, rfl⟩
  | 11, h => cases h; exact ⟨cls_11, rfl⟩
  | 12, h => cases h; exact ⟨cls_12, rfl⟩
  | n + 13, h => simp [classes] at h
end
section
/-! A SMALL MACHINE over the kit's rows. Its heap: how many cells, how many slots, the cells by number from 0 on (cell k lies at address z + k).
An array's cell: its kind (0 int, 1 long, 2 byte, 3 boolean, 4 Numbers, 5 Image), length and contents; an object's: its class's number, its fields.
Values: a reference is a cell's number; .float u is String constant u; .retAddr 0 is the script, 1 what SIOOBE_FORMATTER holds, n + 2 the bytes of String constant n. -/
abbrev mE : Type := (Nat × vp_A) ⊕ (Nat × List Value)
abbrev mH : Type := Nat × Nat × (Nat → mE)
/-- z; the classes' numbers and slots; the array classes' numbers; String constants' addresses, their bytes' addresses (and what Preconditions.SIOOBE_FORMATTER holds); the script: address, length, ints -/
abbrev mG : Type := Nat × va_G × (Nat → ClassId) × (Nat → Nat) × ((Nat → Nat) × Option Nat) × Nat × Nat × (Nat → Int32)
abbrev mL : Type := List (Nat × Value)
def mv (E : mG) : Value → Value
  | .ref k => .ref (E.1 + k)
  | .float u => .ref (E.2.2.2.1 u.toNat)
  | .retAddr 0 => .ref E.2.2.2.2.2.1
  | .retAddr 1 => va_rf E.2.2.2.2.1.2
  | .retAddr (n + 2) => .ref (E.2.2.2.2.1.1 n)
  | v => v
theorem mv_cat (E : mG) (v : Value) : (mv E v).category = v.category := by
  cases v with
  | retAddr n =>
    match n with
    | 0 => rfl
    | 1 => show (va_rf E.2.2.2.2.1.2).category = 1; cases E.2.2.2.2.1.2 <;> rfl
    | n + 2 => rfl
  | _ => rfl
def mq (E : mG) (q : Nat × Value) : Nat × Value := (q.1, mv E q.2)
def mA (E : mG) : vp_A → vp_A
  | (n, .inr (.inr (.inr (.inr f)))) => (n, .inr (.inr (.inr (.inr (fun j => (f j).map (fun k => E.1 + k))))))
  | x => x
theorem mA_fst (E : mG) (x : vp_A) : (mA E x).1 = x.1 := by
  obtain ⟨n, f | f | f | f | f⟩ := x <;> rfl
def mX (E : mG) : mE → va_E
  | .inl (t, a) => .inl (E.2.2.1 t, mA E a)
  | .inr (ci, fs) => .inr (ci, fs.map (mv E))
def mW (E : mG) (h : mH) : va_W := (List.range h.1).map (fun k => (E.1 + k, mX E (h.2.2 k)))
def mS (h : mH) (k : Nat) (e : mE) : mH := (h.1, h.2.1, fun j => if j = k then e else h.2.2 j)
def mP (h : mH) (n : Nat) (e : mE) : mH := (h.1 + 1, h.2.1 + n, fun j => if j = h.1 then e else h.2.2 j)
theorem mW_at {E : mG} {h : mH} {k : Nat} (hk : k < h.1) : (mW E h)[k]? = some (E.1 + k, mX E (h.2.2 k)) := by
  simp [mW, List.getElem?_map, List.getElem?_range, hk]
theorem mW_lt {E : mG} {h : mH} {k : Nat} {q : Nat × va_E} (hq : (mW E h)[k]? = some q) : k < h.1 ∧ q = (E.1 + k, mX E (h.2.2 k)) := by
  have hl : k < (mW E h).length := (List.getElem?_eq_some_iff.mp hq).1
  have hk : k < h.1 := by simpa [mW] using hl
  rw [mW_at hk] at hq
  exact ⟨hk, (Option.some.inj hq).symm⟩
theorem mW_len (E : mG) (h : mH) : (mW E h).length = h.1 := by simp [mW]
theorem mW_set {E : mG} {h : mH} {k : Nat} {e : mE} (hk : k < h.1) : (mW E h).set k (E.1 + k, mX E e) = mW E (mS h k e) := by
  apply List.ext_getElem?
  intro j
  by_cases hj : j < h.1
  · have e2 : (mW E (mS h k e))[j]? = some (E.1 + j, mX E ((mS h k e).2.2 j)) := mW_at (h := mS h k e) hj
    rw [e2]
    by_cases hjk : j = k
    · subst hjk
      rw [List.getElem?_set_self (by rw [mW_len]; exact hk)]
      simp [mS]
    · rw [List.getElem?_set_ne (Ne.symm hjk), mW_at hj]
      simp [mS, hjk]
  · rw [List.getElem?_eq_none (by rw [List.length_set, mW_len]; omega), List.getElem?_eq_none (by rw [mW_len]; show h.1 ≤ j; omega)]
theorem mW_push {E : mG} {h : mH} {n : Nat} {e : mE} : mW E h ++ [(E.1 + h.1, mX E e)] = mW E (mP h n e) := by
  unfold mW
  rw [show (mP h n e).1 = h.1 + 1 from rfl, List.range_succ, List.map_append]
  congr 1
  · apply List.map_congr_left
    intro k hk
    have hk' : k < h.1 := List.mem_range.mp hk
    have hne : k ≠ h.1 := Nat.ne_of_lt hk'
    simp [mP, hne]
  · simp [mP]
/-- the heap holds the cells, and nothing lies behind them -/
def mR (E : mG) (h : mH) (H : Heap) : Prop := va_P E.2.1 classes (mW E h) H ∧ H.size = E.1 + h.1
theorem mD (E : mG) (h : mH) : va_D (fun q => E.1 ≤ q) (mW E h) := by
  refine ⟨fun i j p q hi hj hpq => ?_, fun k q hk => ?_⟩
  · obtain ⟨-, rfl⟩ := mW_lt hi
    obtain ⟨-, rfl⟩ := mW_lt hj
    have : E.1 + i = E.1 + j := hpq
    omega
  · obtain ⟨-, rfl⟩ := mW_lt hk
    exact Nat.le_add_right _ _
def mT (d : Nat → ClassId) : List (ClassId × FieldType) := [(d 0, .int), (d 1, .long), (d 2, .byte), (d 3, .boolean), (d 4, .object RX5), (d 5, .object RX4)]
/-- the String constants: class, entry, text, by number -/
def sjAll : List (String × Nat × String) := [("NoKnot$Reader", 55, "stakes"), ("NoKnot$Reader", 64, "rod"), ("NoKnot$Reader", 107, "thick"), ("NoKnot$Reader", 109, "shrinks"), ("NoKnot$Reader", 111, "price"), ("NoKnot$Reader", 69, "band"), ("NoKnot$Reader", 119, "before"), ("NoKnot$Reader", 121, "behind"), ("NoKnot$Reader", 123, "rounds"), ("NoKnot$Reader", 125, "from"), ("NoKnot$Reader", 127, "with"), ("NoKnot$Reader", 136, "left"), ("NoKnot$Reader", 138, "out"), ("NoKnot$Reader", 140, "in"), ("NoKnot$Reader", 74, "slip"), ("NoKnot$Reader", 79, "overlap"), ("NoKnot$Reader", 90, "wide"), ("NoKnotModel", 91, " stakes rod thick shrinks price band before behind rounds from with left out in slip overlap wide ")]
def sjLen : List Nat := sjAll.map (fun q => q.2.2.toList.length)
def sjByt : List (List Int32) := sjAll.map (fun q => q.2.2.toList.map (fun c => Int32.ofNat c.toNat))
/-- the start's facts that every method may use -/
def mOK (E : mG) (U : State) : Prop := va_K E.2.1 classes (mT E.2.2.1) U ∧ vk_S 18 sjLen sjByt E.2.2.2.1 E.2.2.2.2.1.1 (fun q => E.1 ≤ q) U U.heap ∧ (∀ (i : Nat) (q : String × Nat × String), sjAll[i]? = some q → vk_R q.1 q.2.1 q.2.2 (E.2.2.2.1 i) U) ∧ (va_Z "java/lang/String" "COMPACT_STRINGS" "Z" (.int 1) (fun q => E.1 ≤ q) U U.heap ∧ va_Z "jdk/internal/util/Preconditions" "SIOOBE_FORMATTER" "Ljava/util/function/BiFunction;" (va_rf E.2.2.2.2.1.2) (fun q => E.1 ≤ q) U U.heap) ∧ va_X E.2.2.2.2.2.1 E.2.2.2.2.2.2.1 E.2.2.2.2.2.2.2 U U.heap ∧ E.2.2.2.2.2.1 < E.1 ∧ E.1 ≤ U.heap.size ∧ (∀ q ∈ nestW, va_Nw (.methodLinkNest q.1 q.2.1 q.2.2 "NoKnot") U) ∧ va_AO RX5 U ∧ va_AO RX4 U
def mws (y : mM) : List Cond := .code y.1 y.2.1 y.2.2.1 y.2.2.2 :: WT
theorem mws_good {y : mM} (h : Cond.code y.1 y.2.1 y.2.2.1 y.2.2.2 ∈ WT) : GoodIn WT (mws y) := by
  intro w hw
  have hm : w ∈ WT := by
    rcases List.mem_cons.mp hw with rfl | h2
    · exact h
    · exact h2
  exact ⟨hm, good_of_word (List.mem_filter.mp hm).2⟩
theorem mOK_blind {E : mG} {U : State} {g : JFrame} {mk : MethodId} {a : Array Value} (h : mOK E U) : mOK E (U.calling g mk a) := by
  obtain ⟨h1, h2, h3, h4, h5, h6, h7, h8⟩ := h
  exact ⟨va_K.moved (u := U) (U := U.calling g mk a) (Vm.Alike.refl U.vm) h1, vk_S.moved (u := U) (U := U.calling g mk a) (Vm.Alike.refl U.vm) h2, fun i q hq => (h3 i q hq).same rfl, h4, h5, h6, h7, fun q hq => (h8.1 q hq).same rfl rfl, va_AO.moved (u := U) (U := U.calling g mk a) (Vm.Alike.refl U.vm) h8.2.1, va_AO.moved (u := U) (U := U.calling g mk a) (Vm.Alike.refl U.vm) h8.2.2⟩
end
section
/-! the judgements: MW (from a place in a method the machine comes to the method's end) and MM (a whole method's contract) -/
def MC (y : mM) (E : mG) (X : Nat × (Nat → Int32)) (d : Nat) (p : Program) (R : Room) (s : State) (m : MethodId) (args : Array Value) (meth : Method) (c : Code) : Prop :=
  p.tables.exec = Jvm.exec ∧ c.code = y.2.1 ∧ c.maxLocals = y.2.2.1 ∧ s.vm.findClass y.1.cls = some m.cls ∧ (∀ w ∈ WT, w.before args s = true) ∧ meth.sig.returnType = y.2.2.2 ∧ meth.locks = false ∧ meth.name = y.1.name ∧ mOK E s ∧ E.2.2.2.2.2.2 = X ∧ d ≤ R.frames ∧ 64 * d + 64 ≤ R.locals
def mQ (E : mG) (r : Option Value) (h' : mH) : Array Value → State → Outcome → State → Prop := fun _ st o t => o = .returned (r.map (mv E)) ∧ mR E h' t.heap ∧ va_F (fun q => E.1 ≤ q) st t
def MW (X : Nat × (Nat → Int32)) (y : mM) (d pc : Nat) (ls : mL) (st : List Value) (h : mH) (r : Option Value) (h' : mH) : Prop :=
  (h.1 ≤ h'.1 ∧ h.2.1 ≤ h'.2.1) ∧ ∀ (p : Program) (l : Launch) (e : Env) (R : Room) (s : State) (m : MethodId) (args : Array Value) (below : List Frame) (meth : Method) (c : Code) (H : Heap) (locs : List Loc) (cells slots : Nat) (lsA : Array Slot) (E : mG),
    MC y E X d p R s m args meth c → mR E h H → va_S (fun q => E.1 ≤ q) s.heap H locs → lv_has lsA y.2.2.1 (ls.map (mq E)) → cells + (h'.1 - h.1) ≤ R.cells → slots + (h'.2.1 - h.2.1) ≤ R.slots →
    W p l e R s m args below meth c H locs cells slots (MQ below (mQ E r h') args s R.cells R.slots (fun q => E.1 ≤ q)) (F0 m pc lsA (st.map (mv E)))
def mRm (d : Nat) (h h' : mH) : Room := { frames := d, cells := h'.1 - h.1, slots := h'.2.1 - h.2.1, locals := 64 * d + 64 }
def MM (y : mM) (d : Nat) (a : List Value) (h : mH) (r : Option Value) (h' : mH) : Prop :=
  (h.1 ≤ h'.1 ∧ h.2.1 ≤ h'.2.1) ∧ ∀ (l : Launch) (E : mG), Met l y.1 (mws y) (mRm d h h') (va_Pc (a.map (mv E)) (fun U => mOK E U ∧ mR E h U.heap)) (mQ E r h') (h'.1 - h.1) (h'.2.1 - h.2.1) (fun q => E.1 ≤ q)
/-- a step that leaves the heap -/
theorem MW.st {X : Nat × (Nat → Int32)} {y : mM} {d pc pc' : Nat} {ls ls' : mL} {st st' : List Value} {h : mH} {r : Option Value} {h' : mH} (k : MW X y d pc' ls' st' h r h')
    (f : ∀ {p : Program} {l : Launch} {e : Env} {R : Room} {s : State} {m : MethodId} {args : Array Value} {below : List Frame} {meth : Method} {c : Code} {H : Heap} {locs : List Loc} {cells slots : Nat} {lsA : Array Slot} {E : mG} {Q : State → Prop},
      MC y E X d p R s m args meth c → mR E h H → va_S (fun q => E.1 ≤ q) s.heap H locs → lv_has lsA y.2.2.1 (ls.map (mq E)) → cells ≤ R.cells → slots ≤ R.slots → (∀ lsB : Array Slot, lv_has lsB y.2.2.1 (ls'.map (mq E)) → W p l e R s m args below meth c H locs cells slots Q (F0 m pc' lsB (st'.map (mv E)))) →
      W p l e R s m args below meth c H locs cells slots Q (F0 m pc lsA (st.map (mv E)))) : MW X y d pc ls st h r h' :=
  ⟨k.1, fun p l e R s m args below meth c H locs cells slots lsA E C hR hS hl h1 h2 => f C hR hS hl (Nat.le_trans (Nat.le_add_right _ _) h1) (Nat.le_trans (Nat.le_add_right _ _) h2) (fun lsB hB => k.2 p l e R s m args below meth c H locs cells slots lsB E C hR hS hB h1 h2)⟩
/-- a step that changes the heap in place -/
theorem MW.hp {X : Nat × (Nat → Int32)} {y : mM} {d pc pc' : Nat} {ls : mL} {st st' : List Value} {h h1 : mH} {r : Option Value} {h' : mH} (k : MW X y d pc' ls st' h1 r h') (e1 : h1.1 = h.1) (e2 : h1.2.1 = h.2.1)
    (f : ∀ {p : Program} {l : Launch} {e : Env} {R : Room} {s : State} {m : MethodId} {args : Array Value} {below : List Frame} {meth : Method} {c : Code} {H : Heap} {locs : List Loc} {cells slots : Nat} {lsA : Array Slot} {E : mG} {Q : State → Prop},
      MC y E X d p R s m args meth c → mR E h H → va_S (fun q => E.1 ≤ q) s.heap H locs → lv_has lsA y.2.2.1 (ls.map (mq E)) → (∀ (H1 : Heap) (locs1 : List Loc), mR E h1 H1 → va_S (fun q => E.1 ≤ q) s.heap H1 locs1 → W p l e R s m args below meth c H1 locs1 cells slots Q (F0 m pc' lsA (st'.map (mv E)))) →
      W p l e R s m args below meth c H locs cells slots Q (F0 m pc lsA (st.map (mv E)))) : MW X y d pc ls st h r h' :=
  ⟨by rw [← e1, ← e2]; exact k.1, fun p l e R s m args below meth c H locs cells slots lsA E C hR hS hl q1 q2 => f C hR hS hl (fun H1 locs1 hR1 hS1 => k.2 p l e R s m args below meth c H1 locs1 cells slots lsA E C hR1 hS1 hl (by rw [e1]; exact q1) (by rw [e2]; exact q2))⟩
/-- fewer locals are enough -/
theorem MW.sub {X : Nat × (Nat → Int32)} {y : mM} {d pc : Nat} {ls ls' : mL} {st : List Value} {h : mH} {r : Option Value} {h' : mH} (hs : ∀ q ∈ ls', q ∈ ls) (k : MW X y d pc ls' st h r h') : MW X y d pc ls st h r h' :=
  MW.st k (fun _ _ _ hl _ _ kk => kk _ ⟨hl.1, hl.2.1, fun q hq => by
    obtain ⟨q0, h0, rfl⟩ := List.mem_map.mp hq
    exact hl.2.2 _ (List.mem_map.mpr ⟨q0, hs q0 h0, rfl⟩)⟩)
/-- a method's contract out of its walk -/
theorem MM.of {y : mM} {d : Nat} {a : List Value} {h : mH} {r : Option Value} {h' : mH} (hy : plainFor y.1 = true) (hle : (lg_sl a).length ≤ y.2.2.1) (k : ∀ X : Nat × (Nat → Int32), MW X y d 0 (lv_args 0 a) [] h r h') : MM y d a h r h' := by
  refine ⟨(k (0, fun _ => 0)).1, fun l E => ?_⟩
  refine va_MetF (cc := y.2.1) (maxL := y.2.2.1) (ret := y.2.2.2) (ws' := WT) hy rfl ?_
  intro p e s m args below meth c s₁ B hml hv
  obtain ⟨rfl, hok, hR⟩ := hv
  have hts := atoms_spec (ws := mws y) B.pre
  have hown : s.vm.findClass y.1.cls = some m.cls := findClass_of_methodNamed B.named
  have hnm : meth.name = y.1.name := (name_of_methodNamed B.named B.method).1
  have hlen : ∀ (vs : List Value), (lg_sl (vs.map (mv E))).length = (lg_sl vs).length := by
    intro vs
    induction vs with
    | nil => rfl
    | cons v vs ih =>
      have e1 := mv_cat E v
      simp only [lg_sl, List.map_cons, List.flatMap_cons, List.length_append] at ih ⊢
      rw [ih, e1]
      split <;> rfl
  have hargs : ∀ (vs : List Value) (n : Nat), lv_args n (vs.map (mv E)) = (lv_args n vs).map (mq E) := by
    intro vs
    induction vs with
    | nil => intro n; rfl
    | cons v vs ih =>
      intro n
      have e1 := mv_cat E v
      simp only [lv_args, List.map_cons]
      rw [e1, ih]
      rfl
  have hl := lv_entry (a.map (mv E)) (n := y.2.2.1) (by rw [hlen]; exact hle)
  rw [lg_entry_eq]
  rw [hargs] at hl
  refine (k E.2.2.2.2.2.2).2 p l e _ s m _ below meth c s.heap [] 0 0 _ E ⟨B.exec, B.bytes, hml, hown, fun w hw => hts w (List.mem_cons_of_mem _ hw), B.returns, B.notSynchronized, hnm, hok, rfl, Nat.le_refl _, Nat.le_refl _⟩ hR va_S.rf hl ?_ ?_
  · show 0 + (h'.1 - h.1) ≤ h'.1 - h.1
    omega
  · show 0 + (h'.2.1 - h.2.1) ≤ h'.2.1 - h.2.1
    omega
end
section
/-! what the small machine's instructions do, as functions -/
def iRem (x y : Int32) : Int32 := x - x / y * y
def iShl (x y : Int32) : Int32 := x <<< (y &&& 31)
def iShr (x y : Int32) : Int32 := x >>> (y &&& 31)
def iUsr (x y : Int32) : Int32 := (x.toUInt32 >>> (y.toUInt32 &&& Int32.toUInt32 31)).toInt32
def lShl (x : Int64) (y : Int32) : Int64 := x <<< (y.toInt64 &&& 63)
def lShr (x : Int64) (y : Int32) : Int64 := x >>> (y.toInt64 &&& 63)
def lUsr (x : Int64) (y : Int32) : Int64 := (x.toUInt64 >>> (y.toInt64.toUInt64 &&& Int64.toUInt64 63)).toInt64
def iMax (x y : Int32) : Int32 := if x < y then y else x
def iMin (x y : Int32) : Int32 := if y < x then y else x
def iAbs (x : Int32) : Int32 := if 0 ≤ x then x else 0 - x
def iByt (x : Int32) : Int32 := x.toInt8.toInt32
def iSho (x : Int32) : Int32 := x.toInt16.toInt32
def cell (h : mH) (a : Nat) : Option mE := if a < h.1 then some (h.2.2 a) else none
def gV (h : mH) (ci a k : Nat) : Option Value := match cell h a with
  | some (.inr (c, fs)) => bif Nat.beq c ci then fs[k]? else none
  | _ => none
def gI (h : mH) (ci a k : Nat) : Option Int32 := match gV h ci a k with
  | some (.int x) => some x
  | _ => none
def gL (h : mH) (ci a k : Nat) : Option Int64 := match gV h ci a k with
  | some (.long x) => some x
  | _ => none
def gR (h : mH) (ci a k : Nat) : Option Nat := match gV h ci a k with
  | some (.ref x) => some x
  | _ => none
def pV (h : mH) (ci a k : Nat) (v : Value) : Option mH := match cell h a with
  | some (.inr (c, fs)) => bif Nat.beq c ci && Nat.blt k fs.length then some (mS h a (.inr (c, fs.set k v))) else none
  | _ => none
def rcv (h : mH) (ci a : Nat) : Option Unit := match cell h a with
  | some (.inr (c, _)) => bif Nat.beq c ci then some () else none
  | _ => none
def ldI (t : Nat) (h : mH) (a : Nat) (i : Int32) : Option Int32 := match cell h a with
  | some (.inl (t', n, .inl f)) => if t' = t ∧ ¬ (i < 0 ∨ n ≤ i.toNatClampNeg) then some (f i.toNatClampNeg) else none
  | _ => none
def ldL (h : mH) (a : Nat) (i : Int32) : Option Int64 := match cell h a with
  | some (.inl (t', n, .inr (.inl f))) => if t' = 1 ∧ ¬ (i < 0 ∨ n ≤ i.toNatClampNeg) then some (f i.toNatClampNeg) else none
  | _ => none
def ldR (t : Nat) (h : mH) (a : Nat) (i : Int32) : Option Nat := match cell h a with
  | some (.inl (t', n, .inr (.inr (.inr (.inr f))))) => if t' = t ∧ ¬ (i < 0 ∨ n ≤ i.toNatClampNeg) then f i.toNatClampNeg else none
  | _ => none
def narB (t : Nat) (x : Int32) : Int32 := match t with
  | 2 => x.toInt8.toInt32
  | 3 => x &&& 1
  | _ => x
def stI (t : Nat) (h : mH) (a : Nat) (i x : Int32) : Option mH := match cell h a with
  | some (.inl (t', n, .inl f)) => if t' = t ∧ ¬ (i < 0 ∨ n ≤ i.toNatClampNeg) then some (mS h a (.inl (t', n, .inl (upd f i.toNatClampNeg (narB t x))))) else none
  | _ => none
def stL (h : mH) (a : Nat) (i : Int32) (x : Int64) : Option mH := match cell h a with
  | some (.inl (t', n, .inr (.inl f))) => if t' = 1 ∧ ¬ (i < 0 ∨ n ≤ i.toNatClampNeg) then some (mS h a (.inl (t', n, .inr (.inl (vp_updL f i.toNatClampNeg x))))) else none
  | _ => none
def stR (t ci : Nat) (h : mH) (a : Nat) (i : Int32) (v : Nat) : Option mH := match cell h a, cell h v with
  | some (.inl (t', n, .inr (.inr (.inr (.inr f))))), some (.inr (c, _)) => if t' = t ∧ c = ci ∧ ¬ (i < 0 ∨ n ≤ i.toNatClampNeg) then some (mS h a (.inl (t', n, .inr (.inr (.inr (.inr (va_up f i.toNatClampNeg (some v)))))))) else none
  | _, _ => none
def lnA (h : mH) (a : Nat) : Option Int32 := match cell h a with
  | some (.inl (t', x)) => bif Nat.blt t' 6 then some (Int32.ofNat x.1) else none
  | _ => none
def cpI (h : mH) (a0 : Nat) (sp : Int32) (a : Nat) (dp n : Int32) : Option mH := match cell h a0, cell h a with
  | some (.inl (t0, n0, .inl f)), some (.inl (t1, n1, .inl g)) => if t0 = 0 ∧ t1 = 0 ∧ ¬ sp < 0 ∧ ¬ dp < 0 ∧ ¬ n < 0 ∧ sp.toNatClampNeg + n.toNatClampNeg ≤ n0 ∧ dp.toNatClampNeg + n.toNatClampNeg ≤ n1 then some (mS h a (.inl (t1, n1, .inl (va_cpy f g sp.toNatClampNeg dp.toNatClampNeg n.toNatClampNeg)))) else none
  | _, _ => none
def zrA (t : Nat) : (Nat → Int32) ⊕ (Nat → Int64) ⊕ (Nat → UInt32) ⊕ (Nat → UInt64) ⊕ (Nat → Option Nat) := match t with
  | 1 => .inr (.inl (fun _ => 0))
  | 4 => .inr (.inr (.inr (.inr (fun _ => none))))
  | 5 => .inr (.inr (.inr (.inr (fun _ => none))))
  | _ => .inl (fun _ => 0)
def nwA (h : mH) (t : Nat) (n : Int32) : Option mH := if ¬ n < 0 ∧ n.toNatClampNeg ≤ 1000000 then some (mP h n.toNatClampNeg (.inl (t, n.toNatClampNeg, zrA t))) else none
def dfl (ci : Nat) : List Value := (List.range (clN ci).2.2).map (fun k => defaultValue (cty ci k))
def nwO (h : mH) (ci : Nat) : mH := mP h (clN ci).2.2 (.inr (ci, dfl ci))
/-! locals -/
def c2v : Value → Bool
  | .long _ => true
  | .double _ => true
  | _ => false
def lg (i : Nat) : mL → Option Value
  | [] => none
  | (j, v) :: r => bif Nat.beq j i then some v else lg i r
def lF1 (i : Nat) : mL → mL
  | [] => []
  | (j, v) :: r => bif (!(Nat.beq j i) && !(Nat.beq (j + 1) i && c2v v)) then (j, v) :: lF1 i r else lF1 i r
def lF2 (i : Nat) : mL → mL
  | [] => []
  | (j, v) :: r => bif (!(Nat.beq j i) && (!(Nat.beq j (i + 1)) && !(Nat.beq (j + 1) i && c2v v))) then (j, v) :: lF2 i r else lF2 i r
/-! stacks -/
section
variable {ρ : Type}
def pp1 (st : List Value) (k : Int32 → List Value → Option ρ) : Option ρ := match st with
  | .int x :: r => k x r
  | _ => none
def pp2 (st : List Value) (k : Int32 → Int32 → List Value → Option ρ) : Option ρ := match st with
  | .int y :: .int x :: r => k x y r
  | _ => none
def pl1 (st : List Value) (k : Int64 → List Value → Option ρ) : Option ρ := match st with
  | .long x :: r => k x r
  | _ => none
def pl2 (st : List Value) (k : Int64 → Int64 → List Value → Option ρ) : Option ρ := match st with
  | .long y :: .long x :: r => k x y r
  | _ => none
def pli (st : List Value) (k : Int64 → Int32 → List Value → Option ρ) : Option ρ := match st with
  | .int y :: .long x :: r => k x y r
  | _ => none
def pr1 (st : List Value) (k : Nat → List Value → Option ρ) : Option ρ := match st with
  | .ref a :: r => k a r
  | _ => none
def pv1 (st : List Value) (k : Value → List Value → Option ρ) : Option ρ := match st with
  | v :: r => bif c2v v then none else k v r
  | _ => none
def pv2 (st : List Value) (k : Value → Value → List Value → Option ρ) : Option ρ := match st with
  | v :: u :: r => bif c2v v || c2v u then none else k v u r
  | _ => none
def pri (st : List Value) (k : Nat → Int32 → List Value → Option ρ) : Option ρ := match st with
  | .int i :: .ref a :: r => k a i r
  | _ => none
def prii (st : List Value) (k : Nat → Int32 → Int32 → List Value → Option ρ) : Option ρ := match st with
  | .int x :: .int i :: .ref a :: r => k a i x r
  | _ => none
def pril (st : List Value) (k : Nat → Int32 → Int64 → List Value → Option ρ) : Option ρ := match st with
  | .long x :: .int i :: .ref a :: r => k a i x r
  | _ => none
def prir (st : List Value) (k : Nat → Int32 → Nat → List Value → Option ρ) : Option ρ := match st with
  | .ref x :: .int i :: .ref a :: r => k a i x r
  | _ => none
def pcpy (st : List Value) (k : Nat → Int32 → Nat → Int32 → Int32 → List Value → Option ρ) : Option ρ := match st with
  | .int n :: .int dp :: .ref a :: .int sp :: .ref a0 :: r => k a0 sp a dp n r
  | _ => none
theorem pp1_s {st : List Value} {k : Int32 → List Value → Option ρ} {q : ρ} (h : pp1 st k = some q) : ∃ x r, st = .int x :: r ∧ k x r = some q := by
  unfold pp1 at h; split at h
  · exact ⟨_, _, rfl, h⟩
  · cases h
theorem pp2_s {st : List Value} {k : Int32 → Int32 → List Value → Option ρ} {q : ρ} (h : pp2 st k = some q) : ∃ x y r, st = .int y :: .int x :: r ∧ k x y r = some q := by
  unfold pp2 at h; split at h
  · exact ⟨_, _, _, rfl, h⟩
  · cases h
theorem pl1_s {st : List Value} {k : Int64 → List Value → Option ρ} {q : ρ} (h : pl1 st k = some q) : ∃ x r, st = .long x :: r ∧ k x r = some q := by
  unfold pl1 at h; split at h
  · exact ⟨_, _, rfl, h⟩
  · cases h
theorem pl2_s {st : List Value} {k : Int64 → Int64 → List Value → Option ρ} {q : ρ} (h : pl2 st k = some q) : ∃ x y r, st = .long y :: .long x :: r ∧ k x y r = some q := by
  unfold pl2 at h; split at h
  · exact ⟨_, _, _, rfl, h⟩
  · cases h
theorem pli_s {st : List Value} {k : Int64 → Int32 → List Value → Option ρ} {q : ρ} (h : pli st k = some q) : ∃ x y r, st = .int y :: .long x :: r ∧ k x y r = some q := by
  unfold pli at h; split at h
  · exact ⟨_, _, _, rfl, h⟩
  · cases h
theorem pr1_s {st : List Value} {k : Nat → List Value → Option ρ} {q : ρ} (h : pr1 st k = some q) : ∃ x r, st = .ref x :: r ∧ k x r = some q := by
  unfold pr1 at h; split at h
  · exact ⟨_, _, rfl, h⟩
  · cases h
theorem c2v_f {v : Value} (h : c2v v = false) : v.category = 1 := by cases v <;> first | rfl | cases h
theorem c2v_t {v : Value} (h : c2v v = true) : v.category = 2 := by cases v <;> first | rfl | cases h
theorem pv1_s {st : List Value} {k : Value → List Value → Option ρ} {q : ρ} (h : pv1 st k = some q) : ∃ v r, st = v :: r ∧ v.category = 1 ∧ k v r = some q := by
  unfold pv1 at h; split at h
  · rename_i v r
    cases hc : c2v v
    · rw [hc] at h; exact ⟨v, r, rfl, c2v_f hc, h⟩
    · rw [hc] at h; cases h
  · cases h
theorem pv2_s {st : List Value} {k : Value → Value → List Value → Option ρ} {q : ρ} (h : pv2 st k = some q) : ∃ v u r, st = v :: u :: r ∧ v.category = 1 ∧ u.category = 1 ∧ k v u r = some q := by
  unfold pv2 at h; split at h
  · rename_i v u r
    cases hc : c2v v <;> cases hu : c2v u <;> rw [hc, hu] at h <;> first | cases h; done | exact ⟨v, u, r, rfl, c2v_f hc, c2v_f hu, h⟩
  · cases h
theorem pri_s {st : List Value} {k : Nat → Int32 → List Value → Option ρ} {q : ρ} (h : pri st k = some q) : ∃ a i r, st = .int i :: .ref a :: r ∧ k a i r = some q := by
  unfold pri at h; split at h
  · exact ⟨_, _, _, rfl, h⟩
  · cases h
theorem prii_s {st : List Value} {k : Nat → Int32 → Int32 → List Value → Option ρ} {q : ρ} (h : prii st k = some q) : ∃ a i x r, st = .int x :: .int i :: .ref a :: r ∧ k a i x r = some q := by
  unfold prii at h; split at h
  · exact ⟨_, _, _, _, rfl, h⟩
  · cases h
theorem pril_s {st : List Value} {k : Nat → Int32 → Int64 → List Value → Option ρ} {q : ρ} (h : pril st k = some q) : ∃ a i x r, st = .long x :: .int i :: .ref a :: r ∧ k a i x r = some q := by
  unfold pril at h; split at h
  · exact ⟨_, _, _, _, rfl, h⟩
  · cases h
theorem prir_s {st : List Value} {k : Nat → Int32 → Nat → List Value → Option ρ} {q : ρ} (h : prir st k = some q) : ∃ a i x r, st = .ref x :: .int i :: .ref a :: r ∧ k a i x r = some q := by
  unfold prir at h; split at h
  · exact ⟨_, _, _, _, rfl, h⟩
  · cases h
theorem pcpy_s {st : List Value} {k : Nat → Int32 → Nat → Int32 → Int32 → List Value → Option ρ} {q : ρ} (h : pcpy st k = some q) : ∃ a0 sp a dp n r, st = .int n :: .int dp :: .ref a :: .int sp :: .ref a0 :: r ∧ k a0 sp a dp n r = some q := by
  unfold pcpy at h; split at h
  · exact ⟨_, _, _, _, _, _, rfl, h⟩
  · cases h
theorem bnd_s {α : Type} {o : Option α} {k : α → Option ρ} {q : ρ} (h : o.bind k = some q) : ∃ x, o = some x ∧ k x = some q := by
  cases o with
  | none => cases h
  | some x => exact ⟨x, rfl, h⟩
end
theorem nbq (a b : Nat) : (a == b) = Nat.beq a b := by
  cases hb : Nat.beq a b
  · have h : a ≠ b := Nat.ne_of_beq_eq_false hb
    simp [h]
  · have h : a = b := Nat.eq_of_beq_eq_true hb
    simp [h]
theorem lg_mem {i : Nat} {v : Value} : ∀ {ls : mL}, lg i ls = some v → (i, v) ∈ ls
  | [], h => by cases h
  | (j, u) :: r, h => by
    unfold lg at h
    cases hb : Nat.beq j i
    · rw [hb] at h
      exact List.mem_cons_of_mem _ (lg_mem h)
    · rw [hb] at h
      have hj : j = i := Nat.eq_of_beq_eq_true hb
      cases h
      subst hj
      exact List.mem_cons_self
theorem lF1_eq (i : Nat) : ∀ ls : mL, lF1 i ls = ls.filter (fun q => !(q.1 == i) && !(q.1 + 1 == i && q.2.category == 2))
  | [] => rfl
  | (j, v) :: r => by
    have e : (q : Value) → (q.category == 2) = c2v q := fun q => by cases q <;> rfl
    unfold lF1
    rw [List.filter_cons, lF1_eq i r]
    show (bif (!(Nat.beq j i) && !(Nat.beq (j + 1) i && c2v v)) then _ else _) = if (!(j == i) && !(j + 1 == i && v.category == 2)) = true then _ else _
    rw [e v]
    have e1 : (j == i) = Nat.beq j i := nbq _ _
    have e2 : (j + 1 == i) = Nat.beq (j + 1) i := nbq _ _
    rw [e1, e2]
    cases (!(Nat.beq j i) && !(Nat.beq (j + 1) i && c2v v)) <;> rfl
theorem lF2_eq (i : Nat) : ∀ ls : mL, lF2 i ls = ls.filter (fun q => !(q.1 == i) && (!(q.1 == i + 1) && !(q.1 + 1 == i && q.2.category == 2)))
  | [] => rfl
  | (j, v) :: r => by
    have e : (q : Value) → (q.category == 2) = c2v q := fun q => by cases q <;> rfl
    unfold lF2
    rw [List.filter_cons, lF2_eq i r]
    show (bif (!(Nat.beq j i) && (!(Nat.beq j (i + 1)) && !(Nat.beq (j + 1) i && c2v v))) then _ else _) = if (!(j == i) && (!(j == i + 1) && !(j + 1 == i && v.category == 2))) = true then _ else _
    rw [e v]
    have e1 : (j == i) = Nat.beq j i := nbq _ _
    have e2 : (j + 1 == i) = Nat.beq (j + 1) i := nbq _ _
    have e3 : (j == i + 1) = Nat.beq j (i + 1) := nbq _ _
    rw [e1, e2, e3]
    cases (!(Nat.beq j i) && (!(Nat.beq j (i + 1)) && !(Nat.beq (j + 1) i && c2v v))) <;> rfl
theorem lF1_mq (E : mG) (i : Nat) : ∀ ls : mL, (lF1 i ls).map (mq E) = (ls.map (mq E)).filter (fun q => !(q.1 == i) && !(q.1 + 1 == i && q.2.category == 2)) := by
  intro ls
  rw [lF1_eq, List.filter_map]
  congr 1
  apply List.filter_congr
  intro q _
  show _ = (!((mq E q).1 == i) && !((mq E q).1 + 1 == i && (mq E q).2.category == 2))
  rw [show (mq E q).2.category = q.2.category from mv_cat E q.2]
  rfl
theorem lF2_mq (E : mG) (i : Nat) : ∀ ls : mL, (lF2 i ls).map (mq E) = (ls.map (mq E)).filter (fun q => !(q.1 == i) && (!(q.1 == i + 1) && !(q.1 + 1 == i && q.2.category == 2))) := by
  intro ls
  rw [lF2_eq, List.filter_map]
  congr 1
  apply List.filter_congr
  intro q _
  show _ = (!((mq E q).1 == i) && (!((mq E q).1 == i + 1) && !((mq E q).1 + 1 == i && (mq E q).2.category == 2)))
  rw [show (mq E q).2.category = q.2.category from mv_cat E q.2]
  rfl
end
section
/-! a row an instruction, over the small machine -/
theorem mR_set {E : mG} {h : mH} {H H1 : Heap} {k : Nat} {e : mE} (hR : mR E h H) (hk : k < h.1) (he : va_at E.2.1 classes (E.1 + k, mX E e) H1) (z : H1.size = H.size) (oq : ∀ q : Nat, q ≠ E.1 + k → H1[q]? = H[q]?) : mR E (mS h k e) H1 :=
  ⟨by rw [← mW_set hk]; exact hR.1.set (mD E h) (mW_at hk) he oq, by rw [z]; exact hR.2⟩
theorem mR_push {E : mG} {h : mH} {H H1 : Heap} {n : Nat} {e : mE} (hR : mR E h H) (he : va_at E.2.1 classes (E.1 + h.1, mX E e) H1) (z : H1.size = H.size + 1) (oq : ∀ q : Nat, q < H.size → H1[q]? = H[q]?) : mR E (mP h n e) H1 := by
  refine ⟨?_, by rw [z, hR.2]; rfl⟩
  rw [← mW_push]
  refine va_P.app (hR.1.kept fun k x hx => oq x.1 ((hR.1 k x hx).lt)) (fun k x hx => ?_)
  have hz : k < 1 := (List.getElem?_eq_some_iff.mp hx).1
  rw [show k = 0 by omega] at hx
  cases hx
  exact he
theorem mR_at {E : mG} {h : mH} {H : Heap} {a : Nat} {e : mE} (hR : mR E h H) (hc : cell h a = some e) : a < h.1 ∧ h.2.2 a = e ∧ va_at E.2.1 classes (E.1 + a, mX E e) H ∧ (mW E h)[a]? = some (E.1 + a, mX E e) := by
  unfold cell at hc
  by_cases ha : a < h.1
  · rw [if_pos ha] at hc
    cases hc
    exact ⟨ha, rfl, hR.1 a _ (mW_at ha), mW_at ha⟩
  · rw [if_neg ha] at hc
    cases hc
theorem gV_s {h : mH} {ci a k : Nat} {v : Value} (e : gV h ci a k = some v) : ∃ fs, cell h a = some (.inr (ci, fs)) ∧ fs[k]? = some v := by
  unfold gV at e
  split at e
  · rename_i c fs hc
    cases hb : Nat.beq c ci
    · rw [hb] at e; cases e
    · rw [hb] at e
      have := Nat.eq_of_beq_eq_true hb
      subst this
      exact ⟨fs, hc, e⟩
  · cases e
theorem pV_s {h h1 : mH} {ci a k : Nat} {v : Value} (e : pV h ci a k v = some h1) : ∃ fs, cell h a = some (.inr (ci, fs)) ∧ k < fs.length ∧ h1 = mS h a (.inr (ci, fs.set k v)) := by
  unfold pV at e
  split at e
  · rename_i c fs hc
    cases hb : (Nat.beq c ci && Nat.blt k fs.length)
    · rw [hb] at e; cases e
    · rw [hb] at e
      rw [Bool.and_eq_true] at hb
      have := Nat.eq_of_beq_eq_true hb.1
      subst this
      exact ⟨fs, hc, Nat.lt_of_succ_le (by simpa [Nat.blt] using hb.2), (Option.some.inj e).symm⟩
  · cases e
theorem lgl {E : mG} {lsA : Array Slot} {nL : Nat} {ls : mL} {j : Nat} {v : Value} (hl : lv_has lsA nL (ls.map (mq E))) (hg : lg j ls = some v) : lsA[j]? = some (.val (mv E v)) :=
  hl.2.2 (j, mv E v) (List.mem_map.mpr ⟨(j, v), lg_mem hg, rfl⟩)
abbrev dcd (y : mM) (pc : Nat) (i : Instr) (n : Nat) : Prop := decode y.2.1 pc = .ok (i, n)
section
variable {X : Nat × (Nat → Int32)} {y : mM} {d pc : Nat} {ls : mL} {st : List Value} {h : mH} {r : Option Value} {h' : mH}
theorem r_iconst {c : Int} (hd : dcd y pc (.iconst c) 1) (k : MW X y d (pc + 1) ls (.int (jI c) :: st) h r h') : MW X y d pc ls st h r h' :=
  MW.st k (fun C _ _ hl _ _ kk => lv_iconst (v := jI c) C.1 C.2.1 hd rfl (kk _ hl))
theorem r_bipush {c : Int} (hd : dcd y pc (.bipush c) 2) (hc : (Int8.ofInt c).toInt32 = jI c) (k : MW X y d (pc + 2) ls (.int (jI c) :: st) h r h') : MW X y d pc ls st h r h' :=
  MW.st k (fun C _ _ hl _ _ kk => lv_bipush (v := jI c) C.1 C.2.1 hd hc (kk _ hl))
theorem r_sipush {c : Int} (hd : dcd y pc (.sipush c) 3) (hc : (Int16.ofInt c).toInt32 = jI c) (k : MW X y d (pc + 3) ls (.int (jI c) :: st) h r h') : MW X y d pc ls st h r h' :=
  MW.st k (fun C _ _ hl _ _ kk => lv_sipush (v := jI c) C.1 C.2.1 hd hc (kk _ hl))
theorem r_lconst {n : Fin 2} {c : Int} (hd : dcd y pc (.lconst n) 1) (hc : Int64.ofNat (n : Nat) = jL c) (k : MW X y d (pc + 1) ls (.long (jL c) :: st) h r h') : MW X y d pc ls st h r h' :=
  MW.st k (fun C _ _ hl _ _ kk => lv_lconst (v := jL c) C.1 C.2.1 hd hc (kk _ hl))
theorem r_ldc {o idx : Nat} {c : Int} (hd : dcd y pc (.ldc idx) 2) (ho : oN o = y.1.cls) (hw : (o, idx, c) ∈ CI) (k : MW X y d (pc + 2) ls (.int (jI c) :: st) h r h') : MW X y d pc ls st h r h' :=
  MW.st k (fun C _ _ hl _ _ kk => lv_ldc (own := oN o) (v := jI c) C.1 C.2.1 (by rw [ho]; exact C.2.2.2.1) (C.2.2.2.2.1 _ (CI_ok _ hw)) hd (kk _ hl))
theorem r_ldcw {o idx : Nat} {c : Int} (hd : dcd y pc (.ldc_w idx) 3) (ho : oN o = y.1.cls) (hw : (o, idx, c) ∈ CI) (k : MW X y d (pc + 3) ls (.int (jI c) :: st) h r h') : MW X y d pc ls st h r h' :=
  MW.st k (fun C _ _ hl _ _ kk => lv_ldcw (own := oN o) (v := jI c) C.1 C.2.1 (by rw [ho]; exact C.2.2.2.1) (C.2.2.2.2.1 _ (CI_ok _ hw)) hd (kk _ hl))
theorem r_ldc2 {o idx : Nat} {c : Int} (hd : dcd y pc (.ldc2_w idx) 3) (ho : oN o = y.1.cls) (hw : (o, idx, c) ∈ CJ) (k : MW X y d (pc + 3) ls (.long (jL c) :: st) h r h') : MW X y d pc ls st h r h' :=
  MW.st k (fun C _ _ hl _ _ kk => lv_ldc2 (own := oN o) (v := jL c) C.1 C.2.1 (by rw [ho]; exact C.2.2.2.1) (C.2.2.2.2.1 _ (CJ_ok _ hw)) hd (kk _ hl))
theorem r_ldcS {i idx : Nat} {tx : String} (hd : dcd y pc (.ldc idx) 2) (hw : sjAll[i]? = some (y.1.cls, idx, tx)) (hi : i < 256) (k : MW X y d (pc + 2) ls (.float (UInt32.ofNat i) :: st) h r h') : MW X y d pc ls st h r h' :=
  MW.st k (fun {p l e R s m args below meth c H locs cells slots lsA E Q} C _ _ hl _ _ kk => by
    have e1 : (UInt32.ofNat i).toNat = i := by
      rw [UInt32.toNat_ofNat']
      exact Nat.mod_eq_of_lt (by omega)
    have k1 := kk _ hl
    rw [List.map_cons, show mv E (.float (UInt32.ofNat i)) = .ref (E.2.2.2.1 i) by show Value.ref (E.2.2.2.1 (UInt32.ofNat i).toNat) = _; rw [e1]] at k1
    exact va_ldcS C.1 C.2.1 C.2.2.2.1 (C.2.2.2.2.2.2.2.2.1.2.2.1 i _ hw) hd k1)
theorem r_iload {j : Nat} {x : Int32} (hd : dcd y pc (.iload j) 2) (hg : lg j ls = some (.int x)) (k : MW X y d (pc + 2) ls (.int x :: st) h r h') : MW X y d pc ls st h r h' :=
  MW.st k (fun C _ _ hl _ _ kk => lv_iload C.1 C.2.1 hd (lgl hl hg) (kk _ hl))
theorem r_iload_n {n : Fin 4} {j : Nat} {x : Int32} (hd : dcd y pc (.iload_n n) 1) (hj : (n : Nat) = j) (hg : lg j ls = some (.int x)) (k : MW X y d (pc + 1) ls (.int x :: st) h r h') : MW X y d pc ls st h r h' :=
  MW.st k (fun C _ _ hl _ _ kk => lv_iload_n C.1 C.2.1 hd hj (lgl hl hg) (kk _ hl))
theorem r_lload {j : Nat} {x : Int64} (hd : dcd y pc (.lload j) 2) (hg : lg j ls = some (.long x)) (k : MW X y d (pc + 2) ls (.long x :: st) h r h') : MW X y d pc ls st h r h' :=
  MW.st k (fun C _ _ hl _ _ kk => lv_lload C.1 C.2.1 hd (lgl hl hg) (kk _ hl))
theorem r_lload_n {n : Fin 4} {j : Nat} {x : Int64} (hd : dcd y pc (.lload_n n) 1) (hj : (n : Nat) = j) (hg : lg j ls = some (.long x)) (k : MW X y d (pc + 1) ls (.long x :: st) h r h') : MW X y d pc ls st h r h' :=
  MW.st k (fun C _ _ hl _ _ kk => lv_lload_n C.1 C.2.1 hd hj (lgl hl hg) (kk _ hl))
/-- references: a cell, a String constant, the script -/
def rfV : Value → Bool
  | .ref _ => true
  | .float _ => true
  | .retAddr 0 => true
  | .retAddr (_ + 2) => true
  | _ => false
theorem rfV_s {v : Value} (hv : rfV v = true) (E : mG) : ∃ a, mv E v = .ref a := by
  cases v with
  | retAddr n =>
    match n, hv with
    | 0, _ => exact ⟨_, rfl⟩
    | n + 2, _ => exact ⟨_, rfl⟩
  | _ => first | cases hv; done | exact ⟨_, rfl⟩
theorem r_aload {j : Nat} {v : Value} (hd : dcd y pc (.aload j) 2) (hg : lg j ls = some v) (hv : rfV v = true) (k : MW X y d (pc + 2) ls (v :: st) h r h') : MW X y d pc ls st h r h' :=
  MW.st k (fun {p l e R s m args below meth c H locs cells slots lsA E Q} C _ _ hl _ _ kk => by
    obtain ⟨a, ea⟩ := rfV_s hv E
    have h1 := lgl hl hg
    have k1 := kk _ hl
    rw [ea] at h1
    rw [List.map_cons, ea] at k1
    exact lv_aload C.1 C.2.1 hd h1 k1)
theorem r_aload_n {n : Fin 4} {j : Nat} {v : Value} (hd : dcd y pc (.aload_n n) 1) (hj : (n : Nat) = j) (hg : lg j ls = some v) (hv : rfV v = true) (k : MW X y d (pc + 1) ls (v :: st) h r h') : MW X y d pc ls st h r h' :=
  MW.st k (fun {p l e R s m args below meth c H locs cells slots lsA E Q} C _ _ hl _ _ kk => by
    obtain ⟨a, ea⟩ := rfV_s hv E
    have h1 := lgl hl hg
    have k1 := kk _ hl
    rw [ea] at h1
    rw [List.map_cons, ea] at k1
    exact lv_aload_n C.1 C.2.1 hd hj h1 k1)
theorem r_istore {j : Nat} {x : Int32} (hd : dcd y pc (.istore j) 2) (hn : j < y.2.2.1) (k : MW X y d (pc + 2) ((j, .int x) :: lF1 j ls) st h r h') : MW X y d pc ls (.int x :: st) h r h' :=
  MW.st k (fun {p l e R s m args below meth c H locs cells slots lsA E Q} C _ _ hl _ _ kk => lv_istore (lv' := ((j, Value.int x) :: lF1 j ls).map (mq E)) C.1 C.2.1 hd hl hn (congrArg (List.cons (j, Value.int x)) (lF1_mq E j ls).symm) kk)
theorem r_istore_n {n : Fin 4} {j : Nat} {x : Int32} (hd : dcd y pc (.istore_n n) 1) (hj : (n : Nat) = j) (hn : j < y.2.2.1) (k : MW X y d (pc + 1) ((j, .int x) :: lF1 j ls) st h r h') : MW X y d pc ls (.int x :: st) h r h' :=
  MW.st k (fun {p l e R s m args below meth c H locs cells slots lsA E Q} C _ _ hl _ _ kk => lv_istore_n (lv' := ((j, Value.int x) :: lF1 j ls).map (mq E)) C.1 C.2.1 hd hj hl hn (congrArg (List.cons (j, Value.int x)) (lF1_mq E j ls).symm) kk)
theorem r_lstore {j : Nat} {x : Int64} (hd : dcd y pc (.lstore j) 2) (hn : j + 1 < y.2.2.1) (k : MW X y d (pc + 2) ((j, .long x) :: lF2 j ls) st h r h') : MW X y d pc ls (.long x :: st) h r h' :=
  MW.st k (fun {p l e R s m args below meth c H locs cells slots lsA E Q} C _ _ hl _ _ kk => lv_lstore (lv' := ((j, Value.long x) :: lF2 j ls).map (mq E)) C.1 C.2.1 hd hl hn (congrArg (List.cons (j, Value.long x)) (lF2_mq E j ls).symm) kk)
theorem r_lstore_n {n : Fin 4} {j : Nat} {x : Int64} (hd : dcd y pc (.lstore_n n) 1) (hj : (n : Nat) = j) (hn : j + 1 < y.2.2.1) (k : MW X y d (pc + 1) ((j, .long x) :: lF2 j ls) st h r h') : MW X y d pc ls (.long x :: st) h r h' :=
  MW.st k (fun {p l e R s m args below meth c H locs cells slots lsA E Q} C _ _ hl _ _ kk => lv_lstore_n (lv' := ((j, Value.long x) :: lF2 j ls).map (mq E)) C.1 C.2.1 hd hj hl hn (congrArg (List.cons (j, Value.long x)) (lF2_mq E j ls).symm) kk)
theorem r_astore {j : Nat} {v : Value} (hd : dcd y pc (.astore j) 2) (hn : j < y.2.2.1) (hv : rfV v = true) (k : MW X y d (pc + 2) ((j, v) :: lF1 j ls) st h r h') : MW X y d pc ls (v :: st) h r h' :=
  MW.st k (fun {p l e R s m args below meth c H locs cells slots lsA E Q} C _ _ hl _ _ kk => by
    obtain ⟨a, ea⟩ := rfV_s hv E
    rw [List.map_cons, ea]
    exact lv_astore (lv' := ((j, v) :: lF1 j ls).map (mq E)) C.1 C.2.1 hd hl hn (by rw [List.map_cons, lF1_mq, show mq E (j, v) = (j, mv E v) from rfl, ea]) kk)
theorem r_astore_n {n : Fin 4} {j : Nat} {v : Value} (hd : dcd y pc (.astore_n n) 1) (hj : (n : Nat) = j) (hn : j < y.2.2.1) (hv : rfV v = true) (k : MW X y d (pc + 1) ((j, v) :: lF1 j ls) st h r h') : MW X y d pc ls (v :: st) h r h' :=
  MW.st k (fun {p l e R s m args below meth c H locs cells slots lsA E Q} C _ _ hl _ _ kk => by
    obtain ⟨a, ea⟩ := rfV_s hv E
    rw [List.map_cons, ea]
    exact lv_astore_n (lv' := ((j, v) :: lF1 j ls).map (mq E)) C.1 C.2.1 hd hj hl hn (by rw [List.map_cons, lF1_mq, show mq E (j, v) = (j, mv E v) from rfl, ea]) kk)
theorem r_iinc {j : Nat} {c : Int} {x : Int32} (hd : dcd y pc (.iinc j c) 3) (hn : j < y.2.2.1) (hg : lg j ls = some (.int x)) (k : MW X y d (pc + 3) ((j, .int (x + jI c)) :: lF1 j ls) st h r h') : MW X y d pc ls st h r h' :=
  MW.st k (fun {p l e R s m args below meth cd H locs cells slots lsA E Q} C _ _ hl _ _ kk => by
    obtain ⟨k0, hk0⟩ := List.getElem?_of_mem (List.mem_map.mpr ⟨(j, Value.int x), lg_mem hg, rfl⟩ : (mq E (j, Value.int x)) ∈ ls.map (mq E))
    exact lv_iinc (v := x + jI c) (lv' := ((j, Value.int (x + jI c)) :: lF1 j ls).map (mq E)) C.1 C.2.1 hd hl hk0 rfl hn (congrArg (List.cons (j, Value.int (x + jI c))) (lF1_mq E j ls).symm) kk)
end
end
section
/-! rows: numbers, stacks -/
section
variable {X : Nat × (Nat → Int32)} {y : mM} {d pc : Nat} {ls : mL} {st : List Value} {h : mH} {r : Option Value} {h' : mH}
theorem r_iadd {a b : Int32} (hd : dcd y pc .iadd 1) (k : MW X y d (pc + 1) ls (.int (a + b) :: st) h r h') : MW X y d pc ls (.int b :: .int a :: st) h r h' :=
  MW.st k (fun C _ _ hl _ _ kk => lv_iadd C.1 C.2.1 hd (kk _ hl))
theorem r_isub {a b : Int32} (hd : dcd y pc .isub 1) (k : MW X y d (pc + 1) ls (.int (a - b) :: st) h r h') : MW X y d pc ls (.int b :: .int a :: st) h r h' :=
  MW.st k (fun C _ _ hl _ _ kk => lv_isub C.1 C.2.1 hd (kk _ hl))
theorem r_imul {a b : Int32} (hd : dcd y pc .imul 1) (k : MW X y d (pc + 1) ls (.int (a * b) :: st) h r h') : MW X y d pc ls (.int b :: .int a :: st) h r h' :=
  MW.st k (fun C _ _ hl _ _ kk => lv_imul C.1 C.2.1 hd (kk _ hl))
theorem r_iand {a b : Int32} (hd : dcd y pc .iand 1) (k : MW X y d (pc + 1) ls (.int (a &&& b) :: st) h r h') : MW X y d pc ls (.int b :: .int a :: st) h r h' :=
  MW.st k (fun C _ _ hl _ _ kk => lv_iand C.1 C.2.1 hd (kk _ hl))
theorem r_ior {a b : Int32} (hd : dcd y pc .ior 1) (k : MW X y d (pc + 1) ls (.int (a ||| b) :: st) h r h') : MW X y d pc ls (.int b :: .int a :: st) h r h' :=
  MW.st k (fun C _ _ hl _ _ kk => lv_ior C.1 C.2.1 hd (kk _ hl))
theorem r_ixor {a b : Int32} (hd : dcd y pc .ixor 1) (k : MW X y d (pc + 1) ls (.int (a ^^^ b) :: st) h r h') : MW X y d pc ls (.int b :: .int a :: st) h r h' :=
  MW.st k (fun C _ _ hl _ _ kk => lv_ixor C.1 C.2.1 hd (kk _ hl))
theorem r_ishl {a b : Int32} (hd : dcd y pc .ishl 1) (k : MW X y d (pc + 1) ls (.int (iShl a b) :: st) h r h') : MW X y d pc ls (.int b :: .int a :: st) h r h' :=
  MW.st k (fun C _ _ hl _ _ kk => lv_ishl C.1 C.2.1 hd (kk _ hl))
theorem r_ishr {a b : Int32} (hd : dcd y pc .ishr 1) (k : MW X y d (pc + 1) ls (.int (iShr a b) :: st) h r h') : MW X y d pc ls (.int b :: .int a :: st) h r h' :=
  MW.st k (fun C _ _ hl _ _ kk => lv_ishr C.1 C.2.1 hd (kk _ hl))
theorem r_iushr {a b : Int32} (hd : dcd y pc .iushr 1) (k : MW X y d (pc + 1) ls (.int (iUsr a b) :: st) h r h') : MW X y d pc ls (.int b :: .int a :: st) h r h' :=
  MW.st k (fun C _ _ hl _ _ kk => lv_iushr (v := iUsr a b) C.1 C.2.1 hd rfl (kk _ hl))
theorem r_idiv {a b : Int32} (hd : dcd y pc .idiv 1) (hne : ¬ b = 0) (k : MW X y d (pc + 1) ls (.int (a / b) :: st) h r h') : MW X y d pc ls (.int b :: .int a :: st) h r h' :=
  MW.st k (fun C _ _ hl _ _ kk => lv_idiv C.1 C.2.1 hd hne (kk _ hl))
theorem r_irem {a b : Int32} (hd : dcd y pc .irem 1) (hne : ¬ b = 0) (k : MW X y d (pc + 1) ls (.int (iRem a b) :: st) h r h') : MW X y d pc ls (.int b :: .int a :: st) h r h' :=
  MW.st k (fun C _ _ hl _ _ kk => lv_irem C.1 C.2.1 hd hne (kk _ hl))
theorem r_ineg {a : Int32} (hd : dcd y pc .ineg 1) (k : MW X y d (pc + 1) ls (.int (-a) :: st) h r h') : MW X y d pc ls (.int a :: st) h r h' :=
  MW.st k (fun C _ _ hl _ _ kk => lv_ineg C.1 C.2.1 hd (kk _ hl))
theorem r_ladd {a b : Int64} (hd : dcd y pc .ladd 1) (k : MW X y d (pc + 1) ls (.long (a + b) :: st) h r h') : MW X y d pc ls (.long b :: .long a :: st) h r h' :=
  MW.st k (fun C _ _ hl _ _ kk => lv_ladd C.1 C.2.1 hd (kk _ hl))
theorem r_lsub {a b : Int64} (hd : dcd y pc .lsub 1) (k : MW X y d (pc + 1) ls (.long (a - b) :: st) h r h') : MW X y d pc ls (.long b :: .long a :: st) h r h' :=
  MW.st k (fun C _ _ hl _ _ kk => lv_lsub C.1 C.2.1 hd (kk _ hl))
theorem r_lmul {a b : Int64} (hd : dcd y pc .lmul 1) (k : MW X y d (pc + 1) ls (.long (a * b) :: st) h r h') : MW X y d pc ls (.long b :: .long a :: st) h r h' :=
  MW.st k (fun C _ _ hl _ _ kk => lv_lmul C.1 C.2.1 hd (kk _ hl))
theorem r_land {a b : Int64} (hd : dcd y pc .land 1) (k : MW X y d (pc + 1) ls (.long (a &&& b) :: st) h r h') : MW X y d pc ls (.long b :: .long a :: st) h r h' :=
  MW.st k (fun C _ _ hl _ _ kk => lv_land C.1 C.2.1 hd (kk _ hl))
theorem r_lor {a b : Int64} (hd : dcd y pc .lor 1) (k : MW X y d (pc + 1) ls (.long (a ||| b) :: st) h r h') : MW X y d pc ls (.long b :: .long a :: st) h r h' :=
  MW.st k (fun C _ _ hl _ _ kk => lv_lor C.1 C.2.1 hd (kk _ hl))
theorem r_lshl {a : Int64} {b : Int32} (hd : dcd y pc .lshl 1) (k : MW X y d (pc + 1) ls (.long (lShl a b) :: st) h r h') : MW X y d pc ls (.int b :: .long a :: st) h r h' :=
  MW.st k (fun C _ _ hl _ _ kk => lv_lshl (v := lShl a b) C.1 C.2.1 hd rfl (kk _ hl))
theorem r_lshr {a : Int64} {b : Int32} (hd : dcd y pc .lshr 1) (k : MW X y d (pc + 1) ls (.long (lShr a b) :: st) h r h') : MW X y d pc ls (.int b :: .long a :: st) h r h' :=
  MW.st k (fun C _ _ hl _ _ kk => lv_lshr (v := lShr a b) C.1 C.2.1 hd rfl (kk _ hl))
theorem r_lushr {a : Int64} {b : Int32} (hd : dcd y pc .lushr 1) (k : MW X y d (pc + 1) ls (.long (lUsr a b) :: st) h r h') : MW X y d pc ls (.int b :: .long a :: st) h r h' :=
  MW.st k (fun C _ _ hl _ _ kk => lv_lushr (v := lUsr a b) C.1 C.2.1 hd rfl (kk _ hl))
theorem r_i2l {a : Int32} (hd : dcd y pc .i2l 1) (k : MW X y d (pc + 1) ls (.long a.toInt64 :: st) h r h') : MW X y d pc ls (.int a :: st) h r h' :=
  MW.st k (fun C _ _ hl _ _ kk => lv_i2l (v := a.toInt64) C.1 C.2.1 hd rfl (kk _ hl))
theorem r_l2i {a : Int64} (hd : dcd y pc .l2i 1) (k : MW X y d (pc + 1) ls (.int a.toInt32 :: st) h r h') : MW X y d pc ls (.long a :: st) h r h' :=
  MW.st k (fun C _ _ hl _ _ kk => lv_l2i (v := a.toInt32) C.1 C.2.1 hd rfl (kk _ hl))
theorem r_i2b {a : Int32} (hd : dcd y pc .i2b 1) (k : MW X y d (pc + 1) ls (.int (iByt a) :: st) h r h') : MW X y d pc ls (.int a :: st) h r h' :=
  MW.st k (fun C _ _ hl _ _ kk => lv_i2b (v := iByt a) C.1 C.2.1 hd rfl (kk _ hl))
theorem r_i2s {a : Int32} (hd : dcd y pc .i2s 1) (k : MW X y d (pc + 1) ls (.int (iSho a) :: st) h r h') : MW X y d pc ls (.int a :: st) h r h' :=
  MW.st k (fun C _ _ hl _ _ kk => lv_i2s (v := iSho a) C.1 C.2.1 hd rfl (kk _ hl))
theorem r_dup {v : Value} (hd : dcd y pc .dup 1) (hv : v.category = 1) (k : MW X y d (pc + 1) ls (v :: v :: st) h r h') : MW X y d pc ls (v :: st) h r h' :=
  MW.st k (fun {p l e R s m args below meth c H locs cells slots lsA E Q} C _ _ hl _ _ kk => lv_dup C.1 C.2.1 hd ((mv_cat E v).trans hv) (kk _ hl))
theorem r_pop {v : Value} (hd : dcd y pc .pop 1) (hv : v.category = 1) (k : MW X y d (pc + 1) ls st h r h') : MW X y d pc ls (v :: st) h r h' :=
  MW.st k (fun {p l e R s m args below meth c H locs cells slots lsA E Q} C _ _ hl _ _ kk => lv_pop C.1 C.2.1 hd ((mv_cat E v).trans hv) (kk _ hl))
theorem r_dup2 {v u : Value} (hd : dcd y pc .dup2 1) (hv : v.category = 1) (hu : u.category = 1) (k : MW X y d (pc + 1) ls (v :: u :: v :: u :: st) h r h') : MW X y d pc ls (v :: u :: st) h r h' :=
  MW.st k (fun {p l e R s m args below meth c H locs cells slots lsA E Q} C _ _ hl _ _ kk => lv_dup2_11 C.1 C.2.1 hd ((mv_cat E v).trans hv) ((mv_cat E u).trans hu) (kk _ hl))
theorem r_pop2 {a : Int64} (hd : dcd y pc .pop2 1) (k : MW X y d (pc + 1) ls st h r h') : MW X y d pc ls (.long a :: st) h r h' :=
  MW.st k (fun C _ _ hl _ _ kk => lv_pop2_2 C.1 C.2.1 hd rfl (kk _ hl))
theorem r_goto {off : Int} {t : Nat} (hd : dcd y pc (.goto off) 3) (ht : (pc : Int) + off = (t : Int)) (k : MW X y d t ls st h r h') : MW X y d pc ls st h r h' :=
  MW.st k (fun C _ _ hl _ _ kk => lv_goto C.1 C.2.1 hd ht (kk _ hl))
theorem MW.br {X : Nat × (Nat → Int32)} {y : mM} {d pc p1 p2 : Nat} {ls : mL} {st st' : List Value} {h : mH} {r : Option Value} {h' : mH} {c : Prop} [Decidable c] (k1 : c → MW X y d p1 ls st' h r h') (k2 : ¬ c → MW X y d p2 ls st' h r h')
    (f : ∀ {p : Program} {l : Launch} {e : Env} {R : Room} {s : State} {m : MethodId} {args : Array Value} {below : List Frame} {meth : Method} {cd : Code} {H : Heap} {locs : List Loc} {cells slots : Nat} {lsA : Array Slot} {E : mG} {Q : State → Prop},
      MC y E X d p R s m args meth cd → (c → W p l e R s m args below meth cd H locs cells slots Q (F0 m p1 lsA (st'.map (mv E)))) → (¬ c → W p l e R s m args below meth cd H locs cells slots Q (F0 m p2 lsA (st'.map (mv E)))) →
      W p l e R s m args below meth cd H locs cells slots Q (F0 m pc lsA (st.map (mv E)))) : MW X y d pc ls st h r h' := by
  refine ⟨?_, fun p l e R s m args below meth cd H locs cells slots lsA E C hR hS hl q1 q2 => f C (fun hc => (k1 hc).2 p l e R s m args below meth cd H locs cells slots lsA E C hR hS hl q1 q2) (fun hc => (k2 hc).2 p l e R s m args below meth cd H locs cells slots lsA E C hR hS hl q1 q2)⟩
  by_cases hc : c
  · exact (k1 hc).1
  · exact (k2 hc).1
theorem r_icmp_eq {a b : Int32} {off : Int} {t : Nat} (hd : dcd y pc (.if_icmp .eq off) 3) (ht : (pc : Int) + off = (t : Int)) (k1 : a = b → MW X y d (t) ls st h r h') (k2 : ¬ a = b → MW X y d (pc + 3) ls st h r h') : MW X y d pc ls (.int b :: .int a :: st) h r h' :=
  MW.br k1 k2 (fun C a1 a2 => lv_icmp_eq C.1 C.2.1 hd ht a1 a2)
theorem r_icmp_ne {a b : Int32} {off : Int} {t : Nat} (hd : dcd y pc (.if_icmp .ne off) 3) (ht : (pc : Int) + off = (t : Int)) (k1 : a = b → MW X y d (pc + 3) ls st h r h') (k2 : ¬ a = b → MW X y d (t) ls st h r h') : MW X y d pc ls (.int b :: .int a :: st) h r h' :=
  MW.br k1 k2 (fun C a1 a2 => lv_icmp_ne C.1 C.2.1 hd ht a2 a1)
theorem r_icmp_lt {a b : Int32} {off : Int} {t : Nat} (hd : dcd y pc (.if_icmp .lt off) 3) (ht : (pc : Int) + off = (t : Int)) (k1 : a < b → MW X y d (t) ls st h r h') (k2 : ¬ a < b → MW X y d (pc + 3) ls st h r h') : MW X y d pc ls (.int b :: .int a :: st) h r h' :=
  MW.br k1 k2 (fun C a1 a2 => lv_icmp_lt C.1 C.2.1 hd ht a1 a2)
theorem r_icmp_ge {a b : Int32} {off : Int} {t : Nat} (hd : dcd y pc (.if_icmp .ge off) 3) (ht : (pc : Int) + off = (t : Int)) (k1 : a < b → MW X y d (pc + 3) ls st h r h') (k2 : ¬ a < b → MW X y d (t) ls st h r h') : MW X y d pc ls (.int b :: .int a :: st) h r h' :=
  MW.br k1 k2 (fun C a1 a2 => lv_icmp_ge C.1 C.2.1 hd ht (fun q => a2 (Int32.not_lt.mpr q)) (fun q => a1 (Int32.not_le.mp q)))
theorem r_icmp_gt {a b : Int32} {off : Int} {t : Nat} (hd : dcd y pc (.if_icmp .gt off) 3) (ht : (pc : Int) + off = (t : Int)) (k1 : b < a → MW X y d (t) ls st h r h') (k2 : ¬ b < a → MW X y d (pc + 3) ls st h r h') : MW X y d pc ls (.int b :: .int a :: st) h r h' :=
  MW.br k1 k2 (fun C a1 a2 => lv_icmp_gt C.1 C.2.1 hd ht a1 a2)
theorem r_icmp_le {a b : Int32} {off : Int} {t : Nat} (hd : dcd y pc (.if_icmp .le off) 3) (ht : (pc : Int) + off = (t : Int)) (k1 : b < a → MW X y d (pc + 3) ls st h r h') (k2 : ¬ b < a → MW X y d (t) ls st h r h') : MW X y d pc ls (.int b :: .int a :: st) h r h' :=
  MW.br k1 k2 (fun C a1 a2 => lv_icmp_le C.1 C.2.1 hd ht (fun q => a2 (Int32.not_lt.mpr q)) (fun q => a1 (Int32.not_le.mp q)))
theorem r_if_eq {a : Int32} {off : Int} {t : Nat} (hd : dcd y pc (.ifCond .eq off) 3) (ht : (pc : Int) + off = (t : Int)) (k1 : a = 0 → MW X y d (t) ls st h r h') (k2 : ¬ a = 0 → MW X y d (pc + 3) ls st h r h') : MW X y d pc ls (.int a :: st) h r h' :=
  MW.br k1 k2 (fun C a1 a2 => lv_if_eq C.1 C.2.1 hd ht a1 a2)
theorem r_if_ne {a : Int32} {off : Int} {t : Nat} (hd : dcd y pc (.ifCond .ne off) 3) (ht : (pc : Int) + off = (t : Int)) (k1 : a = 0 → MW X y d (pc + 3) ls st h r h') (k2 : ¬ a = 0 → MW X y d (t) ls st h r h') : MW X y d pc ls (.int a :: st) h r h' :=
  MW.br k1 k2 (fun C a1 a2 => lv_if_ne C.1 C.2.1 hd ht a2 a1)
theorem r_if_lt {a : Int32} {off : Int} {t : Nat} (hd : dcd y pc (.ifCond .lt off) 3) (ht : (pc : Int) + off = (t : Int)) (k1 : a < 0 → MW X y d (t) ls st h r h') (k2 : ¬ a < 0 → MW X y d (pc + 3) ls st h r h') : MW X y d pc ls (.int a :: st) h r h' :=
  MW.br k1 k2 (fun C a1 a2 => lv_if_lt C.1 C.2.1 hd ht a1 a2)
theorem r_if_ge {a : Int32} {off : Int} {t : Nat} (hd : dcd y pc (.ifCond .ge off) 3) (ht : (pc : Int) + off = (t : Int)) (k1 : a < 0 → MW X y d (pc + 3) ls st h r h') (k2 : ¬ a < 0 → MW X y d (t) ls st h r h') : MW X y d pc ls (.int a :: st) h r h' :=
  MW.br k1 k2 (fun C a1 a2 => lv_if_ge C.1 C.2.1 hd ht (fun q => a2 (Int32.not_lt.mpr q)) (fun q => a1 (Int32.not_le.mp q)))
theorem r_if_gt {a : Int32} {off : Int} {t : Nat} (hd : dcd y pc (.ifCond .gt off) 3) (ht : (pc : Int) + off = (t : Int)) (k1 : 0 < a → MW X y d (t) ls st h r h') (k2 : ¬ 0 < a → MW X y d (pc + 3) ls st h r h') : MW X y d pc ls (.int a :: st) h r h' :=
  MW.br k1 k2 (fun C a1 a2 => lv_if_gt C.1 C.2.1 hd ht a1 a2)
theorem r_if_le {a : Int32} {off : Int} {t : Nat} (hd : dcd y pc (.ifCond .le off) 3) (ht : (pc : Int) + off = (t : Int)) (k1 : 0 < a → MW X y d (pc + 3) ls st h r h') (k2 : ¬ 0 < a → MW X y d (t) ls st h r h') : MW X y d pc ls (.int a :: st) h r h' :=
  MW.br k1 k2 (fun C a1 a2 => lv_if_le C.1 C.2.1 hd ht (fun q => a2 (Int32.not_lt.mpr q)) (fun q => a1 (Int32.not_le.mp q)))
theorem r_lcmp {a b : Int64} (hd : dcd y pc .lcmp 1) (k : MW X y d (pc + 1) ls (.int (lg_cmp a b) :: st) h r h') : MW X y d pc ls (.long b :: .long a :: st) h r h' :=
  MW.st k (fun C _ _ hl _ _ kk => W.lcmp C.1 C.2.1 hd (kk _ hl))
end
end
section
/-! rows: fields, arrays, new cells -/
theorem mW_new {E : mG} {h : mH} {a ci : Nat} {fs : List Value} (hc : cell h a = some (.inr (ci, fs))) {H : Heap} (hR : mR E h H) : (mW E h)[a]? = some (E.1 + a, .inr (ci, fs.map (mv E))) := (mR_at hR hc).2.2.2
theorem mT_at (d : Nat → ClassId) {t : Nat} (ht : t < 6) : ∃ ty, (mT d)[t]? = some (d t, ty) := by
  match t, ht with
  | 0, _ => exact ⟨_, rfl⟩
  | 1, _ => exact ⟨_, rfl⟩
  | 2, _ => exact ⟨_, rfl⟩
  | 3, _ => exact ⟨_, rfl⟩
  | 4, _ => exact ⟨_, rfl⟩
  | 5, _ => exact ⟨_, rfl⟩
section
variable {X : Nat × (Nat → Int32)} {y : mM} {d pc : Nat} {ls : mL} {st : List Value} {h : mH} {r : Option Value} {h' : mH}
theorem r_get {o idx ci kf a : Nat} {v : Value} (hd : dcd y pc (.getfield idx) 3) (ho : oN o = y.1.cls) (hf : (o, idx, ci, kf) ∈ FL) (hc : classes[ci]? = some (clN ci)) (hk : kf < (clN ci).2.2) (hv : gV h ci a kf = some v) (k : MW X y d (pc + 3) ls (v :: st) h r h') : MW X y d pc ls (.ref a :: st) h r h' :=
  MW.st k (fun {p l e R s m args below meth c H locs cells slots lsA E Q} C hR hS hl _ _ kk => by
    obtain ⟨fs, hcell, hfs⟩ := gV_s hv
    obtain ⟨⟨c1, c2, c3, c4, c5, c6⟩, -⟩ := clsOf hc
    have hw := C.2.2.2.2.1 _ (FL_ok _ hf)
    exact va_get (own := oN o) (ref := (clN ci).1) (C := (clN ci).1) (T := (clN ci).2.1) (N := (clN ci).2.2) (ci := ci) (index := idx) (Ts := WT) C.1 C.2.1 C.2.2.2.2.1 c1 (by rw [ho]; exact C.2.2.2.1) C.2.2.2.2.2.2.2.2.1.1 hR.1 a (mW_new hcell hR) hc kf hk hw (by rw [c6 kf hk]; exact fun x hx => hx) (v := mv E v) (by rw [List.getElem?_map, hfs]; rfl) hd (kk _ hl))
theorem r_put {o idx ci kf a : Nat} {v : Value} {h1 : mH} (hd : dcd y pc (.putfield idx) 3) (ho : oN o = y.1.cls) (hf : (o, idx, ci, kf) ∈ FL) (hc : classes[ci]? = some (clN ci)) (hk : kf < (clN ci).2.2) (hfin : ((clN ci).2.1 kf).2.2.2 = true → y.1.name = "<init>" ∧ (clN ci).1 = oN o)
    (hfit : ∀ E : mG, narrow (cty ci kf) (mv E v) = mv E v ∧ fits (cty ci kf) (mv E v) = true) (hp : pV h ci a kf v = some h1) (k : MW X y d (pc + 3) ls st h1 r h') : MW X y d pc ls (v :: .ref a :: st) h r h' := by
  obtain ⟨fs, hcell, hlen, rfl⟩ := pV_s hp
  obtain ⟨⟨c1, c2, c3, c4, c5, c6⟩, -⟩ := clsOf hc
  refine MW.hp k rfl rfl (fun {p l e R s m args below meth c H locs cells slots lsA E Q} C hR hS hl kk => ?_)
  have hown : s.vm.findClass (oN o) = some m.cls := by rw [ho]; exact C.2.2.2.1
  have hts := C.2.2.2.2.1
  have hK := C.2.2.2.2.2.2.2.2.1.1
  have hw := hts _ (FL_ok _ hf)
  obtain ⟨ha, hcl, hat, he⟩ := mR_at hR hcell
  have hap := va_apart (own := oN o) hts c1 (cty ci) c2 c3 hK hc
  obtain ⟨rr, g1, cel, q1, q2, q3, q4⟩ := hR.1 a _ he
  have hr : rr = clN ci := Option.some.inj (g1.symm.trans hc)
  subst hr
  obtain ⟨hSl, hfc, kC, hkC, hkind⟩ := hK.1 ci _ hc
  obtain ⟨cf, kfl, fi, f, hi, hsl⟩ := hSl kf hk
  have hst := (u_facts hfc hkC (u_lays hts c1 hk) hi).1
  have hd1 := c2 kf hk
  obtain ⟨hn, hft⟩ := hfit E
  have hsame : ∀ x, s.fieldFound? ((clN ci).2.1 kf).1 ((clN ci).2.1 kf).2.1 ((clN ci).2.1 kf).2.2.1 = some x → s.fieldFound? (clN ci).1 ((clN ci).2.1 kf).2.1 ((clN ci).2.1 kf).2.2.1 = some x := by
    rw [c6 kf hk]; exact fun x hx => hx
  have fin : ∀ (H1 : Heap), H1[E.1 + a]? = some (cel.setSlot f.slot (mv E v)) → H1.size = H.size → (∀ q, q ≠ E.1 + a → H1[q]? = H[q]?) → W p l e R s m args below meth c H1 (locs ++ [⟨E.1 + a, f.slot⟩]) cells slots Q (F0 m (pc + 3) lsA (st.map (mv E))) := by
    intro H1 e1 e2 e3
    rw [hsl] at e1
    refine kk H1 _ (mR_set hR ha ?_ e2 e3) (hS.put e2 e3 (Nat.le_add_right _ _))
    refine ⟨_, hc, ?_⟩
    have hmap : (fs.set kf v).map (mv E) = (fs.map (mv E)).set kf (mv E v) := by rw [List.map_set]
    show t_OB (E.1 + a) (E.2.1.1 ci) (clN ci).2.2 (E.2.1.2 ci) H1 (vp_V ((fs.set kf v).map (mv E)))
    rw [hmap]
    exact t_OB.to (V := updV (vp_V (fs.map (mv E))) kf (mv E v)) ⟨_, e1, q2, q3, t_set q4 hap hk (mv E v)⟩ (fun j _ => vp_updV_set (by rw [List.length_map]; exact hlen) (mv E v) j)
  cases hfb : ((clN ci).2.1 kf).2.2.2 with
  | false =>
    have hlay := hts _ (c1 _ (u_in_lay hk))
    unfold u_lay at hlay
    rw [if_neg (by rw [hfb]; decide)] at hlay
    have h6 := u_store hfc hkC hkind hlay hi hd1 hn hft
    exact W.putK C.1 C.2.1 (f := f) ⟨hown, hw, ⟨_, _, _, hsame _ hi⟩, hst⟩ (by rw [q2]; exact h6) q1 q3 (by rw [hsl]; exact k2_hasslot (q4 kf hk)) rfl rfl hd fin
  | true =>
    obtain ⟨hin1, hin2⟩ := hfin hfb
    have h6 := u_fits hfc hkC hkind (u_lays hts c1 hk) hi hd1 hn hft
    have hlay := hts _ (c1 _ (u_in_lay hk))
    unfold u_lay at hlay
    rw [if_pos hfb] at hlay
    have hcf : m.cls = cf := by
      obtain ⟨_, _, c', _, _, _, -, -, hf', -, -, -, hown2, -⟩ := Cond.laysFinal_spec hlay
      have e1 : c' = cf := by have := hi.symm.trans hf'; simp at this; exact this.1.symm
      rw [c6 kf hk, hin2] at hown2
      rw [← e1]; exact Option.some.inj (hown.symm.trans hown2)
    exact W.putFinK C.1 C.2.1 hown hw (hsame _ hi) hst hcf (by rw [C.2.2.2.2.2.2.2.1]; exact hin1) (by rw [q2]; exact h6) q1 q3 (by rw [hsl]; exact k2_hasslot (q4 kf hk)) rfl rfl hd fin
theorem r_alen {a : Nat} {n : Int32} (hd : dcd y pc .arraylength 1) (hv : lnA h a = some n) (k : MW X y d (pc + 1) ls (.int n :: st) h r h') : MW X y d pc ls (.ref a :: st) h r h' :=
  MW.st k (fun {p l e R s m args below meth c H locs cells slots lsA E Q} C hR hS hl _ _ kk => by
    unfold lnA at hv
    split at hv
    · rename_i t' x hc
      cases hb : Nat.blt t' 6
      · rw [hb] at hv; cases hv
      · rw [hb] at hv
        have ht : t' < 6 := Nat.lt_of_succ_le (by simpa [Nat.blt] using hb)
        obtain ⟨ty, hty⟩ := mT_at E.2.2.1 ht
        exact va_alen C.1 C.2.1 C.2.2.2.2.2.2.2.2.1.1 hR.1 a t' (mR_at hR hc).2.2.2 hty (v := n) (by rw [mA_fst]; exact Option.some.inj hv) hd (kk _ hl)
    · cases hv)
theorem r_iald {a : Nat} {i x : Int32} (hd : dcd y pc .iaload 1) (hv : ldI 0 h a i = some x) (k : MW X y d (pc + 1) ls (.int x :: st) h r h') : MW X y d pc ls (.int i :: .ref a :: st) h r h' :=
  MW.st k (fun {p l e R s m args below meth c H locs cells slots lsA E Q} C hR hS hl _ _ kk => by
    unfold ldI at hv
    split at hv
    · rename_i t' n f hc
      split at hv
      · rename_i hq
        obtain ⟨rfl, hin⟩ := hq
        cases hv
        exact va_iald C.1 C.2.1 C.2.2.2.2.2.2.2.2.1.1 hR.1 a 0 (mR_at hR hc).2.2.2 rfl hin hd (kk _ hl)
      · cases hv
    · cases hv)
theorem r_bald {a : Nat} {i x : Int32} (hd : dcd y pc .baload 1) (hv : ldI 2 h a i = some x) (k : MW X y d (pc + 1) ls (.int x :: st) h r h') : MW X y d pc ls (.int i :: .ref a :: st) h r h' :=
  MW.st k (fun {p l e R s m args below meth c H locs cells slots lsA E Q} C hR hS hl _ _ kk => by
    unfold ldI at hv
    split at hv
    · rename_i t' n f hc
      split at hv
      · rename_i hq
        obtain ⟨rfl, hin⟩ := hq
        cases hv
        exact va_bald C.1 C.2.1 C.2.2.2.2.2.2.2.2.1.1 hR.1 a 2 (mR_at hR hc).2.2.2 rfl hin hd (kk _ hl)
      · cases hv
    · cases hv)
theorem r_zald {a : Nat} {i x : Int32} (hd : dcd y pc .baload 1) (hv : ldI 3 h a i = some x) (k : MW X y d (pc + 1) ls (.int x :: st) h r h') : MW X y d pc ls (.int i :: .ref a :: st) h r h' :=
  MW.st k (fun {p l e R s m args below meth c H locs cells slots lsA E Q} C hR hS hl _ _ kk => by
    unfold ldI at hv
    split at hv
    · rename_i t' n f hc
      split at hv
      · rename_i hq
        obtain ⟨rfl, hin⟩ := hq
        cases hv
        exact va_zald C.1 C.2.1 C.2.2.2.2.2.2.2.2.1.1 hR.1 a 3 (mR_at hR hc).2.2.2 rfl hin hd (kk _ hl)
      · cases hv
    · cases hv)
theorem r_lald {a : Nat} {i : Int32} {x : Int64} (hd : dcd y pc .laload 1) (hv : ldL h a i = some x) (k : MW X y d (pc + 1) ls (.long x :: st) h r h') : MW X y d pc ls (.int i :: .ref a :: st) h r h' :=
  MW.st k (fun {p l e R s m args below meth c H locs cells slots lsA E Q} C hR hS hl _ _ kk => by
    unfold ldL at hv
    split at hv
    · rename_i t' n f hc
      split at hv
      · rename_i hq
        obtain ⟨rfl, hin⟩ := hq
        cases hv
        exact va_lald C.1 C.2.1 C.2.2.2.2.2.2.2.2.1.1 hR.1 a 1 (mR_at hR hc).2.2.2 rfl hin hd (kk _ hl)
      · cases hv
    · cases hv)
theorem r_aald {t a b : Nat} {i : Int32} (ht : t = 4 ∨ t = 5) (hd : dcd y pc .aaload 1) (hv : ldR t h a i = some b) (k : MW X y d (pc + 1) ls (.ref b :: st) h r h') : MW X y d pc ls (.int i :: .ref a :: st) h r h' :=
  MW.st k (fun {p l e R s m args below meth c H locs cells slots lsA E Q} C hR hS hl _ _ kk => by
    unfold ldR at hv
    split at hv
    · rename_i t' n f hc
      split at hv
      · rename_i hq
        obtain ⟨rfl, hin⟩ := hq
        have k1 := kk _ hl
        have e1 : Value.ref (E.1 + b) = va_rf ((f i.toNatClampNeg).map (fun k => E.1 + k)) := by rw [hv]; rfl
        rw [List.map_cons, show mv E (.ref b) = .ref (E.1 + b) from rfl, e1] at k1
        rcases ht with rfl | rfl
        · exact va_aldq (f := fun j => (f j).map (fun k => E.1 + k)) C.1 C.2.1 C.2.2.2.2.2.2.2.2.1.1 hR.1 a 4 (mR_at hR hc).2.2.2 rfl hin hd k1
        · exact va_aldq (f := fun j => (f j).map (fun k => E.1 + k)) C.1 C.2.1 C.2.2.2.2.2.2.2.2.1.1 hR.1 a 5 (mR_at hR hc).2.2.2 rfl hin hd k1
      · cases hv
    · cases hv)
theorem stI_s {t a : Nat} {i x : Int32} {h1 : mH} (e : stI t h a i x = some h1) : ∃ n f, cell h a = some (.inl (t, n, .inl f)) ∧ vp_in i n ∧ h1 = mS h a (.inl (t, n, .inl (upd f i.toNatClampNeg (narB t x)))) := by
  unfold stI at e
  split at e
  · rename_i t' n f hc
    split at e
    · rename_i hq
      obtain ⟨rfl, hin⟩ := hq
      exact ⟨n, f, hc, hin, (Option.some.inj e).symm⟩
    · cases e
  · cases e
theorem r_iast {a : Nat} {i x : Int32} {h1 : mH} (hd : dcd y pc .iastore 1) (hv : stI 0 h a i x = some h1) (k : MW X y d (pc + 1) ls st h1 r h') : MW X y d pc ls (.int x :: .int i :: .ref a :: st) h r h' := by
  obtain ⟨n, f, hc, hin, rfl⟩ := stI_s hv
  refine MW.hp k rfl rfl (fun {p l e R s m args below meth c H locs cells slots lsA E Q} C hR hS hl kk => ?_)
  obtain ⟨ha, hcl, hat, he⟩ := mR_at hR hc
  refine W.iast C.1 C.2.1 hat ((C.2.2.2.2.2.2.2.2.1.1.2 0 _ rfl).1 n (fun j => .int (f j))) (fun q => by cases q) (by show ¬ (i < 0 ∨ (arrV _ _ _).slots.size ≤ _); rw [arrV_size]; exact hin) rfl rfl hd fun H1 e z oq => ?_
  refine kk H1 _ (mR_set hR ha ?_ z oq) (hS.put z oq (Nat.le_add_right _ _))
  show H1[E.1 + a]? = some (vp_cell _ _)
  rw [e]
  show some ((vp_cell (E.2.2.1 0) (n, .inl f)).setSlot i.toNatClampNeg (.int x)) = some (vp_cell (E.2.2.1 0) (n, .inl (upd f i.toNatClampNeg (narB 0 x))))
  rw [vp_cell_i, vp_cell_i, arrV_store]
  congr 2
  funext q
  by_cases hq : q = i.toNatClampNeg
  · subst hq
    simp [updV, upd, narB]
  · simp [updV, upd, hq]
theorem r_bast {a : Nat} {i x : Int32} {h1 : mH} (hd : dcd y pc .bastore 1) (hv : stI 2 h a i x = some h1) (k : MW X y d (pc + 1) ls st h1 r h') : MW X y d pc ls (.int x :: .int i :: .ref a :: st) h r h' := by
  obtain ⟨n, f, hc, hin, rfl⟩ := stI_s hv
  refine MW.hp k rfl rfl (fun {p l e R s m args below meth c H locs cells slots lsA E Q} C hR hS hl kk => ?_)
  obtain ⟨ha, hcl, hat, he⟩ := mR_at hR hc
  refine W.bast C.1 C.2.1 hat ((C.2.2.2.2.2.2.2.2.1.1.2 2 _ rfl).1 n (fun j => .int (f j))) (fun q => by cases q) (by show ¬ (i < 0 ∨ (arrV _ _ _).slots.size ≤ _); rw [arrV_size]; exact hin) rfl rfl hd fun H1 e z oq => ?_
  refine kk H1 _ (mR_set hR ha ?_ z oq) (hS.put z oq (Nat.le_add_right _ _))
  show H1[E.1 + a]? = some (vp_cell _ _)
  rw [e]
  show some ((vp_cell (E.2.2.1 2) (n, .inl f)).setSlot i.toNatClampNeg (narrow .byte (.int x))) = some (vp_cell (E.2.2.1 2) (n, .inl (upd f i.toNatClampNeg (narB 2 x))))
  rw [vp_cell_i, vp_cell_i, arrV_store]
  congr 2
  funext q
  by_cases hq : q = i.toNatClampNeg
  · subst hq
    simp [updV, upd, narB, narrow]
  · simp [updV, upd, hq]
theorem r_zast {a : Nat} {i x : Int32} {h1 : mH} (hd : dcd y pc .bastore 1) (hv : stI 3 h a i x = some h1) (k : MW X y d (pc + 1) ls st h1 r h') : MW X y d pc ls (.int x :: .int i :: .ref a :: st) h r h' := by
  obtain ⟨n, f, hc, hin, rfl⟩ := stI_s hv
  refine MW.hp k rfl rfl (fun {p l e R s m args below meth c H locs cells slots lsA E Q} C hR hS hl kk => ?_)
  obtain ⟨ha, hcl, hat, he⟩ := mR_at hR hc
  refine W.zast C.1 C.2.1 hat ((C.2.2.2.2.2.2.2.2.1.1.2 3 _ rfl).1 n (fun j => .int (f j))) (fun q => by cases q) (by show ¬ (i < 0 ∨ (arrV _ _ _).slots.size ≤ _); rw [arrV_size]; exact hin) rfl rfl hd fun H1 e z oq => ?_
  refine kk H1 _ (mR_set hR ha ?_ z oq) (hS.put z oq (Nat.le_add_right _ _))
  show H1[E.1 + a]? = some (vp_cell _ _)
  rw [e]
  show some ((vp_cell (E.2.2.1 3) (n, .inl f)).setSlot i.toNatClampNeg (narrow .boolean (.int x))) = some (vp_cell (E.2.2.1 3) (n, .inl (upd f i.toNatClampNeg (narB 3 x))))
  rw [vp_cell_i, vp_cell_i, arrV_store]
  congr 2
  funext q
  by_cases hq : q = i.toNatClampNeg
  · subst hq
    simp [updV, upd, narB, narrow]
  · simp [updV, upd, hq]
theorem r_last {a : Nat} {i : Int32} {x : Int64} {h1 : mH} (hd : dcd y pc .lastore 1) (hv : stL h a i x = some h1) (k : MW X y d (pc + 1) ls st h1 r h') : MW X y d pc ls (.long x :: .int i :: .ref a :: st) h r h' := by
  unfold stL at hv
  split at hv
  · rename_i t' n f hc
    split at hv
    · rename_i hq
      obtain ⟨rfl, hin⟩ := hq
      cases hv
      refine MW.hp k rfl rfl (fun {p l e R s m args below meth c H locs cells slots lsA E Q} C hR hS hl kk => ?_)
      obtain ⟨ha, hcl, hat, he⟩ := mR_at hR hc
      refine W.last C.1 C.2.1 hat ((C.2.2.2.2.2.2.2.2.1.1.2 1 _ rfl).1 n (fun j => .long (f j))) (fun q => by cases q) (by show ¬ (i < 0 ∨ (arrV _ _ _).slots.size ≤ _); rw [arrV_size]; exact hin) rfl rfl hd fun H1 e z oq => ?_
      refine kk H1 _ (mR_set hR ha ?_ z oq) (hS.put z oq (Nat.le_add_right _ _))
      show H1[E.1 + a]? = some (vp_cell _ _)
      rw [e]
      show some ((vp_cell (E.2.2.1 1) (n, .inr (.inl f))).setSlot i.toNatClampNeg (.long x)) = some (vp_cell (E.2.2.1 1) (n, .inr (.inl (vp_updL f i.toNatClampNeg x))))
      rw [vp_cell_l, vp_cell_l, arrV_store]
      congr 2
      funext q
      by_cases hq : q = i.toNatClampNeg
      · subst hq
        simp [updV, vp_updL]
      · simp [updV, vp_updL, hq]
    · cases hv
  · cases hv
end
end
section
/-! rows: new cells, returns, calls -/
theorem dfl_fl : ∀ ci, ci < 13 → ∀ k, k < (clN ci).2.2 → cty ci k ≠ .float := by decide +kernel
theorem cls_lt {ci : Nat} {q : vw_C} (h : classes[ci]? = some q) : ci < 13 := (List.getElem?_eq_some_iff.mp h).1
theorem mv_dfl (E : mG) {t : FieldType} (h : t ≠ .float) : mv E (defaultValue t) = defaultValue t := by
  cases t <;> first | rfl | exact absurd rfl h
theorem mOK_call {E : mG} {s U : State} {H : Heap} {locs : List Loc} (h : mOK E s) (hS : va_S (fun q => E.1 ≤ q) s.heap H locs) (hU : U.heap = H) (hW : s.WarmedH U.vm) : mOK E U := by
  obtain ⟨h1, h2, h3, h4, h5, h6, h7, h8⟩ := h
  refine ⟨va_K.moved hW.alike h1, ?_, fun i q hq => (h3 i q hq).warm hW, ?_, ?_, h6, ?_, fun q hq => (h8.1 q hq).warmM hW, va_AO.moved hW.alike h8.2.1, va_AO.moved hW.alike h8.2.2⟩
  · rw [hU]
    exact (vk_S.moved hW.alike h2).kept hS.2.1
  · rw [hU]
    exact ⟨(va_Z.moved hW.alike h4.1).kept hS.2.1, (va_Z.moved hW.alike h4.2).kept hS.2.1⟩
  · rw [hU]
    exact (va_X.moved hW.alike h5).kept (hS.2.1 _ (Nat.lt_of_lt_of_le h6 h7) (Nat.not_le.mpr h6))
  · rw [hU]
    exact Nat.le_trans h7 hS.1
def vl (v : Option Value) (st : List Value) : List Value := match v with
  | some x => x :: st
  | none => st
section
variable {X : Nat × (Nat → Int32)} {y : mM} {d pc : Nat} {ls : mL} {st : List Value} {h : mH} {r : Option Value} {h' : mH}
theorem r_new {o idx ci : Nat} (hd : dcd y pc (.new idx) 3) (ho : oN o = y.1.cls) (hk : (o, idx, ci) ∈ KL) (hc : classes[ci]? = some (clN ci)) (k : MW X y d (pc + 3) ls (.ref h.1 :: st) (nwO h ci) r h') : MW X y d pc ls st h r h' := by
  have k1 : h.1 + 1 ≤ h'.1 := k.1.1
  have k2 : h.2.1 + (clN ci).2.2 ≤ h'.2.1 := k.1.2
  refine ⟨⟨by omega, by omega⟩, fun p l e R s m args below meth c H locs cells slots lsA E C hR hS hl q1 q2 => ?_⟩
  obtain ⟨⟨c1, c2, c3, c4, c5, c6⟩, -⟩ := clsOf hc
  have hown : s.vm.findClass (oN o) = some m.cls := by rw [ho]; exact C.2.2.2.1
  have hts := C.2.2.2.2.1
  have hKn := C.2.2.2.2.2.2.2.2.1.1.1 ci _ hc
  refine W.newcK C.1 C.2.1 hown (hts _ (KL_ok _ hk)) (hts _ c4) (hts _ c5) rfl hd (by omega) (by omega) hKn.2.1 hR.2 fun H1 kC hkC e1 z1 o1 => ?_
  refine k.2 p l e R s m args below meth c H1 locs (cells + 1) (slots + (clN ci).2.2) lsA E C (mR_push hR ?_ (by rw [z1, hR.2]) (fun q hq => o1 q (by rw [hR.2] at hq; exact hq))) ⟨Nat.le_trans hS.1 (by rw [hR.2]; omega), fun x h1 h2 => (o1 x (by rw [← hR.2]; exact Nat.lt_of_lt_of_le h1 hS.1)).trans (hS.2.1 x h1 h2), hS.2.2⟩ hl ?_ ?_
  · refine ⟨_, hc, (u_born (cty ci) hts c1 hKn hkC e1 c2).to (fun j hj => ?_)⟩
    have hj2 : j < (clN ci).2.2 := hj
    show defaultValue (cty ci j) = vp_V ((dfl ci).map (mv E)) j
    unfold vp_V dfl
    rw [List.getD_eq_getElem?_getD, List.getElem?_map, List.getElem?_map, List.getElem?_range hj2]
    exact (mv_dfl E (dfl_fl ci (cls_lt hc) j hj2)).symm
  · show cells + 1 + (h'.1 - (h.1 + 1)) ≤ R.cells
    omega
  · show slots + (clN ci).2.2 + (h'.2.1 - (h.2.1 + (clN ci).2.2)) ≤ R.slots
    omega
theorem r_newa {at_ : ArrayType} {t : Nat} {ty : FieldType} {n : Int32} {h1 : mH} (hd : dcd y pc (.newarray at_) 2) (hty : newarray.typeOf at_ = ty) (hw : Cond.arrayClass ty ∈ WT) (ht : ∀ dd : Nat → ClassId, (mT dd)[t]? = some (dd t, ty)) (hno : ∀ C, ty ≠ .object C) (hcb : componentBytes ty ≤ 8) (hz : ∀ (E : mG) (cA : ClassId) (N : Nat), vp_cell cA (mA E (N, zrA t)) = arrV cA N (fun _ => defaultValue ty))
    (hv : nwA h t n = some h1) (k : MW X y d (pc + 2) ls (.ref h.1 :: st) h1 r h') : MW X y d pc ls (.int n :: st) h r h' := by
  unfold nwA at hv
  split at hv
  · rename_i hq
    cases hv
    have k1 : h.1 + 1 ≤ h'.1 := k.1.1
    have k2 : h.2.1 + n.toNatClampNeg ≤ h'.2.1 := k.1.2
    refine ⟨⟨by omega, by omega⟩, fun p l e R s m args below meth c H locs cells slots lsA E C hR hS hl q1 q2 => ?_⟩
    have hts := C.2.2.2.2.1
    have hK := (C.2.2.2.2.2.2.2.2.1.1.2 t _ (ht E.2.2.1))
    subst hty
    refine va_newaK C.1 C.2.1 (hts _ hw) rfl hd rfl hq.1 rfl (Nat.le_trans (Nat.mul_le_mul hq.2 hcb) (by decide)) (by omega) (by omega) hR.2 fun H1 cA e1 z1 o1 hAr hNm => ?_
    have hcA : cA = E.2.2.1 t := by
      have h2 := hK.2
      unfold va_RA at h2
      cases hb : newarray.typeOf at_ <;> rw [hb] at h2 hNm <;> first | exact absurd hb (hno _) | exact Option.some.inj (hNm.symm.trans h2)
    subst hcA
    refine k.2 p l e R s m args below meth c H1 locs (cells + 1) (slots + n.toNatClampNeg) lsA E C (mR_push hR ?_ (by rw [z1, hR.2]) (fun q hq => o1 q (by rw [hR.2] at hq; exact hq))) ⟨Nat.le_trans hS.1 (by rw [hR.2]; omega), fun x h1 h2 => (o1 x (by rw [← hR.2]; exact Nat.lt_of_lt_of_le h1 hS.1)).trans (hS.2.1 x h1 h2), hS.2.2⟩ hl ?_ ?_
    · show H1[E.1 + h.1]? = some (vp_cell (E.2.2.1 t) (mA E (n.toNatClampNeg, zrA t)))
      rw [hz E]
      exact e1
    · show cells + 1 + (h'.1 - (h.1 + 1)) ≤ R.cells
      omega
    · show slots + n.toNatClampNeg + (h'.2.1 - (h.2.1 + n.toNatClampNeg)) ≤ R.slots
      omega
  · cases hv
theorem r_newq {o idx ci t : Nat} {n : Int32} {h1 : mH} (hd : dcd y pc (.anewarray idx) 3) (ho : oN o = y.1.cls) (hk : (o, idx, ci) ∈ KL) (ht : ∀ dd : Nat → ClassId, (mT dd)[t]? = some (dd t, .object (clN ci).1)) (hw : ∀ (E : mG) (s : State), mOK E s → va_AO (clN ci).1 s) (hz : zrA t = .inr (.inr (.inr (.inr (fun _ => none)))))
    (hv : nwA h t n = some h1) (k : MW X y d (pc + 3) ls (.ref h.1 :: st) h1 r h') : MW X y d pc ls (.int n :: st) h r h' := by
  unfold nwA at hv
  split at hv
  · rename_i hq
    cases hv
    have k1 : h.1 + 1 ≤ h'.1 := k.1.1
    have k2 : h.2.1 + n.toNatClampNeg ≤ h'.2.1 := k.1.2
    refine ⟨⟨by omega, by omega⟩, fun p l e R s m args below meth c H locs cells slots lsA E C hR hS hl q1 q2 => ?_⟩
    have hown : s.vm.findClass (oN o) = some m.cls := by rw [ho]; exact C.2.2.2.1
    have hts := C.2.2.2.2.1
    have hK := (C.2.2.2.2.2.2.2.2.1.1.2 t _ (ht E.2.2.1))
    refine W.anew C.1 C.2.1 hown (hts _ (KL_ok _ hk)) (va_AO.use (hw E s C.2.2.2.2.2.2.2.2.1)) rfl hd rfl hq.1 (Nat.le_trans (Nat.mul_le_mul_right 4 hq.2) (by decide)) (by omega) (by omega) fun cA kA comp f1 f2 f3 f4 => ?_
    generalize hH1 : H.push ({ cls := cA, slots := Array.replicate n.toNatClampNeg .null, vm := .none } : Cell) = H1
    have z1 : H1.size = H.size + 1 := by rw [← hH1, Array.size_push]
    have e1 : H1[H.size]? = some (arrV cA n.toNatClampNeg (fun _ => .null)) := by rw [← hH1, Array.getElem?_push_size, ← arrV_new]
    have o1 : ∀ q : Nat, q < H.size → H1[q]? = H[q]? := fun q hq => by rw [← hH1, Array.getElem?_push, if_neg (Nat.ne_of_lt hq)]
    have hcA : cA = E.2.2.1 t := by
      obtain ⟨kA2, comp2, -, -, -, g4⟩ := hK.2
      exact Option.some.inj (f1.symm.trans g4)
    subst hcA
    have k3 := k.2 p l e R s m args below meth c H1 locs (cells + 1) (slots + n.toNatClampNeg) lsA E C (mR_push hR (by
      show H1[E.1 + h.1]? = some (vp_cell (E.2.2.1 t) (mA E (n.toNatClampNeg, zrA t)))
      rw [hz, ← hR.2, e1]
      rfl) z1 o1) ⟨Nat.le_trans hS.1 (by omega), fun x h1 h2 => (o1 x (Nat.lt_of_lt_of_le h1 hS.1)).trans (hS.2.1 x h1 h2), hS.2.2⟩ hl (by show cells + 1 + (h'.1 - (h.1 + 1)) ≤ R.cells; omega) (by show slots + n.toNatClampNeg + (h'.2.1 - (h.2.1 + n.toNatClampNeg)) ≤ R.slots; omega)
    rw [List.map_cons, show mv E (.ref h.1) = .ref H.size by rw [hR.2]; rfl] at k3
    exact k3
  · cases hv
/-! returns -/
theorem mQ_end {E : mG} {v : Option Value} {s : State} {H : Heap} {locs : List Loc} {args : Array Value} (hR : mR E h H) (hS : va_S (fun q => E.1 ≤ q) s.heap H locs) : ∀ t : State, t.heap = H → s.WarmedH t.vm → mQ E v h args s (.returned (v.map (mv E))) t := fun t ht _ => ⟨rfl, by rw [ht]; exact hR, by rw [ht]; exact hS.1, fun q h1 h2 => by rw [ht]; exact hS.2.1 q h1 h2⟩
theorem r_iret {x : Int32} (hd : dcd y pc .ireturn 1) (hr : y.2.2.2 = some .int) : MW X y d pc ls [.int x] h (some (.int x)) h :=
  ⟨⟨Nat.le_refl _, Nat.le_refl _⟩, fun p l e R s m args below meth c H locs cells slots lsA E C hR hS hl q1 q2 => W.widen (by omega) (by omega) (W.iret C.1 C.2.1 (C.2.2.2.2.2.1.trans hr) (mQ_end (v := some (.int x)) hR hS) hS.2.2 hd C.2.2.2.2.2.2.1)⟩
theorem r_zret {x : Int32} (hd : dcd y pc .ireturn 1) (hr : y.2.2.2 = some .boolean) (hx : x &&& 1 = x) : MW X y d pc ls [.int x] h (some (.int x)) h :=
  ⟨⟨Nat.le_refl _, Nat.le_refl _⟩, fun p l e R s m args below meth c H locs cells slots lsA E C hR hS hl q1 q2 => W.widen (by omega) (by omega) (W.zret C.1 C.2.1 (C.2.2.2.2.2.1.trans hr) (by show Value.int (x &&& 1) = _; rw [hx]) (mQ_end (v := some (.int x)) hR hS) hS.2.2 hd C.2.2.2.2.2.2.1)⟩
theorem r_lret {x : Int64} (hd : dcd y pc .lreturn 1) (hr : y.2.2.2 = some .long) : MW X y d pc ls [.long x] h (some (.long x)) h :=
  ⟨⟨Nat.le_refl _, Nat.le_refl _⟩, fun p l e R s m args below meth c H locs cells slots lsA E C hR hS hl q1 q2 => W.widen (by omega) (by omega) (W.lret C.1 C.2.1 (C.2.2.2.2.2.1.trans hr) (mQ_end (v := some (.long x)) hR hS) hS.2.2 hd C.2.2.2.2.2.2.1)⟩
theorem r_vret (hd : dcd y pc .return_ 1) (hr : y.2.2.2 = none) : MW X y d pc ls [] h none h :=
  ⟨⟨Nat.le_refl _, Nat.le_refl _⟩, fun p l e R s m args below meth c H locs cells slots lsA E C hR hS hl q1 q2 => W.widen (by omega) (by omega) (W.vret C.1 C.2.1 (C.2.2.2.2.2.1.trans hr) (mQ_end (v := none) hR hS) hS.2.2 hd C.2.2.2.2.2.2.1)⟩
end
end
section
/-! rows: calls of methods by their contracts; the JDK's own by the kit's rows -/
section
variable {X : Nat × (Nat → Int32)} {y : mM} {d pc : Nat} {ls : mL} {st : List Value} {h : mH} {r : Option Value} {h' : mH}
theorem cat_map (E : mG) (st : List Value) : ((st.map (mv E)).map fun v => v.category).sum = (st.map fun v => v.category).sum := by
  rw [List.map_map]
  congr 1
  apply List.map_congr_left
  intro v _
  exact mv_cat E v
theorem blind (E : mG) (h : mH) (a : List Value) : FrameBlind (va_Pc (a.map (mv E)) (fun U => mOK E U ∧ mR E h U.heap)) := fun _ U g mk q => ⟨q.1, mOK_blind q.2.1, q.2.2⟩
/-- what a call's run gives -/
theorem m_back {yc : mM} {d' : Nat} {a : List Value} {v : Option Value} {h1 : mH} {st0 : List Value} (hM : MM yc d' a h v h1) (k : MW X y d (pc + 3) ls (vl v st) h1 r h')
    (f : ∀ {p : Program} {l : Launch} {e : Env} {R : Room} {s : State} {m : MethodId} {args : Array Value} {below : List Frame} {meth : Method} {c : Code} {H : Heap} {locs : List Loc} {cells slots : Nat} {lsA : Array Slot} {E : mG},
      MC y E X d p R s m args meth c → mR E h H → va_S (fun q => E.1 ≤ q) s.heap H locs → lv_has lsA y.2.2.1 (ls.map (mq E)) → cells + (h1.1 - h.1) ≤ R.cells ∧ slots + (h1.2.1 - h.2.1) ≤ R.slots → Met l yc.1 (mws yc) (mRm d' h h1) (va_Pc (a.map (mv E)) (fun U => mOK E U ∧ mR E h U.heap)) (mQ E v h1) (h1.1 - h.1) (h1.2.1 - h.2.1) (fun q => E.1 ≤ q) →
      va_Run p l e R s m args below meth c H locs cells slots (h1.1 - h.1) (h1.2.1 - h.2.1) (F0 m pc lsA (st0.map (mv E))) (st.map (mv E)) (mQ E v h1 (a.map (mv E)).toArray) (fun q => E.1 ≤ q)) : MW X y d pc ls st0 h r h' := by
  have m1 := hM.1
  have m2 := k.1
  refine ⟨⟨by omega, by omega⟩, fun p l e R s m args below meth c H locs cells slots lsA E C hR hS hl q1 q2 => ?_⟩
  intro T hT X0
  obtain ⟨v0, st₀, t, T', L, h0, X', hL, e1, e2, ⟨hv, hR1, hF⟩, stp⟩ := f C hR hS hl ⟨by omega, by omega⟩ (hM.2 l E) T hT X0
  cases hv
  obtain ⟨t2, a1, b1⟩ := k.2 p l e R s m args below meth c T'.heap (locs ++ L) (cells + (h1.1 - h.1)) (slots + (h1.2.1 - h.2.1)) lsA E C (by rw [e1]; exact hR1) ⟨by rw [e1]; exact Nat.le_trans hS.1 (by rw [← h0]; exact hF.1), fun q g1 g2 => by
      rw [e1, hF.2 q (by rw [h0]; exact Nat.lt_of_lt_of_le g1 hS.1) g2, h0]
      exact hS.2.1 q g1 g2, fun q hq => by
      rcases List.mem_append.mp hq with hq | hq
      · exact hS.2.2 q hq
      · exact hL q hq⟩ hl (by omega) (by omega) T' rfl X'
  refine ⟨t2, stp t2 ?_, b1⟩
  have es : (v.map (mv E)).toList ++ st.map (mv E) = (vl v st).map (mv E) := by cases v <;> rfl
  show Steps p.tables e below (T'.setTop { F0 m pc lsA (st0.map (mv E)) with pc := pc + 3, stack := (v.map (mv E)).toList ++ st.map (mv E) }) t2
  rw [es]
  exact a1
theorem rm_ok {d' : Nat} {R : Room} {yc : mM} {h1 : mH} (hdd : d' < d) (hm : yc.2.2.1 ≤ 45) (g1 : d ≤ R.frames) (g2 : 64 * d + 64 ≤ R.locals) : (mRm d' h h1).frames + 1 ≤ R.frames ∧ 8 + (yc.2.2.1 + 11) + (mRm d' h h1).locals ≤ R.locals := by
  refine ⟨?_, ?_⟩
  · show d' + 1 ≤ R.frames
    omega
  · show 8 + (yc.2.2.1 + 11) + (64 * d' + 64) ≤ R.locals
    omega
theorem r_callV {o idx j ci n a d' : Nat} {yc : mM} {as : List Value} {v : Option Value} {h1 : mH} (hd : dcd y pc (.invokevirtual idx) 3) (ho : oN o = y.1.cls) (hl : (o, idx, j) ∈ ML) (hj : MT[j]? = some (yc, 0, ci, n)) (hc : classes[ci]? = some (clN ci)) (hn : as.length = n) (hml : yc.2.2.1 ≤ 45) (hw : (st.map fun v => v.category).sum ≤ 8) (hdd : d' < d)
    (hrc : rcv h ci a = some ()) (hM : MM yc d' (.ref a :: as) h v h1) (k : MW X y d (pc + 3) ls (vl v st) h1 r h') : MW X y d pc ls (as.reverse ++ .ref a :: st) h r h' := by
  obtain ⟨f1, f2, f3, f4, f5, f6, f7, f8, f9⟩ := mFx hj
  have hcell : ∃ fs, cell h a = some (.inr (ci, fs)) := by
    unfold rcv at hrc
    split at hrc
    · rename_i c fs hcl
      cases hb : Nat.beq c ci
      · rw [hb] at hrc; cases hrc
      · have := Nat.eq_of_beq_eq_true hb
        subst this
        exact ⟨fs, hcl⟩
    · cases hrc
  obtain ⟨fs, hcell⟩ := hcell
  refine m_back hM k (fun {p l e R s m args below meth c H locs cells slots lsA E} C hR hS hlv hf hMet => ?_)
  have hown : s.vm.findClass (oN o) = some m.cls := by rw [ho]; exact C.2.2.2.1
  have hts := C.2.2.2.2.1
  have hrcv := va_recv C.2.2.2.2.2.2.2.2.1.1 hR.1 hc (mR_at hR hcell).2.2.2
  have hlk := hts _ (ML_ok _ hl)
  have e3 : mlC (o, idx, j) = .methodLink (oN o) idx yc.1 := by show Cond.methodLink (oN o) idx (mN j) = _; rw [f3]
  rw [e3] at hlk
  exact va_runV (b := E.1 + a) (As := as.map (mv E)) (rest := st.map (mv E)) (C := (clN ci).1) (own := oN o) (index := idx) (bytes := yc.2.1) (maxL := yc.2.2.1) (ret := yc.2.2.2) (n := n) (Ts := WT) (nL := y.2.2.1) (cc := y.2.1) ⟨C.1, C.2.1, C.2.2.1, hown, hts⟩ hMet
    ⟨callB_of n hts (mws_good f1) rfl rfl rfl (hts _ f2) hlk f5 (rm_ok hdd hml C.2.2.2.2.2.2.2.2.2.2.1 C.2.2.2.2.2.2.2.2.2.2.2), hts _ (f7 (Or.inl rfl)), by rw [(f8 rfl).2]; exact hts _ (f8 rfl).1⟩
    ⟨blind E h _, hrcv, fun U hU hW => ⟨rfl, mOK_call C.2.2.2.2.2.2.2.2.1 hS hU hW, by rw [hU]; exact hR⟩⟩ rfl (by rw [List.length_map]; exact hn) hlv.1
    (by show (as.reverse ++ .ref a :: st).map (mv E) = _; rw [List.map_append, List.map_reverse]; rfl) (lv_room (by rw [cat_map]; exact hw)) hd hf
theorem r_callS {o idx j n ci d' : Nat} {yc : mM} {as : List Value} {v : Option Value} {h1 : mH} (hd : dcd y pc (.invokestatic idx) 3) (ho : oN o = y.1.cls) (hl : (o, idx, j) ∈ ML) (hj : MT[j]? = some (yc, 1, ci, n)) (hn : as.length = n) (hml : yc.2.2.1 ≤ 45) (hw : (st.map fun v => v.category).sum ≤ 8) (hdd : d' < d)
    (hM : MM yc d' as h v h1) (k : MW X y d (pc + 3) ls (vl v st) h1 r h') : MW X y d pc ls (as.reverse ++ st) h r h' := by
  obtain ⟨f1, f2, f3, f4, f5, f6, f7, f8, f9⟩ := mFx hj
  refine m_back hM k (fun {p l e R s m args below meth c H locs cells slots lsA E} C hR hS hlv hf hMet => ?_)
  have hown : s.vm.findClass (oN o) = some m.cls := by rw [ho]; exact C.2.2.2.1
  have hts := C.2.2.2.2.1
  have hlk := hts _ (ML_ok _ hl)
  have e3 : mlC (o, idx, j) = .methodLink (oN o) idx yc.1 := by show Cond.methodLink (oN o) idx (mN j) = _; rw [f3]
  rw [e3] at hlk
  exact va_runS (As := as.map (mv E)) (rest := st.map (mv E)) (own := oN o) (index := idx) (bytes := yc.2.1) (maxL := yc.2.2.1) (ret := yc.2.2.2) (n := n) (Ts := WT) (nL := y.2.2.1) (cc := y.2.1) ⟨C.1, C.2.1, C.2.2.1, hown, hts⟩ hMet
    ⟨callB_of n hts (mws_good f1) rfl rfl rfl (hts _ f2) hlk f5 (rm_ok hdd hml C.2.2.2.2.2.2.2.2.2.2.1 C.2.2.2.2.2.2.2.2.2.2.2), hts _ (f6 rfl)⟩
    ⟨blind E h _, fun U hU hW => ⟨rfl, mOK_call C.2.2.2.2.2.2.2.2.1 hS hU hW, by rw [hU]; exact hR⟩⟩ rfl (by rw [List.length_map]; exact hn) hlv.1
    (by show (as.reverse ++ st).map (mv E) = _; rw [List.map_append, List.map_reverse]) (lv_room (by rw [cat_map]; exact hw)) hd hf
theorem r_callI {o idx j n ci a d' : Nat} {yc : mM} {as : List Value} {h1 : mH} (hd : dcd y pc (.invokespecial idx) 3) (ho : oN o = y.1.cls) (hl : (o, idx, j) ∈ ML) (hj : MT[j]? = some (yc, 2, ci, n)) (hrn : yc.2.2.2 = none) (hn : as.length = n) (hml : yc.2.2.1 ≤ 45) (hw : (st.map fun v => v.category).sum ≤ 8) (hdd : d' < d)
    (hM : MM yc d' (.ref a :: as) h none h1) (k : MW X y d (pc + 3) ls st h1 r h') : MW X y d pc ls (as.reverse ++ .ref a :: st) h r h' := by
  obtain ⟨f1, f2, f3, f4, f5, f6, f7, f8, f9⟩ := mFx hj
  refine m_back (v := none) hM k (fun {p l e R s m args below meth c H locs cells slots lsA E} C hR hS hlv hf hMet => ?_)
  have hown : s.vm.findClass (oN o) = some m.cls := by rw [ho]; exact C.2.2.2.1
  have hts := C.2.2.2.2.1
  have hlk := hts _ (ML_ok _ hl)
  have e3 : mlC (o, idx, j) = .methodLink (oN o) idx yc.1 := by show Cond.methodLink (oN o) idx (mN j) = _; rw [f3]
  rw [e3] at hlk
  exact va_runI (b := E.1 + a) (As := as.map (mv E)) (rest := st.map (mv E)) (own := oN o) (index := idx) (bytes := yc.2.1) (maxL := yc.2.2.1) (n := n) (Ts := WT) (nL := y.2.2.1) (cc := y.2.1) ⟨C.1, C.2.1, C.2.2.1, hown, hts⟩ hMet
    ⟨callB_of n hts (mws_good f1) (by rw [← hrn]; rfl) rfl rfl (hts _ f2) hlk f5 (rm_ok hdd hml C.2.2.2.2.2.2.2.2.2.2.1 C.2.2.2.2.2.2.2.2.2.2.2), f9 rfl, hts _ (f7 (Or.inr rfl))⟩
    ⟨blind E h _, fun U hU hW => ⟨rfl, mOK_call C.2.2.2.2.2.2.2.2.1 hS hU hW, by rw [hU]; exact hR⟩⟩ rfl (by rw [List.length_map]; exact hn) hlv.1
    (by show (as.reverse ++ .ref a :: st).map (mv E) = _; rw [List.map_append, List.map_reverse]; rfl) (lv_room (by rw [cat_map]; exact hw)) hd hf
theorem NL_at {pl o idx j : Nat} (h : NL[pl]? = some (o, idx, j)) : (oN o, idx, mN j) ∈ nestW := by
  rw [← NL_eq]
  exact List.mem_map.mpr ⟨_, List.mem_of_getElem? h, rfl⟩
theorem r_callSN {o idx j n ci pl d' : Nat} {yc : mM} {as : List Value} {v : Option Value} {h1 : mH} (hd : dcd y pc (.invokestatic idx) 3) (ho : oN o = y.1.cls) (hl : NL[pl]? = some (o, idx, j)) (hj : MT[j]? = some (yc, 1, ci, n)) (hn : as.length = n) (hml : yc.2.2.1 ≤ 45) (hw : (st.map fun v => v.category).sum ≤ 8) (hdd : d' < d)
    (hM : MM yc d' as h v h1) (k : MW X y d (pc + 3) ls (vl v st) h1 r h') : MW X y d pc ls (as.reverse ++ st) h r h' := by
  obtain ⟨f1, f2, f3, f4, f5, f6, f7, f8, f9⟩ := mFx hj
  refine m_back hM k (fun {p l e R s m args below meth c H locs cells slots lsA E} C hR hS hlv hf hMet => ?_)
  have hown : s.vm.findClass (oN o) = some m.cls := by rw [ho]; exact C.2.2.2.1
  have hts := C.2.2.2.2.1
  have hlk := C.2.2.2.2.2.2.2.2.1.2.2.2.2.2.2.2.1 _ (NL_at hl)
  rw [f3] at hlk
  exact va_runSN (host := "NoKnot") (As := as.map (mv E)) (rest := st.map (mv E)) (own := oN o) (index := idx) (bytes := yc.2.1) (maxL := yc.2.2.1) (ret := yc.2.2.2) (n := n) (Ts := WT) (nL := y.2.2.1) (cc := y.2.1) ⟨C.1, C.2.1, C.2.2.1, hown, hts⟩ hMet
    ⟨va_cnB n hts (mws_good f1) rfl rfl rfl hlk (hts _ f2) f5 (rm_ok hdd hml C.2.2.2.2.2.2.2.2.2.2.1 C.2.2.2.2.2.2.2.2.2.2.2), hts _ (f6 rfl), trivial⟩
    ⟨blind E h _, fun U hU hW => ⟨rfl, mOK_call C.2.2.2.2.2.2.2.2.1 hS hU hW, by rw [hU]; exact hR⟩⟩ rfl (by rw [List.length_map]; exact hn) hlv.1
    (by show (as.reverse ++ st).map (mv E) = _; rw [List.map_append, List.map_reverse]) (lv_room (by rw [cat_map]; exact hw)) hd hf
theorem r_callIN {o idx j n ci pl a d' : Nat} {yc : mM} {as : List Value} {h1 : mH} (hd : dcd y pc (.invokespecial idx) 3) (ho : oN o = y.1.cls) (hl : NL[pl]? = some (o, idx, j)) (hj : MT[j]? = some (yc, 2, ci, n)) (hrn : yc.2.2.2 = none) (hn : as.length = n) (hml : yc.2.2.1 ≤ 45) (hw : (st.map fun v => v.category).sum ≤ 8) (hdd : d' < d)
    (hM : MM yc d' (.ref a :: as) h none h1) (k : MW X y d (pc + 3) ls st h1 r h') : MW X y d pc ls (as.reverse ++ .ref a :: st) h r h' := by
  obtain ⟨f1, f2, f3, f4, f5, f6, f7, f8, f9⟩ := mFx hj
  refine m_back (v := none) hM k (fun {p l e R s m args below meth c H locs cells slots lsA E} C hR hS hlv hf hMet => ?_)
  have hown : s.vm.findClass (oN o) = some m.cls := by rw [ho]; exact C.2.2.2.1
  have hts := C.2.2.2.2.1
  have hlk := C.2.2.2.2.2.2.2.2.1.2.2.2.2.2.2.2.1 _ (NL_at hl)
  rw [f3] at hlk
  exact va_runIN (host := "NoKnot") (b := E.1 + a) (As := as.map (mv E)) (rest := st.map (mv E)) (own := oN o) (index := idx) (bytes := yc.2.1) (maxL := yc.2.2.1) (n := n) (Ts := WT) (nL := y.2.2.1) (cc := y.2.1) ⟨C.1, C.2.1, C.2.2.1, hown, hts⟩ hMet
    ⟨va_cnB n hts (mws_good f1) (by rw [← hrn]; rfl) rfl rfl hlk (hts _ f2) f5 (rm_ok hdd hml C.2.2.2.2.2.2.2.2.2.2.1 C.2.2.2.2.2.2.2.2.2.2.2), f9 rfl, hts _ (f7 (Or.inr rfl))⟩
    ⟨blind E h _, fun U hU hW => ⟨rfl, mOK_call C.2.2.2.2.2.2.2.2.1 hS hU hW, by rw [hU]; exact hR⟩⟩ rfl (by rw [List.length_map]; exact hn) hlv.1
    (by show (as.reverse ++ .ref a :: st).map (mv E) = _; rw [List.map_append, List.map_reverse]; rfl) (lv_room (by rw [cat_map]; exact hw)) hd hf
end
end
section
/-! rows: Math, Object's constructor, arraycopy, arrays of objects, the script -/
theorem pw_max1 : Cond.static Lib.Math.max.name ∈ WT := WT_of (List.mem_of_getElem? (i := 802) (by decide +kernel)) rfl
theorem pw_max2 : Cond.code Lib.Math.max.name Lib.Math.max.code 2 (some .int) ∈ WT := WT_of (List.mem_of_getElem? (i := 803) (by decide +kernel)) rfl
theorem pw_min1 : Cond.static Lib.Math.min.name ∈ WT := WT_of (List.mem_of_getElem? (i := 570) (by decide +kernel)) rfl
theorem pw_min2 : Cond.code Lib.Math.min.name Lib.Math.min.code 2 (some .int) ∈ WT := WT_of (List.mem_of_getElem? (i := 571) (by decide +kernel)) rfl
theorem pw_abs1 : Cond.static Lib.Math.abs.name ∈ WT := WT_of (List.mem_of_getElem? (i := 1273) (by decide +kernel)) rfl
theorem pw_abs2 : Cond.code Lib.Math.abs.name Lib.Math.abs.code 1 (some .int) ∈ WT := WT_of (List.mem_of_getElem? (i := 1274) (by decide +kernel)) rfl
theorem pw_lmn1 : Cond.static Lib.MathLoose.min_long.x ∈ WT := WT_of (List.mem_of_getElem? (i := 1394) (by decide +kernel)) rfl
theorem pw_lmn2 : Cond.code Lib.MathLoose.min_long.x Lib.MathLoose.min_long.code 4 (some .long) ∈ WT := WT_of (List.mem_of_getElem? (i := 1395) (by decide +kernel)) rfl
theorem pw_math : Cond.initialized "java/lang/Math" ∈ WT := WT_of (List.mem_of_getElem? (i := 130) (by decide +kernel)) rfl
theorem pw_sys : Cond.initialized "java/lang/System" ∈ WT := WT_of (List.mem_of_getElem? (i := 135) (by decide +kernel)) rfl
theorem pw_ob1 : Cond.instanceMethod Lib.objectInit ∈ WT := WT_of (List.mem_of_getElem? (i := 143) (by decide +kernel)) rfl
theorem pw_ob2 : Cond.code Lib.objectInit ⟨#[0xb1]⟩ 1 none ∈ WT := WT_of (List.mem_of_getElem? (i := 144) (by decide +kernel)) rfl
theorem pw_ac1 : Cond.static arraycopyName ∈ WT := WT_of (List.mem_of_getElem? (i := 717) (by decide +kernel)) rfl
theorem pw_ac2 : Cond.native arraycopyName ∈ WT := WT_of (List.mem_of_getElem? (i := 718) (by decide +kernel)) rfl
def lMin (x y : Int64) : Int64 := if y < x then y else x
section
variable {X : Nat × (Nat → Int32)} {y : mM} {d pc : Nat} {ls : mL} {st : List Value} {h : mH} {r : Option Value} {h' : mH}
theorem r_max {o idx : Nat} {a b : Int32} (hd : dcd y pc (.invokestatic idx) 3) (ho : oN o = y.1.cls) (hl : (o, idx, 6) ∈ PL) (h1 : 1 ≤ d) (hw : (st.map fun v => v.category).sum ≤ 8) (k : MW X y d (pc + 3) ls (.int (iMax a b) :: st) h r h') : MW X y d pc ls (.int b :: .int a :: st) h r h' :=
  MW.st k (fun {p l e R s m args below meth c H locs cells slots lsA E Q} C hR hS hlv hc hs kk => va_mmax (own := oN o) C.1 C.2.1 (C.2.2.1.trans hlv.1.symm) (by rw [ho]; exact C.2.2.2.1) (C.2.2.2.2.1 _ (PL_ok _ hl)) (C.2.2.2.2.1 _ pw_max1) (C.2.2.2.2.1 _ pw_math) (C.2.2.2.2.1 _ pw_max2) (Nat.le_trans h1 C.2.2.2.2.2.2.2.2.2.2.1) (by rw [cat_map]; have := C.2.2.2.2.2.2.2.2.2.2.2; omega) hc hs hd (kk _ hlv))
theorem r_min {o idx : Nat} {a b : Int32} (hd : dcd y pc (.invokestatic idx) 3) (ho : oN o = y.1.cls) (hl : (o, idx, 7) ∈ PL) (h1 : 1 ≤ d) (hw : (st.map fun v => v.category).sum ≤ 8) (k : MW X y d (pc + 3) ls (.int (iMin a b) :: st) h r h') : MW X y d pc ls (.int b :: .int a :: st) h r h' :=
  MW.st k (fun {p l e R s m args below meth c H locs cells slots lsA E Q} C hR hS hlv hc hs kk => va_mmin (own := oN o) C.1 C.2.1 (C.2.2.1.trans hlv.1.symm) (by rw [ho]; exact C.2.2.2.1) (C.2.2.2.2.1 _ (PL_ok _ hl)) (C.2.2.2.2.1 _ pw_min1) (C.2.2.2.2.1 _ pw_math) (C.2.2.2.2.1 _ pw_min2) (Nat.le_trans h1 C.2.2.2.2.2.2.2.2.2.2.1) (by rw [cat_map]; have := C.2.2.2.2.2.2.2.2.2.2.2; omega) hc hs hd (kk _ hlv))
theorem r_abs {o idx : Nat} {a : Int32} (hd : dcd y pc (.invokestatic idx) 3) (ho : oN o = y.1.cls) (hl : (o, idx, 8) ∈ PL) (h1 : 1 ≤ d) (hw : (st.map fun v => v.category).sum ≤ 8) (k : MW X y d (pc + 3) ls (.int (iAbs a) :: st) h r h') : MW X y d pc ls (.int a :: st) h r h' :=
  MW.st k (fun {p l e R s m args below meth c H locs cells slots lsA E Q} C hR hS hlv hc hs kk => va_mabs (own := oN o) C.1 C.2.1 (C.2.2.1.trans hlv.1.symm) (by rw [ho]; exact C.2.2.2.1) (C.2.2.2.2.1 _ (PL_ok _ hl)) (C.2.2.2.2.1 _ pw_abs1) (C.2.2.2.2.1 _ pw_math) (C.2.2.2.2.1 _ pw_abs2) (Nat.le_trans h1 C.2.2.2.2.2.2.2.2.2.2.1) (by rw [cat_map]; have := C.2.2.2.2.2.2.2.2.2.2.2; omega) hc hs hd (kk _ hlv))
theorem r_lmin {o idx : Nat} {a b : Int64} (hd : dcd y pc (.invokestatic idx) 3) (ho : oN o = y.1.cls) (hl : (o, idx, 9) ∈ PL) (h1 : 1 ≤ d) (hw : (st.map fun v => v.category).sum ≤ 8) (k : MW X y d (pc + 3) ls (.long (lMin a b) :: st) h r h') : MW X y d pc ls (.long b :: .long a :: st) h r h' :=
  MW.st k (fun {p l e R s m args below meth c H locs cells slots lsA E Q} C hR hS hlv hc hs kk => va_mmin_long (own := oN o) C.1 C.2.1 (C.2.2.1.trans hlv.1.symm) (by rw [ho]; exact C.2.2.2.1) (C.2.2.2.2.1 _ (PL_ok _ hl)) (C.2.2.2.2.1 _ pw_lmn1) (C.2.2.2.2.1 _ pw_math) (C.2.2.2.2.1 _ pw_lmn2) (Nat.le_trans h1 C.2.2.2.2.2.2.2.2.2.2.1) (by rw [cat_map]; have := C.2.2.2.2.2.2.2.2.2.2.2; omega) hc hs hd (kk _ hlv))
theorem r_objI {o idx a : Nat} (hd : dcd y pc (.invokespecial idx) 3) (ho : oN o = y.1.cls) (hl : (o, idx, 5) ∈ PL) (h1 : 1 ≤ d) (hw : (st.map fun v => v.category).sum ≤ 8) (k : MW X y d (pc + 3) ls st h r h') : MW X y d pc ls (.ref a :: st) h r h' :=
  MW.st k (fun {p l e R s m args below meth c H locs cells slots lsA E Q} C hR hS hlv hc hs kk => W.objInit (own := oN o) C.1 C.2.1 (by rw [ho]; exact C.2.2.2.1) (C.2.2.2.2.1 _ (PL_ok _ hl)) (C.2.2.2.2.1 _ pw_ob1) (C.2.2.2.2.1 _ pw_ob2) rfl (hlv.1.trans C.2.2.1.symm) rfl hd (Nat.le_trans h1 C.2.2.2.2.2.2.2.2.2.2.1) (by show 2 * 0 + _ + 12 ≤ _; rw [cat_map]; have := C.2.2.2.2.2.2.2.2.2.2.2; omega) (kk _ hlv))
theorem r_sld {i : Int32} (hd : dcd y pc .iaload 1) (hin : ¬ (i < 0 ∨ X.1 ≤ i.toNatClampNeg)) (k : MW X y d (pc + 1) ls (.int (X.2 i.toNatClampNeg) :: st) h r h') : MW X y d pc ls (.int i :: .retAddr 0 :: st) h r h' :=
  MW.st k (fun {p l e R s m args below meth c H locs cells slots lsA E Q} C hR hS hl _ _ kk => by
    have hok := C.2.2.2.2.2.2.2.2.1
    have hX := C.2.2.2.2.2.2.2.2.2.1
    subst hX
    exact va_sld (xs := E.2.2.2.2.2.2.2) C.1 C.2.1 hok.2.2.2.2.1 (Nat.lt_of_lt_of_le hok.2.2.2.2.2.1 hok.2.2.2.2.2.2.1) (Nat.not_le.mpr hok.2.2.2.2.2.1) hS hin hd (kk _ hl))
theorem r_slen (hd : dcd y pc .arraylength 1) (k : MW X y d (pc + 1) ls (.int (Int32.ofNat X.1) :: st) h r h') : MW X y d pc ls (.retAddr 0 :: st) h r h' :=
  MW.st k (fun {p l e R s m args below meth c H locs cells slots lsA E Q} C hR hS hl _ _ kk => by
    have hok := C.2.2.2.2.2.2.2.2.1
    have hX := C.2.2.2.2.2.2.2.2.2.1
    subst hX
    exact va_slen (xs := E.2.2.2.2.2.2.2) C.1 C.2.1 hok.2.2.2.2.1 (Nat.lt_of_lt_of_le hok.2.2.2.2.2.1 hok.2.2.2.2.2.2.1) (Nat.not_le.mpr hok.2.2.2.2.2.1) hS hd (kk _ hl))
theorem stR_s {t ci a v : Nat} {i : Int32} {h1 : mH} (e : stR t ci h a i v = some h1) : ∃ n f fs, cell h a = some (.inl (t, n, .inr (.inr (.inr (.inr f))))) ∧ cell h v = some (.inr (ci, fs)) ∧ vp_in i n ∧ h1 = mS h a (.inl (t, n, .inr (.inr (.inr (.inr (va_up f i.toNatClampNeg (some v))))))) := by
  unfold stR at e
  split at e
  · rename_i t' n f c fs hc1 hc2
    split at e
    · rename_i hq
      obtain ⟨rfl, rfl, hin⟩ := hq
      exact ⟨n, f, fs, hc1, hc2, hin, (Option.some.inj e).symm⟩
    · cases e
  · cases e
theorem r_aast {t ci a v : Nat} {i : Int32} {h1 : mH} (hd : dcd y pc .aastore 1) (hc : classes[ci]? = some (clN ci)) (ht : ∀ dd : Nat → ClassId, (mT dd)[t]? = some (dd t, .object (clN ci).1)) (hv : stR t ci h a i v = some h1) (k : MW X y d (pc + 1) ls st h1 r h') : MW X y d pc ls (.ref v :: .int i :: .ref a :: st) h r h' := by
  obtain ⟨n, f, fs, hc1, hc2, hin, rfl⟩ := stR_s hv
  refine MW.hp k rfl rfl (fun {p l e R s m args below meth c H locs cells slots lsA E Q} C hR hS hl kk => ?_)
  obtain ⟨ha, hcl, hat, he⟩ := mR_at hR hc1
  have hK := C.2.2.2.2.2.2.2.2.1.1
  have hlt : i.toNatClampNeg < n := Nat.not_le.mp fun q => hin (Or.inr q)
  have h0 : ¬ i < 0 := fun q => hin (Or.inl q)
  obtain ⟨r', hr', cellV, g1, g2, g3, -⟩ := (mR_at hR hc2).2.2.1
  have hcls := (hK.1 ci _ hc).2
  obtain ⟨kA, comp, k1, k2, k3, -⟩ := (hK.2 t _ (ht E.2.2.1)).2
  have hcomp : comp = E.2.1.1 ci := Option.some.inj (k3.symm.trans hcls.1)
  subst hcomp
  obtain ⟨kC, hkC, -⟩ := hcls.2
  refine W.aast C.1 C.2.1 hat (fun q h => by cases h) (fun h => by cases h) k1 k2 rfl hkC ⟨h0, by show _ < (arrV _ _ _).slots.size; rw [arrV_size]; exact hlt⟩ g1 (fun q h => by rw [g3] at h; cases h) (by rw [g2]; exact hkC) (by rw [g2]; exact va_assign hcls) rfl rfl hd fun H1 e z oq => ?_
  refine kk H1 _ (mR_set hR ha ?_ z oq) (hS.put z oq (Nat.le_add_right _ _))
  show H1[E.1 + a]? = some (vp_cell _ _)
  rw [e]
  show some ((vp_cell (E.2.2.1 t) (n, .inr (.inr (.inr (.inr (fun j => (f j).map (fun k => E.1 + k))))))).setSlot i.toNatClampNeg (.ref (E.1 + v))) = some (vp_cell (E.2.2.1 t) (n, .inr (.inr (.inr (.inr (fun j => (va_up f i.toNatClampNeg (some v) j).map (fun k => E.1 + k)))))))
  rw [vp_cell_q, vp_cell_q, arrV_store]
  congr 2
  funext q
  by_cases hq : q = i.toNatClampNeg
  · subst hq
    simp [updV, va_up, va_rf]
  · simp [updV, va_up, hq]
theorem cpI_s {a0 a : Nat} {sp dp n : Int32} {h1 : mH} (e : cpI h a0 sp a dp n = some h1) : ∃ n0 f n1 g, cell h a0 = some (.inl (0, n0, .inl f)) ∧ cell h a = some (.inl (0, n1, .inl g)) ∧ ¬ sp < 0 ∧ ¬ dp < 0 ∧ ¬ n < 0 ∧ sp.toNatClampNeg + n.toNatClampNeg ≤ n0 ∧ dp.toNatClampNeg + n.toNatClampNeg ≤ n1 ∧ h1 = mS h a (.inl (0, n1, .inl (va_cpy f g sp.toNatClampNeg dp.toNatClampNeg n.toNatClampNeg))) := by
  unfold cpI at e
  split at e
  · rename_i t0 n0 f t1 n1 g hc1 hc2
    split at e
    · rename_i hq
      obtain ⟨rfl, rfl, q1, q2, q3, q4, q5⟩ := hq
      exact ⟨n0, f, n1, g, hc1, hc2, q1, q2, q3, q4, q5, (Option.some.inj e).symm⟩
    · cases e
  · cases e
theorem r_cpy {o idx a0 a : Nat} {sp dp n : Int32} {h1 : mH} (hd : dcd y pc (.invokestatic idx) 3) (ho : oN o = y.1.cls) (hlk : (o, idx, 10) ∈ PL) (hd1 : 1 ≤ d) (hw : (st.map fun v => v.category).sum ≤ 8) (hv : cpI h a0 sp a dp n = some h1) (k : MW X y d (pc + 3) ls st h1 r h') : MW X y d pc ls (.int n :: .int dp :: .ref a :: .int sp :: .ref a0 :: st) h r h' := by
  obtain ⟨n0, f, n1, g, hc0, hc1, p1, p2, p3, p4, p5, rfl⟩ := cpI_s hv
  refine MW.hp k rfl rfl (fun {p l e R s m args below meth c H locs cells slots lsA E Q} C hR hS hl kk => ?_)
  have hown : s.vm.findClass (oN o) = some m.cls := by rw [ho]; exact C.2.2.2.1
  have hts := C.2.2.2.2.1
  have hK := C.2.2.2.2.2.2.2.2.1.1
  obtain ⟨ha0, -, hat0, -⟩ := mR_at hR hc0
  obtain ⟨ha1, -, hat1, -⟩ := mR_at hR hc1
  have nn : ∀ z : Int32, ¬ z < 0 → z.toInt = (z.toNatClampNeg : Int) := by
    intro z hz
    have hz0 : (0 : Int) ≤ z.toInt := by
      have := Int32.not_lt.mp hz
      simpa using Int32.le_iff_toInt_le.mp this
    show z.toInt = ((z.toInt.toNat : Nat) : Int)
    omega
  intro T hT X0
  have hq0 : H[E.1 + a0]? = some (vp_cell (E.2.2.1 0) (n0, .inl f)) := hat0
  have hq1 : H[E.1 + a]? = some (vp_cell (E.2.2.1 0) (n1, .inl g)) := hat1
  obtain ⟨-, k0, hk0, cm0, hkk0⟩ := (hK.2 0 _ rfl).1 n0 (fun j => .int (f j))
  obtain ⟨-, k1, hk1, cm1, hkk1⟩ := (hK.2 0 _ rfl).1 n1 (fun j => .int (g j))
  obtain ⟨vm', X', step⟩ := X0.arraycopy C.1 hown (hts _ (PL_ok _ hlk)) (hts _ pw_ac2) (hts _ pw_ac1) (hts _ pw_sys) (src := E.1 + a0) (dst := E.1 + a) (cs := vp_cell (E.2.2.1 0) (n0, .inl f)) (cd := vp_cell (E.2.2.1 0) (n1, .inl g)) (srcPos := sp) (destPos := dp) (n := n) (by rw [hT]; exact hq0) (by rw [hT]; exact hq1)
    (fun _ h => by cases h) (fun _ h => by cases h) (fun h => by cases h) (fun h => by cases h) hk0 hk1 hkk0 hkk1 (by simp [refKind]) p1 p2 p3
    (by rw [nn sp p1, nn n p3]; show ¬ _ > ((arrV (E.2.2.1 0) n0 (fun j => .int (f j))).slots.size : Int); rw [arrV_size]; omega)
    (by rw [nn dp p2, nn n p3]; show ¬ _ > ((arrV (E.2.2.1 0) n1 (fun j => .int (g j))).slots.size : Int); rw [arrV_size]; omega)
    (fun vm₁ _ i hi => by
      have e : (vp_cell (E.2.2.1 0) (n0, .inl f)).slots.getD (sp.toNatClampNeg + i) .null = .int (f (sp.toNatClampNeg + i)) := by
        show (arrV (E.2.2.1 0) n0 (fun j => .int (f j))).slots.getD _ _ = _
        rw [Array.getD_eq_getD_getElem?, arrV_read _ _ (by omega)]
        rfl
      refine ⟨?_, ?_⟩
      · rw [e]
        rfl
      · rw [e]
        exact trivial)
    (g := F0 m pc lsA (.int n :: .int dp :: .ref (E.1 + a) :: .int sp :: .ref (E.1 + a0) :: st.map (mv E))) rfl (by rw [C.2.2.1]; exact hl.1) (rest := st.map (mv E)) rfl (by rw [C.2.1]; exact hd) (Nat.le_trans hd1 C.2.2.2.2.2.2.2.2.2.2.1) (by show 2 * 0 + _ + (nativeFrameWords "java/lang/System" "arraycopy" 5 + 11) ≤ _; rw [cat_map]; have := C.2.2.2.2.2.2.2.2.2.2.2; have e9 : nativeFrameWords "java/lang/System" "arraycopy" 5 + 11 ≤ 56 := (by decide +kernel); omega)
  have e1 : copied (vp_cell (E.2.2.1 0) (n0, .inl f)) (vp_cell (E.2.2.1 0) (n1, .inl g)) sp dp n = vp_cell (E.2.2.1 0) (n1, .inl (va_cpy f g sp.toNatClampNeg dp.toNatClampNeg n.toNatClampNeg)) := va_copied (fun z => .int z) (E.2.2.1 0) (E.2.2.1 0) f g p4
  rw [e1] at X' step
  have hlt : E.1 + a < H.size := (Array.getElem?_eq_some_iff.mp hq1).1
  have hheap : ((T.setVm vm').setCell (E.1 + a) (vp_cell (E.2.2.1 0) (n1, .inl (va_cpy f g sp.toNatClampNeg dp.toNatClampNeg n.toNatClampNeg)))).heap = H.setIfInBounds (E.1 + a) (vp_cell (E.2.2.1 0) (n1, .inl (va_cpy f g sp.toNatClampNeg dp.toNatClampNeg n.toNatClampNeg))) := by rw [← hT]; rfl
  have oq : ∀ q : Nat, q ≠ E.1 + a → (H.setIfInBounds (E.1 + a) (vp_cell (E.2.2.1 0) (n1, .inl (va_cpy f g sp.toNatClampNeg dp.toNatClampNeg n.toNatClampNeg))))[q]? = H[q]? := fun q hq => by simp [Array.getElem?_setIfInBounds, Ne.symm hq]
  obtain ⟨t, a1, b1⟩ := kk _ _ (mR_set (e := .inl (0, n1, .inl (va_cpy f g sp.toNatClampNeg dp.toNatClampNeg n.toNatClampNeg))) hR ha1 (show (H.setIfInBounds (E.1 + a) _)[E.1 + a]? = some _ by simp [Array.getElem?_setIfInBounds, hlt]; rfl) (by simp) oq) ⟨by simp; exact hS.1, fun q g1 g2 => by
      rw [oq q (fun e => g2 (by rw [e]; exact Nat.le_add_right _ _))]
      exact hS.2.1 q g1 g2, fun q hq => by
      rcases List.mem_append.mp hq with h | h
      · exact hS.2.2 q h
      · obtain ⟨z, -, hz⟩ := List.mem_map.mp h
        rw [← hz]
        exact Nat.le_add_right _ _⟩ _ hheap X'
  exact ⟨t, step t a1, b1⟩
end
end
section
/-! String constants: length() and charAt() by contract -/
def ys_len : mM := (yJ0_length_8abf5, cJ0_length_8abf5, 1, (some .int))
theorem ys_len_c : Cond.code ys_len.1 ys_len.2.1 ys_len.2.2.1 ys_len.2.2.2 ∈ WT := WT_of (tt_3 (List.mem_of_getElem? (i := 11) rfl)) rfl
theorem ys_len_i : Cond.initialized ys_len.1.cls ∈ WT := WT_of (List.mem_of_getElem? (i := 131) (by decide +kernel)) rfl
theorem ys_len_n : ys_len.1.cls ≠ "java/lang/invoke/MethodHandle" ∧ ys_len.1.cls ≠ "java/lang/invoke/VarHandle" ∧ (parseMethodDescriptor ys_len.1.desc).map (fun d => d.parameters.length) = some 0 := by decide +kernel
theorem ys_len_p : plainFor ys_len.1 = true := by decide +kernel
theorem ys_len_v : Cond.instanceMethod ys_len.1 ∈ WT ∧ Cond.selects "java/lang/String" ys_len.1 ys_len.1 ∈ WT := ⟨WT_of (List.mem_of_getElem? (i := 604) (by decide +kernel)) rfl, WT_of (List.mem_of_getElem? (i := 605) (by decide +kernel)) rfl⟩
def ys_chr : mM := (yJ0_charAt_5068e, cJ0_charAt_5068e, 2, (some .char))
theorem ys_chr_c : Cond.code ys_chr.1 ys_chr.2.1 ys_chr.2.2.1 ys_chr.2.2.2 ∈ WT := WT_of (tt_3 (List.mem_of_getElem? (i := 21) rfl)) rfl
theorem ys_chr_i : Cond.initialized ys_chr.1.cls ∈ WT := WT_of (List.mem_of_getElem? (i := 131) (by decide +kernel)) rfl
theorem ys_chr_n : ys_chr.1.cls ≠ "java/lang/invoke/MethodHandle" ∧ ys_chr.1.cls ≠ "java/lang/invoke/VarHandle" ∧ (parseMethodDescriptor ys_chr.1.desc).map (fun d => d.parameters.length) = some 1 := by decide +kernel
theorem ys_chr_p : plainFor ys_chr.1 = true := by decide +kernel
theorem ys_chr_v : Cond.instanceMethod ys_chr.1 ∈ WT ∧ Cond.selects "java/lang/String" ys_chr.1 ys_chr.1 ∈ WT := ⟨WT_of (List.mem_of_getElem? (i := 614) (by decide +kernel)) rfl, WT_of (List.mem_of_getElem? (i := 615) (by decide +kernel)) rfl⟩
def ys_cod : mM := (yJ0_coder_7d493, cJ0_coder_7d493, 1, (some .byte))
theorem ys_cod_c : Cond.code ys_cod.1 ys_cod.2.1 ys_cod.2.2.1 ys_cod.2.2.2 ∈ WT := WT_of (tt_3 (List.mem_of_getElem? (i := 15) rfl)) rfl
theorem ys_cod_i : Cond.initialized ys_cod.1.cls ∈ WT := WT_of (List.mem_of_getElem? (i := 131) (by decide +kernel)) rfl
theorem ys_cod_n : ys_cod.1.cls ≠ "java/lang/invoke/MethodHandle" ∧ ys_cod.1.cls ≠ "java/lang/invoke/VarHandle" ∧ (parseMethodDescriptor ys_cod.1.desc).map (fun d => d.parameters.length) = some 0 := by decide +kernel
theorem ys_cod_p : plainFor ys_cod.1 = true := by decide +kernel
theorem ys_cod_v : Cond.instanceMethod ys_cod.1 ∈ WT ∧ Cond.selects "java/lang/String" ys_cod.1 ys_cod.1 ∈ WT := ⟨WT_of (List.mem_of_getElem? (i := 608) (by decide +kernel)) rfl, WT_of (List.mem_of_getElem? (i := 609) (by decide +kernel)) rfl⟩
def ys_lat : mM := (yJ0_isLatin1_aae02, cJ0_isLatin1_aae02, 1, (some .boolean))
theorem ys_lat_c : Cond.code ys_lat.1 ys_lat.2.1 ys_lat.2.2.1 ys_lat.2.2.2 ∈ WT := WT_of (tt_3 (List.mem_of_getElem? (i := 25) rfl)) rfl
theorem ys_lat_i : Cond.initialized ys_lat.1.cls ∈ WT := WT_of (List.mem_of_getElem? (i := 131) (by decide +kernel)) rfl
theorem ys_lat_n : ys_lat.1.cls ≠ "java/lang/invoke/MethodHandle" ∧ ys_lat.1.cls ≠ "java/lang/invoke/VarHandle" ∧ (parseMethodDescriptor ys_lat.1.desc).map (fun d => d.parameters.length) = some 0 := by decide +kernel
theorem ys_lat_p : plainFor ys_lat.1 = true := by decide +kernel
theorem ys_lat_v : Cond.instanceMethod ys_lat.1 ∈ WT ∧ Cond.selects "java/lang/String" ys_lat.1 ys_lat.1 ∈ WT := ⟨WT_of (List.mem_of_getElem? (i := 618) (by decide +kernel)) rfl, WT_of (List.mem_of_getElem? (i := 619) (by decide +kernel)) rfl⟩
def ys_chk : mM := (yJ0_checkIndex_df160, cJ0_checkIndex_df160, 2, none)
theorem ys_chk_c : Cond.code ys_chk.1 ys_chk.2.1 ys_chk.2.2.1 ys_chk.2.2.2 ∈ WT := WT_of (tt_3 (List.mem_of_getElem? (i := 31) rfl)) rfl
theorem ys_chk_i : Cond.initialized ys_chk.1.cls ∈ WT := WT_of (List.mem_of_getElem? (i := 131) (by decide +kernel)) rfl
theorem ys_chk_n : ys_chk.1.cls ≠ "java/lang/invoke/MethodHandle" ∧ ys_chk.1.cls ≠ "java/lang/invoke/VarHandle" ∧ (parseMethodDescriptor ys_chk.1.desc).map (fun d => d.parameters.length) = some 2 := by decide +kernel
theorem ys_chk_p : plainFor ys_chk.1 = true := by decide +kernel
theorem ys_chk_v : Cond.static ys_chk.1 ∈ WT := WT_of (List.mem_of_getElem? (i := 625) (by decide +kernel)) rfl
def ys_lch : mM := (yJ1_charAt_3b067, cJ1_charAt_3b067, 2, (some .char))
theorem ys_lch_c : Cond.code ys_lch.1 ys_lch.2.1 ys_lch.2.2.1 ys_lch.2.2.2 ∈ WT := WT_of (tt_3 (List.mem_of_getElem? (i := 28) rfl)) rfl
theorem ys_lch_i : Cond.initialized ys_lch.1.cls ∈ WT := WT_of (List.mem_of_getElem? (i := 132) (by decide +kernel)) rfl
theorem ys_lch_n : ys_lch.1.cls ≠ "java/lang/invoke/MethodHandle" ∧ ys_lch.1.cls ≠ "java/lang/invoke/VarHandle" ∧ (parseMethodDescriptor ys_lch.1.desc).map (fun d => d.parameters.length) = some 2 := by decide +kernel
theorem ys_lch_p : plainFor ys_lch.1 = true := by decide +kernel
theorem ys_lch_v : Cond.static ys_lch.1 ∈ WT := WT_of (List.mem_of_getElem? (i := 622) (by decide +kernel)) rfl
def ys_pre : mM := (yJ3_checkIndex_8e157, cJ3_checkIndex_8e157, 3, (some .int))
theorem ys_pre_c : Cond.code ys_pre.1 ys_pre.2.1 ys_pre.2.2.1 ys_pre.2.2.2 ∈ WT := WT_of (tt_3 (List.mem_of_getElem? (i := 36) rfl)) rfl
theorem ys_pre_i : Cond.initialized ys_pre.1.cls ∈ WT := WT_of (List.mem_of_getElem? (i := 133) (by decide +kernel)) rfl
theorem ys_pre_n : ys_pre.1.cls ≠ "java/lang/invoke/MethodHandle" ∧ ys_pre.1.cls ≠ "java/lang/invoke/VarHandle" ∧ (parseMethodDescriptor ys_pre.1.desc).map (fun d => d.parameters.length) = some 3 := by decide +kernel
theorem ys_pre_p : plainFor ys_pre.1 = true := by decide +kernel
theorem ys_pre_v : Cond.static ys_pre.1 ∈ WT := WT_of (List.mem_of_getElem? (i := 630) (by decide +kernel)) rfl
theorem sl_cod : Cond.methodLink "java/lang/String" 335 ys_cod.1 ∈ WT := WT_of (List.mem_of_getElem? (i := 607) (by decide +kernel)) rfl
theorem sl_lat : Cond.methodLink "java/lang/String" 492 ys_lat.1 ∈ WT := WT_of (List.mem_of_getElem? (i := 617) (by decide +kernel)) rfl
theorem sl_lch : Cond.methodLink "java/lang/String" 495 ys_lch.1 ∈ WT := WT_of (List.mem_of_getElem? (i := 621) (by decide +kernel)) rfl
theorem sl_chk : Cond.methodLink "java/lang/StringLatin1" 9 ys_chk.1 ∈ WT := WT_of (List.mem_of_getElem? (i := 624) (by decide +kernel)) rfl
theorem sl_pre : Cond.methodLink "java/lang/String" 1059 ys_pre.1 ∈ WT := WT_of (List.mem_of_getElem? (i := 629) (by decide +kernel)) rfl
theorem sf_val : Cond.fieldLink "java/lang/String" 9 "java/lang/String" "value" "[B" ∈ WT := WT_of (List.mem_of_getElem? (i := 2169) (by decide +kernel)) rfl
theorem sf_cod : Cond.fieldLink "java/lang/String" 15 "java/lang/String" "coder" "B" ∈ WT := WT_of (List.mem_of_getElem? (i := 2170) (by decide +kernel)) rfl
theorem sf_com : Cond.fieldLink "java/lang/String" 38 "java/lang/String" "COMPACT_STRINGS" "Z" ∈ WT := WT_of (List.mem_of_getElem? (i := 611) (by decide +kernel)) rfl
theorem sf_sio : Cond.fieldLink "java/lang/String" 1053 "jdk/internal/util/Preconditions" "SIOOBE_FORMATTER" "Ljava/util/function/BiFunction;" ∈ WT := WT_of (List.mem_of_getElem? (i := 627) (by decide +kernel)) rfl
theorem ds_len_0 : dcd ys_len 0 (.aload_n 0) 1 := by decide +kernel
theorem ds_len_1 : dcd ys_len 1 (.getfield 9) 3 := by decide +kernel
theorem ds_len_4 : dcd ys_len 4 (.arraylength) 1 := by decide +kernel
theorem ds_len_5 : dcd ys_len 5 (.aload_n 0) 1 := by decide +kernel
theorem ds_len_6 : dcd ys_len 6 (.invokevirtual 335) 3 := by decide +kernel
theorem ds_len_9 : dcd ys_len 9 (.ishr) 1 := by decide +kernel
theorem ds_len_10 : dcd ys_len 10 (.ireturn) 1 := by decide +kernel
theorem ds_chr_0 : dcd ys_chr 0 (.aload_n 0) 1 := by decide +kernel
theorem ds_chr_1 : dcd ys_chr 1 (.invokevirtual 492) 3 := by decide +kernel
theorem ds_chr_4 : dcd ys_chr 4 (.ifCond .eq 12) 3 := by decide +kernel
theorem ds_chr_7 : dcd ys_chr 7 (.aload_n 0) 1 := by decide +kernel
theorem ds_chr_8 : dcd ys_chr 8 (.getfield 9) 3 := by decide +kernel
theorem ds_chr_11 : dcd ys_chr 11 (.iload_n 1) 1 := by decide +kernel
theorem ds_chr_12 : dcd ys_chr 12 (.invokestatic 495) 3 := by decide +kernel
theorem ds_chr_15 : dcd ys_chr 15 (.ireturn) 1 := by decide +kernel
theorem ds_cod_0 : dcd ys_cod 0 (.getstatic 38) 3 := by decide +kernel
theorem ds_cod_3 : dcd ys_cod 3 (.ifCond .eq 10) 3 := by decide +kernel
theorem ds_cod_6 : dcd ys_cod 6 (.aload_n 0) 1 := by decide +kernel
theorem ds_cod_7 : dcd ys_cod 7 (.getfield 15) 3 := by decide +kernel
theorem ds_cod_10 : dcd ys_cod 10 (.goto 4) 3 := by decide +kernel
theorem ds_cod_14 : dcd ys_cod 14 (.ireturn) 1 := by decide +kernel
theorem ds_lat_0 : dcd ys_lat 0 (.getstatic 38) 3 := by decide +kernel
theorem ds_lat_3 : dcd ys_lat 3 (.ifCond .eq 14) 3 := by decide +kernel
theorem ds_lat_6 : dcd ys_lat 6 (.aload_n 0) 1 := by decide +kernel
theorem ds_lat_7 : dcd ys_lat 7 (.getfield 15) 3 := by decide +kernel
theorem ds_lat_10 : dcd ys_lat 10 (.ifCond .ne 7) 3 := by decide +kernel
theorem ds_lat_13 : dcd ys_lat 13 (.iconst 1) 1 := by decide +kernel
theorem ds_lat_14 : dcd ys_lat 14 (.goto 4) 3 := by decide +kernel
theorem ds_lat_18 : dcd ys_lat 18 (.ireturn) 1 := by decide +kernel
theorem ds_chk_0 : dcd ys_chk 0 (.iload_n 0) 1 := by decide +kernel
theorem ds_chk_1 : dcd ys_chk 1 (.iload_n 1) 1 := by decide +kernel
theorem ds_chk_2 : dcd ys_chk 2 (.getstatic 1053) 3 := by decide +kernel
theorem ds_chk_5 : dcd ys_chk 5 (.invokestatic 1059) 3 := by decide +kernel
theorem ds_chk_8 : dcd ys_chk 8 (.pop) 1 := by decide +kernel
theorem ds_chk_9 : dcd ys_chk 9 (.return_) 1 := by decide +kernel
theorem ds_lch_0 : dcd ys_lch 0 (.iload_n 1) 1 := by decide +kernel
theorem ds_lch_1 : dcd ys_lch 1 (.aload_n 0) 1 := by decide +kernel
theorem ds_lch_2 : dcd ys_lch 2 (.arraylength) 1 := by decide +kernel
theorem ds_lch_3 : dcd ys_lch 3 (.invokestatic 9) 3 := by decide +kernel
theorem ds_lch_6 : dcd ys_lch 6 (.aload_n 0) 1 := by decide +kernel
theorem ds_lch_7 : dcd ys_lch 7 (.iload_n 1) 1 := by decide +kernel
theorem ds_lch_8 : dcd ys_lch 8 (.baload) 1 := by decide +kernel
theorem ds_lch_9 : dcd ys_lch 9 (.sipush 255) 3 := by decide +kernel
theorem ds_lch_12 : dcd ys_lch 12 (.iand) 1 := by decide +kernel
theorem ds_lch_13 : dcd ys_lch 13 (.i2c) 1 := by decide +kernel
theorem ds_lch_14 : dcd ys_lch 14 (.ireturn) 1 := by decide +kernel
theorem ds_pre_0 : dcd ys_pre 0 (.iload_n 0) 1 := by decide +kernel
theorem ds_pre_1 : dcd ys_pre 1 (.ifCond .lt 8) 3 := by decide +kernel
theorem ds_pre_4 : dcd ys_pre 4 (.iload_n 0) 1 := by decide +kernel
theorem ds_pre_5 : dcd ys_pre 5 (.iload_n 1) 1 := by decide +kernel
theorem ds_pre_6 : dcd ys_pre 6 (.if_icmp .lt 10) 3 := by decide +kernel
theorem ds_pre_16 : dcd ys_pre 16 (.iload_n 0) 1 := by decide +kernel
theorem ds_pre_17 : dcd ys_pre 17 (.ireturn) 1 := by decide +kernel
section
variable {X : Nat × (Nat → Int32)} {y : mM} {d pc : Nat} {ls : mL} {st : List Value} {h : mH} {r : Option Value} {h' : mH}
theorem r_callSx {idx n d' : Nat} {yc : mM} {as : List Value} {v : Option Value} {h1 : mH} (hd : dcd y pc (.invokestatic idx) 3) (hl : Cond.methodLink y.1.cls idx yc.1 ∈ WT) (f1 : Cond.code yc.1 yc.2.1 yc.2.2.1 yc.2.2.2 ∈ WT) (f2 : Cond.initialized yc.1.cls ∈ WT) (f5 : yc.1.cls ≠ "java/lang/invoke/MethodHandle" ∧ yc.1.cls ≠ "java/lang/invoke/VarHandle" ∧ (parseMethodDescriptor yc.1.desc).map (fun d => d.parameters.length) = some n) (f6 : Cond.static yc.1 ∈ WT) (hn : as.length = n) (hml : yc.2.2.1 ≤ 45) (hw : (st.map fun v => v.category).sum ≤ 8) (hdd : d' < d)
    (hM : MM yc d' as h v h1) (k : MW X y d (pc + 3) ls (vl v st) h1 r h') : MW X y d pc ls (as.reverse ++ st) h r h' := by
  refine m_back hM k (fun {p l e R s m args below meth c H locs cells slots lsA E} C hR hS hlv hf hMet => ?_)
  have hts := C.2.2.2.2.1
  exact va_runS (As := as.map (mv E)) (rest := st.map (mv E)) (own := y.1.cls) (index := idx) (bytes := yc.2.1) (maxL := yc.2.2.1) (ret := yc.2.2.2) (n := n) (Ts := WT) (nL := y.2.2.1) (cc := y.2.1) ⟨C.1, C.2.1, C.2.2.1, C.2.2.2.1, hts⟩ hMet
    ⟨callB_of n hts (mws_good f1) rfl rfl rfl (hts _ f2) (hts _ hl) f5 (rm_ok hdd hml C.2.2.2.2.2.2.2.2.2.2.1 C.2.2.2.2.2.2.2.2.2.2.2), hts _ f6⟩
    ⟨blind E h _, fun U hU hW => ⟨rfl, mOK_call C.2.2.2.2.2.2.2.2.1 hS hU hW, by rw [hU]; exact hR⟩⟩ rfl (by rw [List.length_map]; exact hn) hlv.1
    (by show (as.reverse ++ st).map (mv E) = _; rw [List.map_append, List.map_reverse]) (lv_room (by rw [cat_map]; exact hw)) hd hf
theorem r_callVx {idx n d' : Nat} {u : UInt32} {yc : mM} {as : List Value} {v : Option Value} {h1 : mH} (hu : u.toNat < 18) (hd : dcd y pc (.invokevirtual idx) 3) (hl : Cond.methodLink y.1.cls idx yc.1 ∈ WT) (f1 : Cond.code yc.1 yc.2.1 yc.2.2.1 yc.2.2.2 ∈ WT) (f2 : Cond.initialized yc.1.cls ∈ WT) (f5 : yc.1.cls ≠ "java/lang/invoke/MethodHandle" ∧ yc.1.cls ≠ "java/lang/invoke/VarHandle" ∧ (parseMethodDescriptor yc.1.desc).map (fun d => d.parameters.length) = some n) (f6 : Cond.instanceMethod yc.1 ∈ WT ∧ Cond.selects "java/lang/String" yc.1 yc.1 ∈ WT) (hn : as.length = n) (hml : yc.2.2.1 ≤ 45) (hw : (st.map fun v => v.category).sum ≤ 8) (hdd : d' < d)
    (hM : MM yc d' (.float u :: as) h v h1) (k : MW X y d (pc + 3) ls (vl v st) h1 r h') : MW X y d pc ls (as.reverse ++ .float u :: st) h r h' := by
  refine m_back hM k (fun {p l e R s m args below meth c H locs cells slots lsA E} C hR hS hlv hf hMet => ?_)
  have hts := C.2.2.2.2.1
  exact va_runV (b := E.2.2.2.1 u.toNat) (As := as.map (mv E)) (rest := st.map (mv E)) (C := "java/lang/String") (own := y.1.cls) (index := idx) (bytes := yc.2.1) (maxL := yc.2.2.1) (ret := yc.2.2.2) (n := n) (Ts := WT) (nL := y.2.2.1) (cc := y.2.1) ⟨C.1, C.2.1, C.2.2.1, C.2.2.2.1, hts⟩ hMet
    ⟨callB_of n hts (mws_good f1) rfl rfl rfl (hts _ f2) (hts _ hl) f5 (rm_ok hdd hml C.2.2.2.2.2.2.2.2.2.2.1 C.2.2.2.2.2.2.2.2.2.2.2), hts _ f6.1, hts _ f6.2⟩
    ⟨blind E h _, vk_recv C.2.2.2.2.2.2.2.2.1.2.1 hu hS, fun U hU hW => ⟨rfl, mOK_call C.2.2.2.2.2.2.2.2.1 hS hU hW, by rw [hU]; exact hR⟩⟩ rfl (by rw [List.length_map]; exact hn) hlv.1
    (by show (as.reverse ++ .float u :: st).map (mv E) = _; rw [List.map_append, List.map_reverse]; rfl) (lv_room (by rw [cat_map]; exact hw)) hd hf
theorem r_sval {u : UInt32} (hu : u.toNat < 18) (hy : y.1.cls = "java/lang/String") (hd : dcd y pc (.getfield 9) 3) (k : MW X y d (pc + 3) ls (.retAddr (u.toNat + 2) :: st) h r h') : MW X y d pc ls (.float u :: st) h r h' :=
  MW.st k (fun {p l e R s m args below meth c H locs cells slots lsA E Q} C hR hS hl _ _ kk => vk_getf (own := "java/lang/String") C.1 C.2.1 (C.2.2.2.2.2.2.2.2.1.2.1.1 u.toNat hu).2.2.1 hS (by rw [← hy]; exact C.2.2.2.1) (C.2.2.2.2.1 _ sf_val) (fun x hx => hx) hd (kk _ hl))
theorem r_scod {u : UInt32} (hu : u.toNat < 18) (hy : y.1.cls = "java/lang/String") (hd : dcd y pc (.getfield 15) 3) (k : MW X y d (pc + 3) ls (.int 0 :: st) h r h') : MW X y d pc ls (.float u :: st) h r h' :=
  MW.st k (fun {p l e R s m args below meth c H locs cells slots lsA E Q} C hR hS hl _ _ kk => vk_getf (own := "java/lang/String") C.1 C.2.1 (C.2.2.2.2.2.2.2.2.1.2.1.1 u.toNat hu).2.1 hS (by rw [← hy]; exact C.2.2.2.1) (C.2.2.2.2.1 _ sf_cod) (fun x hx => hx) hd (kk _ hl))
theorem r_scom (hy : y.1.cls = "java/lang/String") (hd : dcd y pc (.getstatic 38) 3) (k : MW X y d (pc + 3) ls (.int 1 :: st) h r h') : MW X y d pc ls st h r h' :=
  MW.st k (fun {p l e R s m args below meth c H locs cells slots lsA E Q} C hR hS hl _ _ kk => va_gets (own := "java/lang/String") C.1 C.2.1 C.2.2.2.2.2.2.2.2.1.2.2.2.1.1 hS (by rw [← hy]; exact C.2.2.2.1) (C.2.2.2.2.1 _ sf_com) (fun x hx => hx) hd (kk _ hl))
theorem r_ssio (hy : y.1.cls = "java/lang/String") (hd : dcd y pc (.getstatic 1053) 3) (k : MW X y d (pc + 3) ls (.retAddr 1 :: st) h r h') : MW X y d pc ls st h r h' :=
  MW.st k (fun {p l e R s m args below meth c H locs cells slots lsA E Q} C hR hS hl _ _ kk => va_gets (own := "java/lang/String") C.1 C.2.1 C.2.2.2.2.2.2.2.2.1.2.2.2.1.2 hS (by rw [← hy]; exact C.2.2.2.1) (C.2.2.2.2.1 _ sf_sio) (fun x hx => hx) hd (kk _ hl))
theorem r_slenA {i : Nat} (hi : i < 18) (hd : dcd y pc .arraylength 1) (k : MW X y d (pc + 1) ls (.int (Int32.ofNat (sjLen.getD i 0)) :: st) h r h') : MW X y d pc ls (.retAddr (i + 2) :: st) h r h' :=
  MW.st k (fun {p l e R s m args below meth c H locs cells slots lsA E Q} C hR hS hl _ _ kk => va_tlen C.1 C.2.1 (C.2.2.2.2.2.2.2.2.1.2.1.1 i hi).2.2.2 hS rfl hd (kk _ hl))
theorem r_sbald {i : Nat} {x : Int32} (hi : i < 18) (hd : dcd y pc .baload 1) (hin : vp_in x (sjLen.getD i 0)) (k : MW X y d (pc + 1) ls (.int ((sjByt.getD i []).getD x.toNatClampNeg 0) :: st) h r h') : MW X y d pc ls (.int x :: .retAddr (i + 2) :: st) h r h' :=
  MW.st k (fun {p l e R s m args below meth c H locs cells slots lsA E Q} C hR hS hl _ _ kk => va_tb C.1 C.2.1 (C.2.2.2.2.2.2.2.2.1.2.1.1 i hi).2.2.2 hS hin rfl hd (kk _ hl))
theorem r_i2c {a : Int32} (hd : dcd y pc .i2c 1) (k : MW X y d (pc + 1) ls (.int (a.toUInt32 % 65536).toInt32 :: st) h r h') : MW X y d pc ls (.int a :: st) h r h' :=
  MW.st k (fun C _ _ hl _ _ kk => lv_i2c C.1 C.2.1 hd rfl (kk _ hl))
theorem r_nret {ty : FieldType} {x : Int32} (hd : dcd y pc .ireturn 1) (hr : y.2.2.2 = some ty) (hx : narrow ty (.int x) = .int x) : MW X y d pc ls [.int x] h (some (.int x)) h :=
  ⟨⟨Nat.le_refl _, Nat.le_refl _⟩, fun p l e R s m args below meth c H locs cells slots lsA E C hR hS hl q1 q2 => W.widen (by omega) (by omega) (W.zret C.1 C.2.1 (C.2.2.2.2.2.1.trans hr) hx (mQ_end (v := some (.int x)) hR hS) hS.2.2 hd C.2.2.2.2.2.2.1)⟩
end
theorem gd_el {l : List Int32} {n : Nat} (h : n < l.length) : l.getD n 0 = l[n] := by simp [List.getD, h]
theorem c_cod {u : UInt32} (hu : u.toNat < 18) (h : mH) : MM ys_cod 0 [.float u] h (some (.int 0)) h := by
  refine MM.of ys_cod_p (Nat.le_of_ble_eq_true rfl) (fun X => ?_)
  refine r_scom rfl ds_cod_0 ?_
  refine r_if_eq (t := 13) ds_cod_3 (by decide) (fun q => absurd q (by decide)) (fun _ => ?_)
  refine r_aload_n (v := .float u) ds_cod_6 rfl rfl rfl ?_
  refine r_scod hu rfl ds_cod_7 ?_
  refine r_goto (t := 14) ds_cod_10 (by decide) ?_
  exact r_nret ds_cod_14 rfl (by decide)
theorem c_lat {u : UInt32} (hu : u.toNat < 18) (h : mH) : MM ys_lat 0 [.float u] h (some (.int 1)) h := by
  refine MM.of ys_lat_p (Nat.le_of_ble_eq_true rfl) (fun X => ?_)
  refine r_scom rfl ds_lat_0 ?_
  refine r_if_eq (t := 17) ds_lat_3 (by decide) (fun q => absurd q (by decide)) (fun _ => ?_)
  refine r_aload_n (v := .float u) ds_lat_6 rfl rfl rfl ?_
  refine r_scod hu rfl ds_lat_7 ?_
  refine r_if_ne (t := 17) ds_lat_10 (by decide) (fun _ => ?_) (fun q => absurd rfl q)
  refine r_iconst ds_lat_13 ?_
  refine r_goto (t := 18) ds_lat_14 (by decide) ?_
  exact r_nret ds_lat_18 rfl (by decide)
theorem c_pre {a b : Int32} (h1 : ¬ a < 0) (h2 : a < b) (h : mH) : MM ys_pre 0 [.int a, .int b, .retAddr 1] h (some (.int a)) h := by
  refine MM.of ys_pre_p (Nat.le_of_ble_eq_true rfl) (fun X => ?_)
  refine r_iload_n (x := a) ds_pre_0 rfl rfl ?_
  refine r_if_lt (t := 9) ds_pre_1 (by decide) (fun q => absurd q h1) (fun _ => ?_)
  refine r_iload_n (x := a) ds_pre_4 rfl rfl ?_
  refine r_iload_n (x := b) ds_pre_5 rfl rfl ?_
  refine r_icmp_lt (t := 16) ds_pre_6 (by decide) (fun _ => ?_) (fun q => absurd h2 q)
  refine r_iload_n (x := a) ds_pre_16 rfl rfl ?_
  exact r_iret ds_pre_17 rfl
theorem c_chk {a b : Int32} (h1 : ¬ a < 0) (h2 : a < b) (h : mH) : MM ys_chk 1 [.int a, .int b] h none h := by
  refine MM.of ys_chk_p (Nat.le_of_ble_eq_true rfl) (fun X => ?_)
  refine r_iload_n (x := a) ds_chk_0 rfl rfl ?_
  refine r_iload_n (x := b) ds_chk_1 rfl rfl ?_
  refine r_ssio rfl ds_chk_2 ?_
  refine r_callSx (as := [.int a, .int b, .retAddr 1]) (st := []) ds_chk_5 sl_pre ys_pre_c ys_pre_i ys_pre_n ys_pre_v rfl (by decide) (by decide) (by decide) (c_pre h1 h2 h) ?_
  refine r_pop ds_chk_8 rfl ?_
  exact r_vret ds_chk_9 rfl
theorem sb_small : ∀ i, i < 18 → ∀ b ∈ sjByt.getD i [], b &&& 255 = b ∧ ((b &&& 255).toUInt32 % 65536).toInt32 = b ∧ narrow .char (.int b) = .int b := by decide +kernel
theorem sj_len : ∀ i, i < 18 → sjLen.getD i 0 = (sjByt.getD i []).length ∧ sjLen.getD i 0 < 256 := by decide +kernel
theorem c_lch {i : Nat} {a : Int32} (hi : i < 18) (hin : vp_in a (sjLen.getD i 0)) (h : mH) : MM ys_lch 2 [.retAddr (i + 2), .int a] h (some (.int ((sjByt.getD i []).getD a.toNatClampNeg 0))) h := by
  obtain ⟨l1, l2⟩ := sj_len i hi
  have hlt : a.toNatClampNeg < sjLen.getD i 0 := Nat.not_le.mp fun q => hin (Or.inr q)
  have h0 : ¬ a < 0 := fun q => hin (Or.inl q)
  have hb : (sjByt.getD i []).getD a.toNatClampNeg 0 ∈ sjByt.getD i [] := by
    have hl2 : a.toNatClampNeg < (sjByt.getD i []).length := by omega
    have e : (sjByt.getD i []).getD a.toNatClampNeg 0 = (sjByt.getD i [])[a.toNatClampNeg] := gd_el hl2
    rw [e]
    exact List.getElem_mem _
  obtain ⟨b1, b2, b3⟩ := sb_small i hi _ hb
  have h2 : a < Int32.ofNat (sjLen.getD i 0) := by
    obtain ⟨j, hj, rfl⟩ := vp_in_of hin (by omega)
    exact nI_lt hj (by omega)
  refine MM.of ys_lch_p (Nat.le_of_ble_eq_true rfl) (fun X => ?_)
  refine r_iload_n (x := a) ds_lch_0 rfl rfl ?_
  refine r_aload_n (v := .retAddr (i + 2)) ds_lch_1 rfl rfl rfl ?_
  refine r_slenA hi ds_lch_2 ?_
  refine r_callSx (as := [.int a, .int (Int32.ofNat (sjLen.getD i 0))]) (st := []) ds_lch_3 sl_chk ys_chk_c ys_chk_i ys_chk_n ys_chk_v rfl (by decide) (by decide) (by decide) (c_chk h0 h2 h) ?_
  refine r_aload_n (v := .retAddr (i + 2)) ds_lch_6 rfl rfl rfl ?_
  refine r_iload_n (x := a) ds_lch_7 rfl rfl ?_
  refine r_sbald hi ds_lch_8 hin ?_
  refine r_sipush ds_lch_9 (by decide) ?_
  refine r_iand ds_lch_12 ?_
  refine r_i2c ds_lch_13 ?_
  rw [show jI 255 = 255 from by decide, b2]
  exact r_nret ds_lch_14 rfl b3
def sLen (u : UInt32) : Int32 := Int32.ofNat (sjLen.getD u.toNat 0)
def sChr (u : UInt32) (k : Int32) : Option Int32 := if u.toNat < 18 ∧ ¬ (k < 0 ∨ sjLen.getD u.toNat 0 ≤ k.toNatClampNeg) then some ((sjByt.getD u.toNat []).getD k.toNatClampNeg 0) else none
theorem c_len {u : UInt32} (hu : u.toNat < 18) (h : mH) : MM ys_len 1 [.float u] h (some (.int (sLen u))) h := by
  obtain ⟨l1, l2⟩ := sj_len u.toNat hu
  refine MM.of ys_len_p (Nat.le_of_ble_eq_true rfl) (fun X => ?_)
  refine r_aload_n (v := .float u) ds_len_0 rfl rfl rfl ?_
  refine r_sval hu rfl ds_len_1 ?_
  refine r_slenA hu ds_len_4 ?_
  refine r_aload_n (v := .float u) ds_len_5 rfl rfl rfl ?_
  refine r_callVx (as := []) (st := [.int (Int32.ofNat (sjLen.getD u.toNat 0))]) hu ds_len_6 sl_cod ys_cod_c ys_cod_i ys_cod_n ys_cod_v rfl (by decide) (Nat.le_of_ble_eq_true rfl) (by decide) (c_cod hu h) ?_
  refine r_ishr ds_len_9 ?_
  rw [show iShr (Int32.ofNat (sjLen.getD u.toNat 0)) 0 = Int32.ofNat (sjLen.getD u.toNat 0) from sc_shr0 (n := sjLen.getD u.toNat 0) (by omega)]
  exact r_iret ds_len_10 rfl
theorem c_chr {u : UInt32} {a x : Int32} (hx : sChr u a = some x) (h : mH) : MM ys_chr 3 [.float u, .int a] h (some (.int x)) h := by
  unfold sChr at hx
  split at hx
  · rename_i hq
    obtain ⟨hu, hin⟩ := hq
    cases hx
    have hlt : a.toNatClampNeg < sjLen.getD u.toNat 0 := Nat.not_le.mp fun q => hin (Or.inr q)
    obtain ⟨l1, l2⟩ := sj_len u.toNat hu
    have hb : (sjByt.getD u.toNat []).getD a.toNatClampNeg 0 ∈ sjByt.getD u.toNat [] := by
      have hl2 : a.toNatClampNeg < (sjByt.getD u.toNat []).length := by omega
      have e : (sjByt.getD u.toNat []).getD a.toNatClampNeg 0 = (sjByt.getD u.toNat [])[a.toNatClampNeg] := gd_el hl2
      rw [e]
      exact List.getElem_mem _
    obtain ⟨b1, b2, b3⟩ := sb_small u.toNat hu _ hb
    refine MM.of ys_chr_p (Nat.le_of_ble_eq_true rfl) (fun X => ?_)
    refine r_aload_n (v := .float u) ds_chr_0 rfl rfl rfl ?_
    refine r_callVx (as := []) (st := []) hu ds_chr_1 sl_lat ys_lat_c ys_lat_i ys_lat_n ys_lat_v rfl (by decide) (by decide) (by decide) (c_lat hu h) ?_
    refine r_if_eq (t := 16) ds_chr_4 (by decide) (fun q => absurd q (by decide)) (fun _ => ?_)
    refine r_aload_n (v := .float u) ds_chr_7 rfl rfl rfl ?_
    refine r_sval hu rfl ds_chr_8 ?_
    refine r_iload_n (x := a) ds_chr_11 rfl rfl ?_
    refine r_callSx (as := [.retAddr (u.toNat + 2), .int a]) (st := []) ds_chr_12 sl_lch ys_lch_c ys_lch_i ys_lch_n ys_lch_v rfl (by decide) (by decide) (by decide) (c_lch hu hin h) ?_
    exact r_nret ds_chr_15 rfl b3
  · cases hx
end
section
/-! THE EVALUATOR: what a piece of bytecode does, as a term; an instruction: itself, its length, numbers that it goes with (a local's place, a target, a link's place ..), whole numbers -/
abbrev mI : Type := Instr × Nat × List Nat × List Int
section
variable {ρ : Type}
def x1 (ex : List Nat) (k : Nat → Option ρ) : Option ρ := match ex with
  | [a] => k a
  | _ => none
def x2 (ex : List Nat) (k : Nat → Nat → Option ρ) : Option ρ := match ex with
  | [a, b] => k a b
  | _ => none
def x3 (ex : List Nat) (k : Nat → Nat → Nat → Option ρ) : Option ρ := match ex with
  | [a, b, c] => k a b c
  | _ => none
def x4 (ex : List Nat) (k : Nat → Nat → Nat → Nat → Option ρ) : Option ρ := match ex with
  | [a, b, c, d] => k a b c d
  | _ => none
def z1 (cs : List Int) (k : Int → Option ρ) : Option ρ := match cs with
  | [a] => k a
  | _ => none
def lgi (j : Nat) (ls : mL) (k : Int32 → Option ρ) : Option ρ := match lg j ls with
  | some (.int x) => k x
  | _ => none
def lgl_ (j : Nat) (ls : mL) (k : Int64 → Option ρ) : Option ρ := match lg j ls with
  | some (.long x) => k x
  | _ => none
def lga (j : Nat) (ls : mL) (k : Value → Option ρ) : Option ρ := match lg j ls with
  | some v => bif rfV v then k v else none
  | _ => none
def prf (st : List Value) (k : Value → List Value → Option ρ) : Option ρ := match st with
  | v :: r => bif rfV v then k v r else none
  | _ => none
def prl (st : List Value) (k : Nat → Int64 → List Value → Option ρ) : Option ρ := match st with
  | .long x :: .ref a :: r => k a x r
  | _ => none
def prr (st : List Value) (k : Nat → Nat → List Value → Option ρ) : Option ρ := match st with
  | .ref x :: .ref a :: r => k a x r
  | _ => none
def pxi (st : List Value) (k : Int32 → List Value → Option ρ) : Option ρ := match st with
  | .int i :: .retAddr 0 :: r => k i r
  | _ => none
def px (st : List Value) (k : List Value → Option ρ) : Option ρ := match st with
  | .retAddr 0 :: r => k r
  | _ => none
def psu (st : List Value) (k : UInt32 → List Value → Option ρ) : Option ρ := match st with
  | .float u :: r => k u r
  | _ => none
def psui (st : List Value) (k : UInt32 → Int32 → List Value → Option ρ) : Option ρ := match st with
  | .int x :: .float u :: r => k u x r
  | _ => none
def rmc (st : List Value) (e : Option ρ) : Option ρ := bif Nat.ble ((st.map fun v => v.category).sum) 8 then e else none
def spl (n : Nat) (st : List Value) (k : List Value → List Value → Option ρ) : Option ρ := bif Nat.ble n st.length then k (st.take n).reverse (st.drop n) else none
def xld (X : Nat × (Nat → Int32)) (i : Int32) : Option Int32 := if ¬ (i < 0 ∨ X.1 ≤ i.toNatClampNeg) then some (X.2 i.toNatClampNeg) else none
def sLn (u : UInt32) : Option Int32 := if u.toNat < 18 then some (sLen u) else none
def sx (X : Nat × (Nat → Int32)) (i : Instr) (ex : List Nat) (cs : List Int) (ls : mL) (st : List Value) (h : mH) (k : mL → List Value → mH → Option ρ) : Option ρ := match i with
  | .iconst _ => z1 cs fun c => k ls (.int (jI c) :: st) h
  | .bipush _ => z1 cs fun c => k ls (.int (jI c) :: st) h
  | .sipush _ => z1 cs fun c => k ls (.int (jI c) :: st) h
  | .lconst _ => z1 cs fun c => k ls (.long (jL c) :: st) h
  | .ldc _ => x2 ex fun t j => match t with
    | 0 => z1 cs fun c => k ls (.int (jI c) :: st) h
    | _ => k ls (.float (UInt32.ofNat j) :: st) h
  | .ldc_w _ => z1 cs fun c => k ls (.int (jI c) :: st) h
  | .ldc2_w _ => z1 cs fun c => k ls (.long (jL c) :: st) h
  | .iload _ => x1 ex fun j => lgi j ls fun x => k ls (.int x :: st) h
  | .iload_n _ => x1 ex fun j => lgi j ls fun x => k ls (.int x :: st) h
  | .lload _ => x1 ex fun j => lgl_ j ls fun x => k ls (.long x :: st) h
  | .lload_n _ => x1 ex fun j => lgl_ j ls fun x => k ls (.long x :: st) h
  | .aload _ => x1 ex fun j => lga j ls fun v => k ls (v :: st) h
  | .aload_n _ => x1 ex fun j => lga j ls fun v => k ls (v :: st) h
  | .istore _ => x1 ex fun j => pp1 st fun x r => k ((j, .int x) :: lF1 j ls) r h
  | .istore_n _ => x1 ex fun j => pp1 st fun x r => k ((j, .int x) :: lF1 j ls) r h
  | .lstore _ => x1 ex fun j => pl1 st fun x r => k ((j, .long x) :: lF2 j ls) r h
  | .lstore_n _ => x1 ex fun j => pl1 st fun x r => k ((j, .long x) :: lF2 j ls) r h
  | .astore _ => x1 ex fun j => prf st fun v r => k ((j, v) :: lF1 j ls) r h
  | .astore_n _ => x1 ex fun j => prf st fun v r => k ((j, v) :: lF1 j ls) r h
  | .iinc _ _ => x1 ex fun j => z1 cs fun c => lgi j ls fun x => k ((j, .int (x + jI c)) :: lF1 j ls) st h
  | .iadd => pp2 st fun a b r => k ls (.int (a + b) :: r) h
  | .isub => pp2 st fun a b r => k ls (.int (a - b) :: r) h
  | .imul => pp2 st fun a b r => k ls (.int (a * b) :: r) h
  | .iand => pp2 st fun a b r => k ls (.int (a &&& b) :: r) h
  | .ior => pp2 st fun a b r => k ls (.int (a ||| b) :: r) h
  | .ixor => pp2 st fun a b r => k ls (.int (a ^^^ b) :: r) h
  | .ishl => pp2 st fun a b r => k ls (.int (iShl a b) :: r) h
  | .ishr => pp2 st fun a b r => k ls (.int (iShr a b) :: r) h
  | .iushr => pp2 st fun a b r => k ls (.int (iUsr a b) :: r) h
  | .idiv => pp2 st fun a b r => if b = 0 then none else k ls (.int (a / b) :: r) h
  | .irem => pp2 st fun a b r => if b = 0 then none else k ls (.int (iRem a b) :: r) h
  | .ineg => pp1 st fun a r => k ls (.int (-a) :: r) h
  | .ladd => pl2 st fun a b r => k ls (.long (a + b) :: r) h
  | .lsub => pl2 st fun a b r => k ls (.long (a - b) :: r) h
  | .lmul => pl2 st fun a b r => k ls (.long (a * b) :: r) h
  | .land => pl2 st fun a b r => k ls (.long (a &&& b) :: r) h
  | .lor => pl2 st fun a b r => k ls (.long (a ||| b) :: r) h
  | .lshl => pli st fun a b r => k ls (.long (lShl a b) :: r) h
  | .lshr => pli st fun a b r => k ls (.long (lShr a b) :: r) h
  | .lushr => pli st fun a b r => k ls (.long (lUsr a b) :: r) h
  | .i2l => pp1 st fun a r => k ls (.long a.toInt64 :: r) h
  | .l2i => pl1 st fun a r => k ls (.int a.toInt32 :: r) h
  | .i2b => pp1 st fun a r => k ls (.int (iByt a) :: r) h
  | .i2s => pp1 st fun a r => k ls (.int (iSho a) :: r) h
  | .dup => pv1 st fun v r => k ls (v :: v :: r) h
  | .pop => pv1 st fun _ r => k ls r h
  | .dup2 => pv2 st fun v u r => k ls (v :: u :: v :: u :: r) h
  | .pop2 => pl1 st fun _ r => k ls r h
  | .getfield _ => x4 ex fun ci kf kd _ => pr1 st fun a r => match kd with
    | 0 => (gI h ci a kf).bind fun x => k ls (.int x :: r) h
    | 1 => (gL h ci a kf).bind fun x => k ls (.long x :: r) h
    | _ => (gR h ci a kf).bind fun x => k ls (.ref x :: r) h
  | .putfield _ => x4 ex fun ci kf kd _ => match kd with
    | 0 => pri st fun a x r => (pV h ci a kf (.int x)).bind fun h1 => k ls r h1
    | 1 => prl st fun a x r => (pV h ci a kf (.long x)).bind fun h1 => k ls r h1
    | 2 => prr st fun a x r => (pV h ci a kf (.ref x)).bind fun h1 => k ls r h1
    | _ => pri st fun a x r => if x &&& 1 = x then (pV h ci a kf (.int x)).bind fun h1 => k ls r h1 else none
  | .arraylength => x1 ex fun t => match t with
    | 0 => pr1 st fun a r => (lnA h a).bind fun x => k ls (.int x :: r) h
    | _ => px st fun r => k ls (.int (Int32.ofNat X.1) :: r) h
  | .iaload => x1 ex fun t => match t with
    | 0 => pri st fun a i r => (ldI 0 h a i).bind fun x => k ls (.int x :: r) h
    | _ => pxi st fun i r => (xld X i).bind fun x => k ls (.int x :: r) h
  | .baload => x1 ex fun t => pri st fun a i r => (ldI t h a i).bind fun x => k ls (.int x :: r) h
  | .laload => pri st fun a i r => (ldL h a i).bind fun x => k ls (.long x :: r) h
  | .aaload => x1 ex fun t => pri st fun a i r => (ldR t h a i).bind fun x => k ls (.ref x :: r) h
  | .iastore => prii st fun a i x r => (stI 0 h a i x).bind fun h1 => k ls r h1
  | .bastore => x1 ex fun t => prii st fun a i x r => (stI t h a i x).bind fun h1 => k ls r h1
  | .lastore => pril st fun a i x r => (stL h a i x).bind fun h1 => k ls r h1
  | .aastore => x2 ex fun t ci => prir st fun a i x r => (stR t ci h a i x).bind fun h1 => k ls r h1
  | .new _ => x2 ex fun ci _ => k ls (.ref h.1 :: st) (nwO h ci)
  | .newarray _ => x1 ex fun t => pp1 st fun n r => (nwA h t n).bind fun h1 => k ls (.ref h.1 :: r) h1
  | .anewarray _ => x3 ex fun t _ _ => pp1 st fun n r => (nwA h t n).bind fun h1 => k ls (.ref h.1 :: r) h1
  | _ => none
/-- calls: 0 virtual, 1 static, 2 a constructor, 3 and 4 those of a nest mate; 5 and on the JDK's own -/
def iv (Cl : Nat → List Value → mH → (Option Value → mH → Option ρ) → Option ρ) (ex : List Nat) (st : List Value) (h : mH) (k : List Value → mH → Option ρ) : Option ρ := match ex with
  | kd :: j :: n :: ci :: _ => match kd with
    | 0 => spl n st fun as r0 => pr1 r0 fun a r => rmc r ((rcv h ci a).bind fun _ => Cl j (.ref a :: as) h fun v h1 => k (vl v r) h1)
    | 1 => spl n st fun as r => rmc r (Cl j as h fun v h1 => k (vl v r) h1)
    | 2 => spl n st fun as r0 => pr1 r0 fun a r => rmc r (Cl j (.ref a :: as) h fun v h1 => match v with
      | none => k r h1
      | some _ => none)
    | 3 => spl n st fun as r => rmc r (Cl j as h fun v h1 => k (vl v r) h1)
    | 4 => spl n st fun as r0 => pr1 r0 fun a r => rmc r (Cl j (.ref a :: as) h fun v h1 => match v with
      | none => k r h1
      | some _ => none)
    | 5 => pr1 st fun _ r => rmc r (k r h)
    | 6 => pp2 st fun a b r => rmc r (k (.int (iMax a b) :: r) h)
    | 7 => pp2 st fun a b r => rmc r (k (.int (iMin a b) :: r) h)
    | 8 => pp1 st fun a r => rmc r (k (.int (iAbs a) :: r) h)
    | 9 => pl2 st fun a b r => rmc r (k (.long (lMin a b) :: r) h)
    | 10 => pcpy st fun a0 sp a dp n r => rmc r ((cpI h a0 sp a dp n).bind fun h1 => k r h1)
    | 11 => psu st fun u r => rmc r ((sLn u).bind fun x => k (.int x :: r) h)
    | 12 => psui st fun u i r => rmc r ((sChr u i).bind fun x => k (.int x :: r) h)
    | _ => none
  | _ => none
def bk (pc : Nat) : List (Nat × List mI) → Option (List mI)
  | [] => none
  | (p, is) :: r => bif Nat.beq p pc then some is else bk pc r
def sws (x : Int32) : List Int → List Nat → Nat → (Nat → Option ρ) → Option ρ
  | c :: cs, t :: ts, d, k => if x = jI c then k t else sws x cs ts d k
  | _, _, d, k => k d
def cmi (cd : ClassFile.Cond) (a b : Int32) (t f : Option ρ) : Option ρ := match cd with
  | .eq => if a = b then t else f
  | .ne => if a = b then f else t
  | .lt => if a < b then t else f
  | .ge => if a < b then f else t
  | .gt => if b < a then t else f
  | .le => if b < a then f else t
def cml (cd : ClassFile.Cond) (a b : Int64) (t f : Option ρ) : Option ρ := match cd with
  | .eq => if a = b then t else f
  | .ne => if a = b then f else t
  | .lt => if a < b then t else f
  | .ge => if a < b then f else t
  | .gt => if b < a then t else f
  | .le => if b < a then f else t
def ev (X : Nat × (Nat → Int32)) (Cl : Nat → List Value → mH → (Option Value → mH → Option ρ) → Option ρ) (Rc : Option Value → mH → Option ρ) (K : Nat → mL → List Value → mH → Option ρ) (B : List (Nat × List mI)) : Nat → Nat → List mI → mL → List Value → mH → Option ρ
  | 0, _, _, _, _, _ => none
  | n + 1, pc, [], ls, st, h => match bk pc B with
    | some is => ev X Cl Rc K B n pc is ls st h
    | none => K pc ls st h
  | n + 1, pc, (i, len, ex, cs) :: is, ls, st, h => match i with
    | .goto _ => x1 ex fun t => ev X Cl Rc K B n t [] ls st h
    | .if_icmp cd _ => x1 ex fun t => pp2 st fun a b r => cmi cd a b (ev X Cl Rc K B n t [] ls r h) (ev X Cl Rc K B n (pc + 3) is ls r h)
    | .ifCond cd _ => x1 ex fun t => pp1 st fun a r => cmi cd a 0 (ev X Cl Rc K B n t [] ls r h) (ev X Cl Rc K B n (pc + 3) is ls r h)
    | .lcmp => match is with
      | (.ifCond cd _, _, ex2, _) :: is2 => x1 ex2 fun t => pl2 st fun a b r => cml cd a b (ev X Cl Rc K B n t [] ls r h) (ev X Cl Rc K B n (pc + 4) is2 ls r h)
      | _ => none
    | .tableswitch _ _ _ _ => match ex with
      | d :: ts => pp1 st fun x r => sws x cs ts d fun t => ev X Cl Rc K B n t [] ls r h
      | _ => none
    | .lookupswitch _ _ => match ex with
      | d :: ts => pp1 st fun x r => sws x cs ts d fun t => ev X Cl Rc K B n t [] ls r h
      | _ => none
    | .ireturn => match st with
      | [.int x] => Rc (some (.int x)) h
      | _ => none
    | .lreturn => match st with
      | [.long x] => Rc (some (.long x)) h
      | _ => none
    | .return_ => match st with
      | [] => Rc none h
      | _ => none
    | .invokevirtual _ => iv Cl ex st h fun st1 h1 => ev X Cl Rc K B n (pc + 3) is ls st1 h1
    | .invokestatic _ => iv Cl ex st h fun st1 h1 => ev X Cl Rc K B n (pc + 3) is ls st1 h1
    | .invokespecial _ => iv Cl ex st h fun st1 h1 => ev X Cl Rc K B n (pc + 3) is ls st1 h1
    | _ => sx X i ex cs ls st h fun ls1 st1 h1 => ev X Cl Rc K B n (pc + len) is ls1 st1 h1
end
end
section
/-! what is checked of an instruction (by the kernel), and that the evaluator says what the machine does -/
def isRf : FieldType → Bool
  | .object _ => true
  | .array _ => true
  | _ => false
def ckF (o idx ci kf pl : Nat) : Bool := decide (FL[pl]? = some (o, idx, ci, kf)) && Nat.blt kf (clN ci).2.2 && Nat.blt ci 13
def ckT (pc : Nat) : Int → List Int → List Nat → List Int → Bool
  | _, [], [], [] => true
  | lo, c :: cs, t :: ts, f :: fs => decide (c = lo) && decide ((pc : Int) + f = (t : Int)) && ckT pc (lo + 1) cs ts fs
  | _, _, _, _ => false
def ckL (pc : Nat) : List (Int × Int) → List Int → List Nat → Bool
  | [], [], [] => true
  | p :: ps, c :: cs, t :: ts => decide (c = p.1) && decide (-2147483648 ≤ c ∧ c < 2147483648) && decide ((pc : Int) + p.2 = (t : Int)) && ckL pc ps cs ts
  | _, _, _ => false
def ckC (o idx : Nat) (ex : List Nat) : Bool := match ex with
  | kd :: j :: n :: ci :: pl :: [] => match kd with
    | 0 => decide (ML[pl]? = some (o, idx, j)) && decide ((MT[j]?).map (fun q => (q.2, q.1.2.2.1.ble 45)) = some ((0, ci, n), true)) && Nat.blt ci 13
    | 1 => decide (ML[pl]? = some (o, idx, j)) && decide ((MT[j]?).map (fun q => ((q.2.1, q.2.2.2), q.1.2.2.1.ble 45)) = some ((1, n), true))
    | 2 => decide (ML[pl]? = some (o, idx, j)) && decide ((MT[j]?).map (fun q => ((q.2.1, q.2.2.2), q.1.2.2.1.ble 45 && decide (q.1.2.2.2 = none))) = some ((2, n), true))
    | 3 => decide (NL[pl]? = some (o, idx, j)) && decide ((MT[j]?).map (fun q => ((q.2.1, q.2.2.2), q.1.2.2.1.ble 45)) = some ((1, n), true))
    | 4 => decide (NL[pl]? = some (o, idx, j)) && decide ((MT[j]?).map (fun q => ((q.2.1, q.2.2.2), q.1.2.2.1.ble 45 && decide (q.1.2.2.2 = none))) = some ((2, n), true))
    | _ => decide (PL[pl]? = some (o, idx, kd)) && Nat.blt kd 13
  | _ => false
def ckI (o nL : Nat) (ini : Bool) (pc : Nat) (i : Instr) (len : Nat) (ex : List Nat) (cs : List Int) : Bool := match i with
  | .iconst c => Nat.beq len 1 && decide (cs = [c])
  | .bipush c => Nat.beq len 2 && decide (cs = [c]) && decide ((Int8.ofInt c).toInt32 = jI c)
  | .sipush c => Nat.beq len 3 && decide (cs = [c]) && decide ((Int16.ofInt c).toInt32 = jI c)
  | .lconst n => Nat.beq len 1 && (match cs with
    | [c] => decide (Int64.ofNat n.val = jL c)
    | _ => false)
  | .ldc idx => Nat.beq len 2 && (match ex with
    | [t, j] => (match t with
      | 0 => (match cs with
        | [c] => decide (CI[j]? = some (o, idx, c))
        | _ => false)
      | _ => decide ((sjAll[j]?).map (fun q => (q.1, q.2.1)) = some (oN o, idx)) && Nat.blt j 18)
    | _ => false)
  | .ldc_w idx => Nat.beq len 3 && (match ex, cs with
    | [j], [c] => decide (CI[j]? = some (o, idx, c))
    | _, _ => false)
  | .ldc2_w idx => Nat.beq len 3 && (match ex, cs with
    | [j], [c] => decide (CJ[j]? = some (o, idx, c))
    | _, _ => false)
  | .iload j => Nat.beq len 2 && decide (ex = [j])
  | .iload_n n => Nat.beq len 1 && decide (ex = [n.val])
  | .lload j => Nat.beq len 2 && decide (ex = [j])
  | .lload_n n => Nat.beq len 1 && decide (ex = [n.val])
  | .aload j => Nat.beq len 2 && decide (ex = [j])
  | .aload_n n => Nat.beq len 1 && decide (ex = [n.val])
  | .istore j => Nat.beq len 2 && decide (ex = [j]) && Nat.blt j nL
  | .istore_n n => Nat.beq len 1 && decide (ex = [n.val]) && Nat.blt n.val nL
  | .lstore j => Nat.beq len 2 && decide (ex = [j]) && Nat.blt (j + 1) nL
  | .lstore_n n => Nat.beq len 1 && decide (ex = [n.val]) && Nat.blt (n.val + 1) nL
  | .astore j => Nat.beq len 2 && decide (ex = [j]) && Nat.blt j nL
  | .astore_n n => Nat.beq len 1 && decide (ex = [n.val]) && Nat.blt n.val nL
  | .iinc j c => Nat.beq len 3 && decide (ex = [j]) && decide (cs = [c]) && Nat.blt j nL
  | .getfield idx => Nat.beq len 3 && (match ex with
    | [ci, kf, _, pl] => ckF o idx ci kf pl
    | _ => false)
  | .putfield idx => Nat.beq len 3 && (match ex with
    | [ci, kf, kd, pl] => ckF o idx ci kf pl && (!((clN ci).2.1 kf).2.2.2 || (ini && decide ((clN ci).1 = oN o))) && (match kd with
      | 0 => decide (cty ci kf = .int)
      | 1 => decide (cty ci kf = .long)
      | 2 => isRf (cty ci kf)
      | _ => decide (cty ci kf = .boolean))
    | _ => false)
  | .baload => Nat.beq len 1 && decide (ex = [2] ∨ ex = [3])
  | .bastore => Nat.beq len 1 && decide (ex = [2] ∨ ex = [3])
  | .aaload => Nat.beq len 1 && decide (ex = [4] ∨ ex = [5])
  | .aastore => Nat.beq len 1 && decide (ex = [4, 5] ∨ ex = [5, 4])
  | .new idx => Nat.beq len 3 && (match ex with
    | [ci, pl] => decide (KL[pl]? = some (o, idx, ci)) && Nat.blt ci 13
    | _ => false)
  | .newarray a => Nat.beq len 2 && (match ex with
    | [t] => decide ((t = 0 ∧ a = .int) ∨ (t = 1 ∧ a = .long) ∨ (t = 2 ∧ a = .byte) ∨ (t = 3 ∧ a = .boolean))
    | _ => false)
  | .anewarray idx => Nat.beq len 3 && (match ex with
    | [t, ci, pl] => decide (KL[pl]? = some (o, idx, ci)) && decide ((t = 4 ∧ ci = 5) ∨ (t = 5 ∧ ci = 4))
    | _ => false)
  | .goto off => Nat.beq len 3 && (match ex with
    | [t] => decide ((pc : Int) + off = (t : Int))
    | _ => false)
  | .if_icmp _ off => Nat.beq len 3 && (match ex with
    | [t] => decide ((pc : Int) + off = (t : Int))
    | _ => false)
  | .ifCond _ off => Nat.beq len 3 && (match ex with
    | [t] => decide ((pc : Int) + off = (t : Int))
    | _ => false)
  | .tableswitch d lo hi offs => (match ex with
    | e :: ts => decide ((pc : Int) + d = (e : Int)) && ckT pc lo cs ts offs.toList && decide (-2147483648 ≤ lo ∧ hi < 2147483648 ∧ lo ≤ hi + 1 ∧ (offs.toList.length : Int) = hi - lo + 1)
    | _ => false)
  | .lookupswitch d ps => (match ex with
    | e :: ts => decide ((pc : Int) + d = (e : Int)) && ckL pc ps.toList cs ts && (ps.toList.zip (ps.toList.drop 1)).all (fun (a, next) => a.1 < next.1)
    | _ => false)
  | .invokevirtual idx => Nat.beq len 3 && ckC o idx ex && decide (ex.headD 9 = 0 ∨ ex.headD 9 = 11 ∨ ex.headD 9 = 12)
  | .invokestatic idx => Nat.beq len 3 && ckC o idx ex && decide (ex.headD 9 = 1 ∨ ex.headD 9 = 3 ∨ (6 ≤ ex.headD 0 ∧ ex.headD 99 ≤ 10))
  | .invokespecial idx => Nat.beq len 3 && ckC o idx ex && decide (ex.headD 9 = 2 ∨ ex.headD 9 = 4 ∨ ex.headD 9 = 5)
  | _ => Nat.beq len 1
def lst (cc : ByteArray) (o nL : Nat) (ini : Bool) : Nat → List mI → Bool
  | _, [] => true
  | pc, (i, len, ex, cs) :: is => decide (decode cc pc = .ok (i, len)) && ckI o nL ini pc i len ex cs && lst cc o nL ini (pc + len) is

section
variable {ρ : Type}
theorem x1_s {ex : List Nat} {k : Nat → Option ρ} {q : ρ} (h : x1 ex k = some q) : ∃ a, ex = [a] ∧ k a = some q := by
  unfold x1 at h; split at h
  · exact ⟨_, rfl, h⟩
  · cases h
theorem x2_s {ex : List Nat} {k : Nat → Nat → Option ρ} {q : ρ} (h : x2 ex k = some q) : ∃ a b, ex = [a, b] ∧ k a b = some q := by
  unfold x2 at h; split at h
  · exact ⟨_, _, rfl, h⟩
  · cases h
theorem x3_s {ex : List Nat} {k : Nat → Nat → Nat → Option ρ} {q : ρ} (h : x3 ex k = some q) : ∃ a b c, ex = [a, b, c] ∧ k a b c = some q := by
  unfold x3 at h; split at h
  · exact ⟨_, _, _, rfl, h⟩
  · cases h
theorem x4_s {ex : List Nat} {k : Nat → Nat → Nat → Nat → Option ρ} {q : ρ} (h : x4 ex k = some q) : ∃ a b c d, ex = [a, b, c, d] ∧ k a b c d = some q := by
  unfold x4 at h; split at h
  · exact ⟨_, _, _, _, rfl, h⟩
  · cases h
theorem z1_s {cs : List Int} {k : Int → Option ρ} {q : ρ} (h : z1 cs k = some q) : ∃ a, cs = [a] ∧ k a = some q := by
  unfold z1 at h; split at h
  · exact ⟨_, rfl, h⟩
  · cases h
theorem lgi_s {j : Nat} {ls : mL} {k : Int32 → Option ρ} {q : ρ} (h : lgi j ls k = some q) : ∃ x, lg j ls = some (.int x) ∧ k x = some q := by
  unfold lgi at h; split at h
  · rename_i x hx; exact ⟨x, hx, h⟩
  · cases h
theorem lgl_s {j : Nat} {ls : mL} {k : Int64 → Option ρ} {q : ρ} (h : lgl_ j ls k = some q) : ∃ x, lg j ls = some (.long x) ∧ k x = some q := by
  unfold lgl_ at h; split at h
  · rename_i x hx; exact ⟨x, hx, h⟩
  · cases h
theorem lga_s {j : Nat} {ls : mL} {k : Value → Option ρ} {q : ρ} (h : lga j ls k = some q) : ∃ v, lg j ls = some v ∧ rfV v = true ∧ k v = some q := by
  unfold lga at h; split at h
  · rename_i v hv
    cases hb : rfV v
    · rw [hb] at h; cases h
    · rw [hb] at h; exact ⟨v, hv, hb, h⟩
  · cases h
theorem prf_s {st : List Value} {k : Value → List Value → Option ρ} {q : ρ} (h : prf st k = some q) : ∃ v r, st = v :: r ∧ rfV v = true ∧ k v r = some q := by
  unfold prf at h; split at h
  · rename_i v r
    cases hb : rfV v
    · rw [hb] at h; cases h
    · rw [hb] at h; exact ⟨v, r, rfl, hb, h⟩
  · cases h
theorem prl_s {st : List Value} {k : Nat → Int64 → List Value → Option ρ} {q : ρ} (h : prl st k = some q) : ∃ a x r, st = .long x :: .ref a :: r ∧ k a x r = some q := by
  unfold prl at h; split at h
  · exact ⟨_, _, _, rfl, h⟩
  · cases h
theorem prr_s {st : List Value} {k : Nat → Nat → List Value → Option ρ} {q : ρ} (h : prr st k = some q) : ∃ a x r, st = .ref x :: .ref a :: r ∧ k a x r = some q := by
  unfold prr at h; split at h
  · exact ⟨_, _, _, rfl, h⟩
  · cases h
theorem pxi_s {st : List Value} {k : Int32 → List Value → Option ρ} {q : ρ} (h : pxi st k = some q) : ∃ i r, st = .int i :: .retAddr 0 :: r ∧ k i r = some q := by
  unfold pxi at h; split at h
  · exact ⟨_, _, rfl, h⟩
  · cases h
theorem px_s {st : List Value} {k : List Value → Option ρ} {q : ρ} (h : px st k = some q) : ∃ r, st = .retAddr 0 :: r ∧ k r = some q := by
  unfold px at h; split at h
  · exact ⟨_, rfl, h⟩
  · cases h
theorem psu_s {st : List Value} {k : UInt32 → List Value → Option ρ} {q : ρ} (h : psu st k = some q) : ∃ u r, st = .float u :: r ∧ k u r = some q := by
  unfold psu at h; split at h
  · exact ⟨_, _, rfl, h⟩
  · cases h
theorem psui_s {st : List Value} {k : UInt32 → Int32 → List Value → Option ρ} {q : ρ} (h : psui st k = some q) : ∃ u x r, st = .int x :: .float u :: r ∧ k u x r = some q := by
  unfold psui at h; split at h
  · exact ⟨_, _, _, rfl, h⟩
  · cases h
theorem rmc_s {st : List Value} {e : Option ρ} {q : ρ} (h : rmc st e = some q) : (st.map fun v => v.category).sum ≤ 8 ∧ e = some q := by
  unfold rmc at h
  cases hb : Nat.ble ((st.map fun v => v.category).sum) 8
  · rw [hb] at h; cases h
  · rw [hb] at h; exact ⟨Nat.le_of_ble_eq_true hb, h⟩
theorem spl_s {n : Nat} {st : List Value} {k : List Value → List Value → Option ρ} {q : ρ} (h : spl n st k = some q) : ∃ as r, st = as.reverse ++ r ∧ as.length = n ∧ k as r = some q := by
  unfold spl at h
  cases hb : Nat.ble n st.length
  · rw [hb] at h; cases h
  · rw [hb] at h
    have hn := Nat.le_of_ble_eq_true hb
    exact ⟨(st.take n).reverse, st.drop n, by rw [List.reverse_reverse, List.take_append_drop], by rw [List.length_reverse, List.length_take]; omega, h⟩
theorem xld_s {X : Nat × (Nat → Int32)} {i x : Int32} (h : xld X i = some x) : ¬ (i < 0 ∨ X.1 ≤ i.toNatClampNeg) ∧ X.2 i.toNatClampNeg = x := by
  unfold xld at h
  split at h
  · rename_i hq; exact ⟨hq, Option.some.inj h⟩
  · cases h
theorem sLn_s {u : UInt32} {x : Int32} (h : sLn u = some x) : u.toNat < 18 ∧ sLen u = x := by
  unfold sLn at h
  split at h
  · rename_i hq; exact ⟨hq, Option.some.inj h⟩
  · cases h
end
theorem gI_s {h : mH} {ci a k : Nat} {x : Int32} (e : gI h ci a k = some x) : gV h ci a k = some (.int x) := by
  unfold gI at e; split at e
  · rename_i y hy; cases e; exact hy
  · cases e
theorem gL_s {h : mH} {ci a k : Nat} {x : Int64} (e : gL h ci a k = some x) : gV h ci a k = some (.long x) := by
  unfold gL at e; split at e
  · rename_i y hy; cases e; exact hy
  · cases e
theorem gR_s {h : mH} {ci a k : Nat} {x : Nat} (e : gR h ci a k = some x) : gV h ci a k = some (.ref x) := by
  unfold gR at e; split at e
  · rename_i y hy; cases e; exact hy
  · cases e
theorem blt_s {a b : Nat} (h : Nat.blt a b = true) : a < b := Nat.lt_of_succ_le (by simpa [Nat.blt] using h)
theorem cls_at {ci : Nat} (h : Nat.blt ci 13 = true) : classes[ci]? = some (clN ci) := by
  have hl : ci < classes.length := blt_s h
  unfold clN
  rw [List.getD_eq_getElem?_getD, List.getElem?_eq_getElem hl]
  rfl
theorem ckF_s {o idx ci kf pl : Nat} (h : ckF o idx ci kf pl = true) : (o, idx, ci, kf) ∈ FL ∧ classes[ci]? = some (clN ci) ∧ kf < (clN ci).2.2 := by
  unfold ckF at h
  simp only [Bool.and_eq_true, decide_eq_true_eq] at h
  exact ⟨List.mem_of_getElem? h.1.1, cls_at h.2, blt_s h.1.2⟩
theorem cA_int : Cond.arrayClass .int ∈ WT := WT_of (List.mem_of_getElem? (i := 203) (by decide +kernel)) rfl
theorem cA_byte : Cond.arrayClass .byte ∈ WT := WT_of (List.mem_of_getElem? (i := 202) (by decide +kernel)) rfl
theorem cA_long : Cond.arrayClass .long ∈ WT := WT_of (List.mem_of_getElem? (i := 362) (by decide +kernel)) rfl
theorem cA_bool : Cond.arrayClass .boolean ∈ WT := WT_of (List.mem_of_getElem? (i := 1675) (by decide +kernel)) rfl
theorem z_bool {x : Int32} (h : x &&& 1 = x) : x = 0 ∨ x = 1 := by
  have h1 : x.toBitVec &&& 1#32 = x.toBitVec := congrArg Int32.toBitVec h
  have h2 : x.toBitVec = 0#32 ∨ x.toBitVec = 1#32 := by
    have h3 : (x.toBitVec &&& 1#32).toNat = x.toBitVec.toNat := congrArg BitVec.toNat h1
    rw [BitVec.toNat_and] at h3
    have h4 : x.toBitVec.toNat &&& 1 = x.toBitVec.toNat % 2 := Nat.and_one_is_mod _
    have h5 : (1#32).toNat = 1 := rfl
    rw [h5, h4] at h3
    have h6 : x.toBitVec.toNat = 0 ∨ x.toBitVec.toNat = 1 := by omega
    rcases h6 with h6 | h6
    · exact Or.inl (BitVec.eq_of_toNat_eq h6)
    · exact Or.inr (BitVec.eq_of_toNat_eq h6)
  rcases h2 with h2 | h2
  · exact Or.inl (Int32.toBitVec_inj.mp h2)
  · exact Or.inr (Int32.toBitVec_inj.mp h2)

set_option maxHeartbeats 4000000 in
theorem sx_ok {ρ : Type} {X : Nat × (Nat → Int32)} {y : mM} {d o pc : Nat} {ini : Bool} {ls : mL} {st : List Value} {h : mH} {r : Option Value} {h' : mH} {q : ρ} {i : Instr} {len : Nat} {ex : List Nat} {cs : List Int} {k : mL → List Value → mH → Option ρ}
    (ho : oN o = y.1.cls) (hini : ini = true → y.1.name = "<init>") (hd : dcd y pc i len) (hc : ckI o y.2.2.1 ini pc i len ex cs = true) (hs : sx X i ex cs ls st h k = some q) (hk : ∀ ls1 st1 h1, k ls1 st1 h1 = some q → MW X y d (pc + len) ls1 st1 h1 r h') : MW X y d pc ls st h r h' := by
  cases i with
  | iconst c =>
    simp only [ckI, Bool.and_eq_true, decide_eq_true_eq] at hc
    obtain ⟨hl, hc⟩ := hc
    obtain rfl : len = 1 := Nat.eq_of_beq_eq_true hl
    subst hc
    exact r_iconst hd (hk _ _ _ hs)
  | bipush c =>
    simp only [ckI, Bool.and_eq_true, decide_eq_true_eq] at hc
    obtain ⟨⟨hl, rfl⟩, hc⟩ := hc
    obtain rfl : len = 2 := Nat.eq_of_beq_eq_true hl
    exact r_bipush hd hc (hk _ _ _ hs)
  | sipush c =>
    simp only [ckI, Bool.and_eq_true, decide_eq_true_eq] at hc
    obtain ⟨⟨hl, rfl⟩, hc⟩ := hc
    obtain rfl : len = 3 := Nat.eq_of_beq_eq_true hl
    exact r_sipush hd hc (hk _ _ _ hs)
  | lconst n =>
    replace hs := z1_s hs
    obtain ⟨c, rfl, hs⟩ := hs
    simp only [ckI, Bool.and_eq_true, decide_eq_true_eq] at hc
    obtain ⟨hl, hc⟩ := hc
    obtain rfl : len = 1 := Nat.eq_of_beq_eq_true hl
    exact r_lconst hd hc (hk _ _ _ hs)
  | ldc idx =>
    replace hs := x2_s hs
    obtain ⟨t, j, rfl, hs⟩ := hs
    cases t with
    | zero =>
      replace hs := z1_s hs
      obtain ⟨c, rfl, hs⟩ := hs
      simp only [ckI, Bool.and_eq_true, decide_eq_true_eq] at hc
      obtain ⟨hl, hc⟩ := hc
      obtain rfl : len = 2 := Nat.eq_of_beq_eq_true hl
      exact r_ldc hd ho (List.mem_of_getElem? hc) (hk _ _ _ hs)
    | succ t =>
      simp only [ckI, Bool.and_eq_true, decide_eq_true_eq] at hc
      obtain ⟨hl, hc, hj⟩ := hc
      obtain rfl : len = 2 := Nat.eq_of_beq_eq_true hl
      cases hq : sjAll[j]? with
      | none => rw [hq] at hc; cases hc
      | some w =>
        rw [hq] at hc
        obtain ⟨w1, w2, w3⟩ := w
        cases hc
        have hj2 := blt_s hj
        exact r_ldcS (tx := w3) hd (by rw [hq, ← ho]; rfl) (by omega) (hk _ _ _ hs)
  | ldc_w idx =>
    replace hs := z1_s hs
    obtain ⟨c, rfl, hs⟩ := hs
    simp only [ckI, Bool.and_eq_true] at hc
    obtain ⟨hl, hc⟩ := hc
    obtain rfl : len = 3 := Nat.eq_of_beq_eq_true hl
    split at hc
    · rename_i j c2 e1 e2
      cases e2
      exact r_ldcw hd ho (List.mem_of_getElem? (of_decide_eq_true hc)) (hk _ _ _ hs)
    · cases hc
  | ldc2_w idx =>
    replace hs := z1_s hs
    obtain ⟨c, rfl, hs⟩ := hs
    simp only [ckI, Bool.and_eq_true] at hc
    obtain ⟨hl, hc⟩ := hc
    obtain rfl : len = 3 := Nat.eq_of_beq_eq_true hl
    split at hc
    · rename_i j c2 e1 e2
      cases e2
      exact r_ldc2 hd ho (List.mem_of_getElem? (of_decide_eq_true hc)) (hk _ _ _ hs)
    · cases hc
  | iload j =>
    replace hs := x1_s hs
    obtain ⟨j2, rfl, hs⟩ := hs
    replace hs := lgi_s hs
    obtain ⟨x, hx, hs⟩ := hs
    simp only [ckI, Bool.and_eq_true, decide_eq_true_eq] at hc
    obtain ⟨hl, hc⟩ := hc
    obtain rfl : len = 2 := Nat.eq_of_beq_eq_true hl
    cases hc
    exact r_iload hd hx (hk _ _ _ hs)
  | iload_n n =>
    replace hs := x1_s hs
    obtain ⟨j2, rfl, hs⟩ := hs
    replace hs := lgi_s hs
    obtain ⟨x, hx, hs⟩ := hs
    simp only [ckI, Bool.and_eq_true, decide_eq_true_eq] at hc
    obtain ⟨hl, hc⟩ := hc
    obtain rfl : len = 1 := Nat.eq_of_beq_eq_true hl
    cases hc
    exact r_iload_n hd rfl hx (hk _ _ _ hs)
  | lload j =>
    replace hs := x1_s hs
    obtain ⟨j2, rfl, hs⟩ := hs
    replace hs := lgl_s hs
    obtain ⟨x, hx, hs⟩ := hs
    simp only [ckI, Bool.and_eq_true, decide_eq_true_eq] at hc
    obtain ⟨hl, hc⟩ := hc
    obtain rfl : len = 2 := Nat.eq_of_beq_eq_true hl
    cases hc
    exact r_lload hd hx (hk _ _ _ hs)
  | lload_n n =>
    replace hs := x1_s hs
    obtain ⟨j2, rfl, hs⟩ := hs
    replace hs := lgl_s hs
    obtain ⟨x, hx, hs⟩ := hs
    simp only [ckI, Bool.and_eq_true, decide_eq_true_eq] at hc
    obtain ⟨hl, hc⟩ := hc
    obtain rfl : len = 1 := Nat.eq_of_beq_eq_true hl
    cases hc
    exact r_lload_n hd rfl hx (hk _ _ _ hs)
  | aload j =>
    replace hs := x1_s hs
    obtain ⟨j2, rfl, hs⟩ := hs
    replace hs := lga_s hs
    obtain ⟨x, hx, hv, hs⟩ := hs
    simp only [ckI, Bool.and_eq_true, decide_eq_true_eq] at hc
    obtain ⟨hl, hc⟩ := hc
    obtain rfl : len = 2 := Nat.eq_of_beq_eq_true hl
    cases hc
    exact r_aload hd hx hv (hk _ _ _ hs)
  | aload_n n =>
    replace hs := x1_s hs
    obtain ⟨j2, rfl, hs⟩ := hs
    replace hs := lga_s hs
    obtain ⟨x, hx, hv, hs⟩ := hs
    simp only [ckI, Bool.and_eq_true, decide_eq_true_eq] at hc
    obtain ⟨hl, hc⟩ := hc
    obtain rfl : len = 1 := Nat.eq_of_beq_eq_true hl
    cases hc
    exact r_aload_n hd rfl hx hv (hk _ _ _ hs)
  | istore j =>
    replace hs := x1_s hs
    obtain ⟨j2, rfl, hs⟩ := hs
    replace hs := pp1_s hs
    obtain ⟨x, rr, rfl, hs⟩ := hs
    simp only [ckI, Bool.and_eq_true, decide_eq_true_eq] at hc
    obtain ⟨⟨hl, hc⟩, hn⟩ := hc
    obtain rfl : len = 2 := Nat.eq_of_beq_eq_true hl
    cases hc
    exact r_istore hd (blt_s hn) (hk _ _ _ hs)
  | istore_n n =>
    replace hs := x1_s hs
    obtain ⟨j2, rfl, hs⟩ := hs
    replace hs := pp1_s hs
    obtain ⟨x, rr, rfl, hs⟩ := hs
    simp only [ckI, Bool.and_eq_true, decide_eq_true_eq] at hc
    obtain ⟨⟨hl, hc⟩, hn⟩ := hc
    obtain rfl : len = 1 := Nat.eq_of_beq_eq_true hl
    cases hc
    exact r_istore_n hd rfl (blt_s hn) (hk _ _ _ hs)
  | lstore j =>
    replace hs := x1_s hs
    obtain ⟨j2, rfl, hs⟩ := hs
    replace hs := pl1_s hs
    obtain ⟨x, rr, rfl, hs⟩ := hs
    simp only [ckI, Bool.and_eq_true, decide_eq_true_eq] at hc
    obtain ⟨⟨hl, hc⟩, hn⟩ := hc
    obtain rfl : len = 2 := Nat.eq_of_beq_eq_true hl
    cases hc
    exact r_lstore hd (blt_s hn) (hk _ _ _ hs)
  | lstore_n n =>
    replace hs := x1_s hs
    obtain ⟨j2, rfl, hs⟩ := hs
    replace hs := pl1_s hs
    obtain ⟨x, rr, rfl, hs⟩ := hs
    simp only [ckI, Bool.and_eq_true, decide_eq_true_eq] at hc
    obtain ⟨⟨hl, hc⟩, hn⟩ := hc
    obtain rfl : len = 1 := Nat.eq_of_beq_eq_true hl
    cases hc
    exact r_lstore_n hd rfl (blt_s hn) (hk _ _ _ hs)
  | astore j =>
    replace hs := x1_s hs
    obtain ⟨j2, rfl, hs⟩ := hs
    replace hs := prf_s hs
    obtain ⟨x, rr, rfl, hv, hs⟩ := hs
    simp only [ckI, Bool.and_eq_true, decide_eq_true_eq] at hc
    obtain ⟨⟨hl, hc⟩, hn⟩ := hc
    obtain rfl : len = 2 := Nat.eq_of_beq_eq_true hl
    cases hc
    exact r_astore hd (blt_s hn) hv (hk _ _ _ hs)
  | astore_n n =>
    replace hs := x1_s hs
    obtain ⟨j2, rfl, hs⟩ := hs
    replace hs := prf_s hs
    obtain ⟨x, rr, rfl, hv, hs⟩ := hs
    simp only [ckI, Bool.and_eq_true, decide_eq_true_eq] at hc
    obtain ⟨⟨hl, hc⟩, hn⟩ := hc
    obtain rfl : len = 1 := Nat.eq_of_beq_eq_true hl
    cases hc
    exact r_astore_n hd rfl (blt_s hn) hv (hk _ _ _ hs)
  | iinc j c =>
    replace hs := x1_s hs
    obtain ⟨j2, rfl, hs⟩ := hs
    replace hs := z1_s hs
    obtain ⟨c2, rfl, hs⟩ := hs
    replace hs := lgi_s hs
    obtain ⟨x, hx, hs⟩ := hs
    simp only [ckI, Bool.and_eq_true, decide_eq_true_eq] at hc
    obtain ⟨⟨⟨hl, hc⟩, hc2⟩, hn⟩ := hc
    obtain rfl : len = 3 := Nat.eq_of_beq_eq_true hl
    cases hc
    cases hc2
    exact r_iinc hd (blt_s hn) hx (hk _ _ _ hs)
  | iadd =>
    obtain rfl : len = 1 := Nat.eq_of_beq_eq_true hc
    replace hs := pp2_s hs
    obtain ⟨a, b, rr, rfl, hs⟩ := hs
    exact r_iadd hd (hk _ _ _ hs)
  | isub =>
    obtain rfl : len = 1 := Nat.eq_of_beq_eq_true hc
    replace hs := pp2_s hs
    obtain ⟨a, b, rr, rfl, hs⟩ := hs
    exact r_isub hd (hk _ _ _ hs)
  | imul =>
    obtain rfl : len = 1 := Nat.eq_of_beq_eq_true hc
    replace hs := pp2_s hs
    obtain ⟨a, b, rr, rfl, hs⟩ := hs
    exact r_imul hd (hk _ _ _ hs)
  | iand =>
    obtain rfl : len = 1 := Nat.eq_of_beq_eq_true hc
    replace hs := pp2_s hs
    obtain ⟨a, b, rr, rfl, hs⟩ := hs
    exact r_iand hd (hk _ _ _ hs)
  | ior =>
    obtain rfl : len = 1 := Nat.eq_of_beq_eq_true hc
    replace hs := pp2_s hs
    obtain ⟨a, b, rr, rfl, hs⟩ := hs
    exact r_ior hd (hk _ _ _ hs)
  | ixor =>
    obtain rfl : len = 1 := Nat.eq_of_beq_eq_true hc
    replace hs := pp2_s hs
    obtain ⟨a, b, rr, rfl, hs⟩ := hs
    exact r_ixor hd (hk _ _ _ hs)
  | ishl =>
    obtain rfl : len = 1 := Nat.eq_of_beq_eq_true hc
    replace hs := pp2_s hs
    obtain ⟨a, b, rr, rfl, hs⟩ := hs
    exact r_ishl hd (hk _ _ _ hs)
  | ishr =>
    obtain rfl : len = 1 := Nat.eq_of_beq_eq_true hc
    replace hs := pp2_s hs
    obtain ⟨a, b, rr, rfl, hs⟩ := hs
    exact r_ishr hd (hk _ _ _ hs)
  | iushr =>
    obtain rfl : len = 1 := Nat.eq_of_beq_eq_true hc
    replace hs := pp2_s hs
    obtain ⟨a, b, rr, rfl, hs⟩ := hs
    exact r_iushr hd (hk _ _ _ hs)
  | idiv =>
    obtain rfl : len = 1 := Nat.eq_of_beq_eq_true hc
    replace hs := pp2_s hs
    obtain ⟨a, b, rr, rfl, hs⟩ := hs
    by_cases hb : b = 0
    · rw [if_pos hb] at hs; cases hs
    · rw [if_neg hb] at hs
      exact r_idiv hd hb (hk _ _ _ hs)
  | irem =>
    obtain rfl : len = 1 := Nat.eq_of_beq_eq_true hc
    replace hs := pp2_s hs
    obtain ⟨a, b, rr, rfl, hs⟩ := hs
    by_cases hb : b = 0
    · rw [if_pos hb] at hs; cases hs
    · rw [if_neg hb] at hs
      exact r_irem hd hb (hk _ _ _ hs)
  | ineg =>
    obtain rfl : len = 1 := Nat.eq_of_beq_eq_true hc
    replace hs := pp1_s hs
    obtain ⟨a, rr, rfl, hs⟩ := hs
    exact r_ineg hd (hk _ _ _ hs)
  | ladd =>
    obtain rfl : len = 1 := Nat.eq_of_beq_eq_true hc
    replace hs := pl2_s hs
    obtain ⟨a, b, rr, rfl, hs⟩ := hs
    exact r_ladd hd (hk _ _ _ hs)
  | lsub =>
    obtain rfl : len = 1 := Nat.eq_of_beq_eq_true hc
    replace hs := pl2_s hs
    obtain ⟨a, b, rr, rfl, hs⟩ := hs
    exact r_lsub hd (hk _ _ _ hs)
  | lmul =>
    obtain rfl : len = 1 := Nat.eq_of_beq_eq_true hc
    replace hs := pl2_s hs
    obtain ⟨a, b, rr, rfl, hs⟩ := hs
    exact r_lmul hd (hk _ _ _ hs)
  | land =>
    obtain rfl : len = 1 := Nat.eq_of_beq_eq_true hc
    replace hs := pl2_s hs
    obtain ⟨a, b, rr, rfl, hs⟩ := hs
    exact r_land hd (hk _ _ _ hs)
  | lor =>
    obtain rfl : len = 1 := Nat.eq_of_beq_eq_true hc
    replace hs := pl2_s hs
    obtain ⟨a, b, rr, rfl, hs⟩ := hs
    exact r_lor hd (hk _ _ _ hs)
  | lshl =>
    obtain rfl : len = 1 := Nat.eq_of_beq_eq_true hc
    replace hs := pli_s hs
    obtain ⟨a, b, rr, rfl, hs⟩ := hs
    exact r_lshl hd (hk _ _ _ hs)
  | lshr =>
    obtain rfl : len = 1 := Nat.eq_of_beq_eq_true hc
    replace hs := pli_s hs
    obtain ⟨a, b, rr, rfl, hs⟩ := hs
    exact r_lshr hd (hk _ _ _ hs)
  | lushr =>
    obtain rfl : len = 1 := Nat.eq_of_beq_eq_true hc
    replace hs := pli_s hs
    obtain ⟨a, b, rr, rfl, hs⟩ := hs
    exact r_lushr hd (hk _ _ _ hs)
  | i2l =>
    obtain rfl : len = 1 := Nat.eq_of_beq_eq_true hc
    replace hs := pp1_s hs
    obtain ⟨a, rr, rfl, hs⟩ := hs
    exact r_i2l hd (hk _ _ _ hs)
  | l2i =>
    obtain rfl : len = 1 := Nat.eq_of_beq_eq_true hc
    replace hs := pl1_s hs
    obtain ⟨a, rr, rfl, hs⟩ := hs
    exact r_l2i hd (hk _ _ _ hs)
  | i2b =>
    obtain rfl : len = 1 := Nat.eq_of_beq_eq_true hc
    replace hs := pp1_s hs
    obtain ⟨a, rr, rfl, hs⟩ := hs
    exact r_i2b hd (hk _ _ _ hs)
  | i2s =>
    obtain rfl : len = 1 := Nat.eq_of_beq_eq_true hc
    replace hs := pp1_s hs
    obtain ⟨a, rr, rfl, hs⟩ := hs
    exact r_i2s hd (hk _ _ _ hs)
  | dup =>
    obtain rfl : len = 1 := Nat.eq_of_beq_eq_true hc
    replace hs := pv1_s hs
    obtain ⟨v, rr, rfl, hv, hs⟩ := hs
    exact r_dup hd hv (hk _ _ _ hs)
  | pop =>
    obtain rfl : len = 1 := Nat.eq_of_beq_eq_true hc
    replace hs := pv1_s hs
    obtain ⟨v, rr, rfl, hv, hs⟩ := hs
    exact r_pop hd hv (hk _ _ _ hs)
  | dup2 =>
    obtain rfl : len = 1 := Nat.eq_of_beq_eq_true hc
    replace hs := pv2_s hs
    obtain ⟨v, u, rr, rfl, hv, hu, hs⟩ := hs
    exact r_dup2 hd hv hu (hk _ _ _ hs)
  | pop2 =>
    obtain rfl : len = 1 := Nat.eq_of_beq_eq_true hc
    replace hs := pl1_s hs
    obtain ⟨a, rr, rfl, hs⟩ := hs
    exact r_pop2 hd (hk _ _ _ hs)
  | getfield idx =>
    replace hs := x4_s hs
    obtain ⟨ci, kf, kd, pl, rfl, hs⟩ := hs
    replace hs := pr1_s hs
    obtain ⟨a, rr, rfl, hs⟩ := hs
    simp only [ckI, Bool.and_eq_true] at hc
    obtain ⟨hl, hc⟩ := hc
    obtain rfl : len = 3 := Nat.eq_of_beq_eq_true hl
    obtain ⟨g1, g2, g3⟩ := ckF_s hc
    rcases kd with _ | _ | n
    · replace hs := bnd_s hs
      obtain ⟨x, hx, hs⟩ := hs
      exact r_get hd ho g1 g2 g3 (gI_s hx) (hk _ _ _ hs)
    · replace hs := bnd_s hs
      obtain ⟨x, hx, hs⟩ := hs
      exact r_get hd ho g1 g2 g3 (gL_s hx) (hk _ _ _ hs)
    · replace hs := bnd_s hs
      obtain ⟨x, hx, hs⟩ := hs
      exact r_get hd ho g1 g2 g3 (gR_s hx) (hk _ _ _ hs)
  | putfield idx =>
    replace hs := x4_s hs
    obtain ⟨ci, kf, kd, pl, rfl, hs⟩ := hs
    simp only [ckI, Bool.and_eq_true] at hc
    obtain ⟨hl, ⟨hc, hfn⟩, hty⟩ := hc
    obtain rfl : len = 3 := Nat.eq_of_beq_eq_true hl
    obtain ⟨g1, g2, g3⟩ := ckF_s hc
    have hfin : ((clN ci).2.1 kf).2.2.2 = true → y.1.name = "<init>" ∧ (clN ci).1 = oN o := by
      intro e
      rw [e] at hfn
      simp only [Bool.not_true, Bool.false_or, Bool.and_eq_true, decide_eq_true_eq] at hfn
      exact ⟨hini hfn.1, hfn.2⟩
    rcases kd with _ | _ | _ | n
    · replace hs := pri_s hs
      obtain ⟨a, x, rr, rfl, hs⟩ := hs
      replace hs := bnd_s hs
      obtain ⟨h1, hx, hs⟩ := hs
      exact r_put hd ho g1 g2 g3 hfin (fun E => by rw [of_decide_eq_true hty]; exact ⟨rfl, rfl⟩) hx (hk _ _ _ hs)
    · replace hs := prl_s hs
      obtain ⟨a, x, rr, rfl, hs⟩ := hs
      replace hs := bnd_s hs
      obtain ⟨h1, hx, hs⟩ := hs
      exact r_put hd ho g1 g2 g3 hfin (fun E => by rw [of_decide_eq_true hty]; exact ⟨rfl, rfl⟩) hx (hk _ _ _ hs)
    · replace hs := prr_s hs
      obtain ⟨a, x, rr, rfl, hs⟩ := hs
      replace hs := bnd_s hs
      obtain ⟨h1, hx, hs⟩ := hs
      exact r_put hd ho g1 g2 g3 hfin (fun E => by
        cases ht : cty ci kf <;> rw [ht] at hty <;> first | cases hty; done | exact ⟨rfl, rfl⟩) hx (hk _ _ _ hs)
    · replace hs := pri_s hs
      obtain ⟨a, x, rr, rfl, hs⟩ := hs
      by_cases hz : x &&& 1 = x
      · rw [if_pos hz] at hs
        replace hs := bnd_s hs
        obtain ⟨h1, hx, hs⟩ := hs
        exact r_put hd ho g1 g2 g3 hfin (fun E => by
          rw [of_decide_eq_true hty]
          rcases z_bool hz with rfl | rfl
          · exact ⟨rfl, rfl⟩
          · exact ⟨rfl, rfl⟩) hx (hk _ _ _ hs)
      · rw [if_neg hz] at hs; cases hs
  | arraylength =>
    obtain rfl : len = 1 := Nat.eq_of_beq_eq_true hc
    replace hs := x1_s hs
    obtain ⟨t, rfl, hs⟩ := hs
    rcases t with _ | n
    · replace hs := pr1_s hs
      obtain ⟨a, rr, rfl, hs⟩ := hs
      replace hs := bnd_s hs
      obtain ⟨x, hx, hs⟩ := hs
      exact r_alen hd hx (hk _ _ _ hs)
    · replace hs := px_s hs
      obtain ⟨rr, rfl, hs⟩ := hs
      exact r_slen hd (hk _ _ _ hs)
  | iaload =>
    obtain rfl : len = 1 := Nat.eq_of_beq_eq_true hc
    replace hs := x1_s hs
    obtain ⟨t, rfl, hs⟩ := hs
    rcases t with _ | n
    · replace hs := pri_s hs
      obtain ⟨a, i, rr, rfl, hs⟩ := hs
      replace hs := bnd_s hs
      obtain ⟨x, hx, hs⟩ := hs
      exact r_iald hd hx (hk _ _ _ hs)
    · replace hs := pxi_s hs
      obtain ⟨i, rr, rfl, hs⟩ := hs
      replace hs := bnd_s hs
      obtain ⟨x, hx, hs⟩ := hs
      obtain ⟨hin, rfl⟩ := xld_s hx
      exact r_sld hd hin (hk _ _ _ hs)
  | baload =>
    replace hs := x1_s hs
    obtain ⟨t, rfl, hs⟩ := hs
    replace hs := pri_s hs
    obtain ⟨a, i, rr, rfl, hs⟩ := hs
    replace hs := bnd_s hs
    obtain ⟨x, hx, hs⟩ := hs
    simp only [ckI, Bool.and_eq_true, decide_eq_true_eq] at hc
    obtain ⟨hl, hc⟩ := hc
    obtain rfl : len = 1 := Nat.eq_of_beq_eq_true hl
    rcases hc with hc | hc
    · cases hc
      exact r_bald hd hx (hk _ _ _ hs)
    · cases hc
      exact r_zald hd hx (hk _ _ _ hs)
  | laload =>
    obtain rfl : len = 1 := Nat.eq_of_beq_eq_true hc
    replace hs := pri_s hs
    obtain ⟨a, i, rr, rfl, hs⟩ := hs
    replace hs := bnd_s hs
    obtain ⟨x, hx, hs⟩ := hs
    exact r_lald hd hx (hk _ _ _ hs)
  | aaload =>
    replace hs := x1_s hs
    obtain ⟨t, rfl, hs⟩ := hs
    replace hs := pri_s hs
    obtain ⟨a, i, rr, rfl, hs⟩ := hs
    replace hs := bnd_s hs
    obtain ⟨x, hx, hs⟩ := hs
    simp only [ckI, Bool.and_eq_true, decide_eq_true_eq] at hc
    obtain ⟨hl, hc⟩ := hc
    obtain rfl : len = 1 := Nat.eq_of_beq_eq_true hl
    exact r_aald (by rcases hc with hc | hc <;> cases hc <;> first | exact Or.inl rfl | exact Or.inr rfl) hd hx (hk _ _ _ hs)
  | iastore =>
    obtain rfl : len = 1 := Nat.eq_of_beq_eq_true hc
    replace hs := prii_s hs
    obtain ⟨a, i, x, rr, rfl, hs⟩ := hs
    replace hs := bnd_s hs
    obtain ⟨h1, hx, hs⟩ := hs
    exact r_iast hd hx (hk _ _ _ hs)
  | bastore =>
    replace hs := x1_s hs
    obtain ⟨t, rfl, hs⟩ := hs
    replace hs := prii_s hs
    obtain ⟨a, i, x, rr, rfl, hs⟩ := hs
    replace hs := bnd_s hs
    obtain ⟨h1, hx, hs⟩ := hs
    simp only [ckI, Bool.and_eq_true, decide_eq_true_eq] at hc
    obtain ⟨hl, hc⟩ := hc
    obtain rfl : len = 1 := Nat.eq_of_beq_eq_true hl
    rcases hc with hc | hc
    · cases hc
      exact r_bast hd hx (hk _ _ _ hs)
    · cases hc
      exact r_zast hd hx (hk _ _ _ hs)
  | lastore =>
    obtain rfl : len = 1 := Nat.eq_of_beq_eq_true hc
    replace hs := pril_s hs
    obtain ⟨a, i, x, rr, rfl, hs⟩ := hs
    replace hs := bnd_s hs
    obtain ⟨h1, hx, hs⟩ := hs
    exact r_last hd hx (hk _ _ _ hs)
  | aastore =>
    replace hs := x2_s hs
    obtain ⟨t, ci, rfl, hs⟩ := hs
    replace hs := prir_s hs
    obtain ⟨a, i, x, rr, rfl, hs⟩ := hs
    replace hs := bnd_s hs
    obtain ⟨h1, hx, hs⟩ := hs
    simp only [ckI, Bool.and_eq_true, decide_eq_true_eq] at hc
    obtain ⟨hl, hc⟩ := hc
    obtain rfl : len = 1 := Nat.eq_of_beq_eq_true hl
    rcases hc with hc | hc
    · cases hc
      exact r_aast hd rfl (fun _ => rfl) hx (hk _ _ _ hs)
    · cases hc
      exact r_aast hd rfl (fun _ => rfl) hx (hk _ _ _ hs)
  | new idx =>
    replace hs := x2_s hs
    obtain ⟨ci, pl, rfl, hs⟩ := hs
    simp only [ckI, Bool.and_eq_true, decide_eq_true_eq] at hc
    obtain ⟨hl, hc, hb⟩ := hc
    obtain rfl : len = 3 := Nat.eq_of_beq_eq_true hl
    exact r_new hd ho (List.mem_of_getElem? hc) (cls_at hb) (hk _ _ _ hs)
  | newarray at_ =>
    replace hs := x1_s hs
    obtain ⟨t, rfl, hs⟩ := hs
    replace hs := pp1_s hs
    obtain ⟨n, rr, rfl, hs⟩ := hs
    replace hs := bnd_s hs
    obtain ⟨h1, hx, hs⟩ := hs
    simp only [ckI, Bool.and_eq_true, decide_eq_true_eq] at hc
    obtain ⟨hl, hc⟩ := hc
    obtain rfl : len = 2 := Nat.eq_of_beq_eq_true hl
    rcases hc with ⟨rfl, rfl⟩ | ⟨rfl, rfl⟩ | ⟨rfl, rfl⟩ | ⟨rfl, rfl⟩
    · exact r_newa (ty := .int) hd rfl cA_int (fun _ => rfl) (fun _ e => by cases e) (by decide) (fun _ _ _ => rfl) hx (hk _ _ _ hs)
    · exact r_newa (ty := .long) hd rfl cA_long (fun _ => rfl) (fun _ e => by cases e) (by decide) (fun _ _ _ => rfl) hx (hk _ _ _ hs)
    · exact r_newa (ty := .byte) hd rfl cA_byte (fun _ => rfl) (fun _ e => by cases e) (by decide) (fun _ _ _ => rfl) hx (hk _ _ _ hs)
    · exact r_newa (ty := .boolean) hd rfl cA_bool (fun _ => rfl) (fun _ e => by cases e) (by decide) (fun _ _ _ => rfl) hx (hk _ _ _ hs)
  | anewarray idx =>
    replace hs := x3_s hs
    obtain ⟨t, ci, pl, rfl, hs⟩ := hs
    replace hs := pp1_s hs
    obtain ⟨n, rr, rfl, hs⟩ := hs
    replace hs := bnd_s hs
    obtain ⟨h1, hx, hs⟩ := hs
    simp only [ckI, Bool.and_eq_true, decide_eq_true_eq] at hc
    obtain ⟨hl, hc, hb⟩ := hc
    obtain rfl : len = 3 := Nat.eq_of_beq_eq_true hl
    rcases hb with ⟨rfl, rfl⟩ | ⟨rfl, rfl⟩
    · exact r_newq hd ho (List.mem_of_getElem? hc) (fun _ => rfl) (fun _ _ h => h.2.2.2.2.2.2.2.2.1) rfl hx (hk _ _ _ hs)
    · exact r_newq hd ho (List.mem_of_getElem? hc) (fun _ => rfl) (fun _ _ h => h.2.2.2.2.2.2.2.2.2) rfl hx (hk _ _ _ hs)
  | _ => cases hs
end
section
/-! calls, switches and the whole evaluator -/
def clOK {ρ : Type} (d : Nat) (q : ρ) (Cl : Nat → List Value → mH → (Option Value → mH → Option ρ) → Option ρ) : Prop :=
  ∀ (j : Nat) (a : List Value) (g : mH) (k : Option Value → mH → Option ρ), Cl j a g k = some q → ∃ (yc : mM) (t : Nat × Nat × Nat) (v : Option Value) (g1 : mH) (d' : Nat), MT[j]? = some (yc, t) ∧ d' < d ∧ MM yc d' a g v g1 ∧ k v g1 = some q
section
variable {ρ : Type} {X : Nat × (Nat → Int32)} {y : mM} {d o pc : Nat} {ls : mL} {st : List Value} {h : mH} {r : Option Value} {h' : mH} {q : ρ} {ex : List Nat}
theorem iv_ok {Cl : Nat → List Value → mH → (Option Value → mH → Option ρ) → Option ρ} {k : List Value → mH → Option ρ} {i : Instr} {idx : Nat} (ho : oN o = y.1.cls) (hd1 : 3 < d) (hCl : clOK d q Cl)
    (hd : dcd y pc i 3) (hc : ckC o idx ex = true)
    (hi : (i = .invokevirtual idx ∧ (ex.headD 9 = 0 ∨ ex.headD 9 = 11 ∨ ex.headD 9 = 12)) ∨ (i = .invokestatic idx ∧ (ex.headD 9 = 1 ∨ ex.headD 9 = 3 ∨ (6 ≤ ex.headD 0 ∧ ex.headD 99 ≤ 10))) ∨ (i = .invokespecial idx ∧ (ex.headD 9 = 2 ∨ ex.headD 9 = 4 ∨ ex.headD 9 = 5)))
    (hs : iv Cl ex st h k = some q) (hk : ∀ st1 h1, k st1 h1 = some q → MW X y d (pc + 3) ls st1 h1 r h') : MW X y d pc ls st h r h' := by
  unfold ckC at hc
  split at hc
  rotate_left
  · cases hc
  rename_i kd j n ci pl
  simp only [List.headD_cons] at hi
  simp only [iv] at hs
  split at hc
  · -- virtual
    rename_i e0
    obtain ⟨rfl, -⟩ | ⟨-, hi⟩ | ⟨-, hi⟩ := hi
    rotate_left
    · omega
    · omega
    simp only [Bool.and_eq_true, decide_eq_true_eq] at hc
    obtain ⟨⟨hl, hm⟩, hb⟩ := hc
    replace hs := spl_s hs
    obtain ⟨as, r0, rfl, hn, hs⟩ := hs
    replace hs := pr1_s hs
    obtain ⟨a, rr, rfl, hs⟩ := hs
    obtain ⟨hw, hs⟩ := rmc_s hs
    obtain ⟨u, hu, hs⟩ := bnd_s hs
    obtain ⟨yc, t, v, g1, d', hj, hdd, hM, hs9⟩ := hCl _ _ _ _ hs
    rw [hj] at hm
    obtain ⟨t1, t2, t3⟩ := t
    simp only [Option.map_some, Option.some.injEq, Prod.mk.injEq] at hm
    obtain ⟨⟨rfl, rfl, rfl⟩, hml⟩ := hm
    exact r_callV hd ho (List.mem_of_getElem? hl) hj (cls_at hb) hn (Nat.le_of_ble_eq_true hml) hw hdd hu hM (hk _ _ hs9)
  · -- static
    obtain ⟨-, hi⟩ | ⟨rfl, -⟩ | ⟨-, hi⟩ := hi
    · omega
    rotate_left
    · omega
    simp only [Bool.and_eq_true, decide_eq_true_eq] at hc
    obtain ⟨hl, hm⟩ := hc
    replace hs := spl_s hs
    obtain ⟨as, rr, rfl, hn, hs⟩ := hs
    obtain ⟨hw, hs⟩ := rmc_s hs
    obtain ⟨yc, t, v, g1, d', hj, hdd, hM, hs9⟩ := hCl _ _ _ _ hs
    rw [hj] at hm
    obtain ⟨t1, t2, t3⟩ := t
    simp only [Option.map_some, Option.some.injEq, Prod.mk.injEq] at hm
    obtain ⟨⟨rfl, rfl⟩, hml⟩ := hm
    exact r_callS hd ho (List.mem_of_getElem? hl) hj hn (Nat.le_of_ble_eq_true hml) hw hdd hM (hk _ _ hs9)
  · -- a constructor
    obtain ⟨-, hi⟩ | ⟨-, hi⟩ | ⟨rfl, -⟩ := hi
    · omega
    · omega
    simp only [Bool.and_eq_true, decide_eq_true_eq] at hc
    obtain ⟨hl, hm⟩ := hc
    replace hs := spl_s hs
    obtain ⟨as, r0, rfl, hn, hs⟩ := hs
    replace hs := pr1_s hs
    obtain ⟨a, rr, rfl, hs⟩ := hs
    obtain ⟨hw, hs⟩ := rmc_s hs
    obtain ⟨yc, t, v, g1, d', hj, hdd, hM, hs9⟩ := hCl _ _ _ _ hs
    rw [hj] at hm
    obtain ⟨t1, t2, t3⟩ := t
    simp only [Option.map_some, Option.some.injEq, Prod.mk.injEq, Bool.and_eq_true, decide_eq_true_eq] at hm
    obtain ⟨⟨rfl, rfl⟩, hml, hrn⟩ := hm
    cases v with
    | some _ => cases hs9
    | none => exact r_callI hd ho (List.mem_of_getElem? hl) hj hrn hn (Nat.le_of_ble_eq_true hml) hw hdd hM (hk _ _ hs9)
  · -- static, of a nest mate
    obtain ⟨-, hi⟩ | ⟨rfl, -⟩ | ⟨-, hi⟩ := hi
    · omega
    rotate_left
    · omega
    simp only [Bool.and_eq_true, decide_eq_true_eq] at hc
    obtain ⟨hl, hm⟩ := hc
    replace hs := spl_s hs
    obtain ⟨as, rr, rfl, hn, hs⟩ := hs
    obtain ⟨hw, hs⟩ := rmc_s hs
    obtain ⟨yc, t, v, g1, d', hj, hdd, hM, hs9⟩ := hCl _ _ _ _ hs
    rw [hj] at hm
    obtain ⟨t1, t2, t3⟩ := t
    simp only [Option.map_some, Option.some.injEq, Prod.mk.injEq] at hm
    obtain ⟨⟨rfl, rfl⟩, hml⟩ := hm
    exact r_callSN hd ho hl hj hn (Nat.le_of_ble_eq_true hml) hw hdd hM (hk _ _ hs9)
  · -- a constructor, of a nest mate
    obtain ⟨-, hi⟩ | ⟨-, hi⟩ | ⟨rfl, -⟩ := hi
    · omega
    · omega
    simp only [Bool.and_eq_true, decide_eq_true_eq] at hc
    obtain ⟨hl, hm⟩ := hc
    replace hs := spl_s hs
    obtain ⟨as, r0, rfl, hn, hs⟩ := hs
    replace hs := pr1_s hs
    obtain ⟨a, rr, rfl, hs⟩ := hs
    obtain ⟨hw, hs⟩ := rmc_s hs
    obtain ⟨yc, t, v, g1, d', hj, hdd, hM, hs9⟩ := hCl _ _ _ _ hs
    rw [hj] at hm
    obtain ⟨t1, t2, t3⟩ := t
    simp only [Option.map_some, Option.some.injEq, Prod.mk.injEq, Bool.and_eq_true, decide_eq_true_eq] at hm
    obtain ⟨⟨rfl, rfl⟩, hml, hrn⟩ := hm
    cases v with
    | some _ => cases hs9
    | none => exact r_callIN hd ho hl hj hrn hn (Nat.le_of_ble_eq_true hml) hw hdd hM (hk _ _ hs9)
  · -- the JDK's own
    have n0 : kd ≠ 0 := by assumption
    have n1 : kd ≠ 1 := by assumption
    have n2 : kd ≠ 2 := by assumption
    have n3 : kd ≠ 3 := by assumption
    have n4 : kd ≠ 4 := by assumption
    simp only [Bool.and_eq_true, decide_eq_true_eq] at hc
    obtain ⟨hl, hb⟩ := hc
    have hp := List.mem_of_getElem? hl
    have hb2 := blt_s hb
    have hd0 : 1 ≤ d := by omega
    rcases (show kd = 5 ∨ kd = 6 ∨ kd = 7 ∨ kd = 8 ∨ kd = 9 ∨ kd = 10 ∨ kd = 11 ∨ kd = 12 by omega) with rfl | rfl | rfl | rfl | rfl | rfl | rfl | rfl
    · obtain ⟨-, hi⟩ | ⟨-, hi⟩ | ⟨rfl, -⟩ := hi
      · omega
      · omega
      replace hs := pr1_s hs
      obtain ⟨a, rr, rfl, hs⟩ := hs
      obtain ⟨hw, hs⟩ := rmc_s hs
      exact r_objI hd ho hp hd0 hw (hk _ _ hs)
    · obtain ⟨-, hi⟩ | ⟨rfl, -⟩ | ⟨-, hi⟩ := hi
      · omega
      rotate_left
      · omega
      replace hs := pp2_s hs
      obtain ⟨a, b, rr, rfl, hs⟩ := hs
      obtain ⟨hw, hs⟩ := rmc_s hs
      exact r_max hd ho hp hd0 hw (hk _ _ hs)
    · obtain ⟨-, hi⟩ | ⟨rfl, -⟩ | ⟨-, hi⟩ := hi
      · omega
      rotate_left
      · omega
      replace hs := pp2_s hs
      obtain ⟨a, b, rr, rfl, hs⟩ := hs
      obtain ⟨hw, hs⟩ := rmc_s hs
      exact r_min hd ho hp hd0 hw (hk _ _ hs)
    · obtain ⟨-, hi⟩ | ⟨rfl, -⟩ | ⟨-, hi⟩ := hi
      · omega
      rotate_left
      · omega
      replace hs := pp1_s hs
      obtain ⟨a, rr, rfl, hs⟩ := hs
      obtain ⟨hw, hs⟩ := rmc_s hs
      exact r_abs hd ho hp hd0 hw (hk _ _ hs)
    · obtain ⟨-, hi⟩ | ⟨rfl, -⟩ | ⟨-, hi⟩ := hi
      · omega
      rotate_left
      · omega
      replace hs := pl2_s hs
      obtain ⟨a, b, rr, rfl, hs⟩ := hs
      obtain ⟨hw, hs⟩ := rmc_s hs
      exact r_lmin hd ho hp hd0 hw (hk _ _ hs)
    · obtain ⟨-, hi⟩ | ⟨rfl, -⟩ | ⟨-, hi⟩ := hi
      · omega
      rotate_left
      · omega
      replace hs := pcpy_s hs
      obtain ⟨a0, sp, a, dp, nn, rr, rfl, hs⟩ := hs
      obtain ⟨hw, hs⟩ := rmc_s hs
      obtain ⟨h1, hx, hs⟩ := bnd_s hs
      exact r_cpy hd ho hp hd0 hw hx (hk _ _ hs)
    · obtain ⟨rfl, -⟩ | ⟨-, hi⟩ | ⟨-, hi⟩ := hi
      rotate_left
      · omega
      · omega
      replace hs := psu_s hs
      obtain ⟨u, rr, rfl, hs⟩ := hs
      obtain ⟨hw, hs⟩ := rmc_s hs
      obtain ⟨x, hx, hs⟩ := bnd_s hs
      obtain ⟨hu, rfl⟩ := sLn_s hx
      exact r_callVx (as := []) (d' := 1) hu hd (by rw [← ho]; exact PL_ok _ hp) ys_len_c ys_len_i ys_len_n ys_len_v rfl (by decide) hw (by omega) (c_len hu h) (hk _ _ hs)
    · obtain ⟨rfl, -⟩ | ⟨-, hi⟩ | ⟨-, hi⟩ := hi
      rotate_left
      · omega
      · omega
      replace hs := psui_s hs
      obtain ⟨u, x, rr, rfl, hs⟩ := hs
      obtain ⟨hw, hs⟩ := rmc_s hs
      obtain ⟨c, hx, hs⟩ := bnd_s hs
      have hu : u.toNat < 18 := by
        unfold sChr at hx
        split at hx
        · rename_i hq; exact hq.1
        · cases hx
      exact r_callVx (as := [.int x]) (d' := 3) hu hd (by rw [← ho]; exact PL_ok _ hp) ys_chr_c ys_chr_i ys_chr_n ys_chr_v rfl (by decide) hw (by omega) (c_chr hx h) (hk _ _ hs)
/-! switches -/
theorem jI_toInt {c : Int} (h1 : -2147483648 ≤ c) (h2 : c < 2147483648) : (jI c).toInt = c := by
  unfold jI
  exact Int32.toInt_ofInt_of_le (by simpa using h1) (by simpa using h2)
theorem sws_t {x : Int32} {e : Nat} {k : Nat → Option ρ} : ∀ (cs : List Int) (ts : List Nat) (fs : List Int) (lo : Int), sws x cs ts e k = some q → ckT pc lo cs ts fs = true → -2147483648 ≤ lo → lo + fs.length ≤ 2147483648 →
    (∃ (j t : Nat) (f : Int), x.toInt = lo + j ∧ fs[j]? = some f ∧ (pc : Int) + f = (t : Int) ∧ k t = some q) ∨ ((x.toInt < lo ∨ lo + fs.length ≤ x.toInt) ∧ k e = some q)
  | [], [], [], lo, hs, _, _, _ => Or.inr ⟨by simp; omega, hs⟩
  | c :: cs, t :: ts, f :: fs, lo, hs, hc, h1, h2 => by
    simp only [ckT, Bool.and_eq_true, decide_eq_true_eq] at hc
    obtain ⟨⟨rfl, hf⟩, hc⟩ := hc
    simp only [List.length_cons] at h2
    simp only [sws] at hs
    by_cases hx : x = jI c
    · rw [if_pos hx] at hs
      exact Or.inl ⟨0, t, f, by rw [hx, jI_toInt h1 (by omega)]; simp, rfl, hf, hs⟩
    · rw [if_neg hx] at hs
      rcases sws_t cs ts fs (c + 1) hs hc (by omega) (by omega) with ⟨j, t', f', e1, e2, e3, e4⟩ | ⟨e1, e2⟩
      · exact Or.inl ⟨j + 1, t', f', by rw [e1]; omega, by rw [List.getElem?_cons_succ]; exact e2, e3, e4⟩
      · refine Or.inr ⟨?_, e2⟩
        have hne : x.toInt ≠ c := by
          intro e
          apply hx
          apply Int32.toInt_inj.mp
          rw [jI_toInt h1 (by omega)]
          exact e
        simp only [List.length_cons]
        omega
  | [], [], _ :: _, _, _, hc, _, _ => by cases hc
  | [], _ :: _, _, _, _, hc, _, _ => by cases hc
  | _ :: _, [], _, _, _, hc, _, _ => by cases hc
  | _ :: _, _ :: _, [], _, _, hc, _, _ => by cases hc
theorem sws_l {x : Int32} {e : Nat} {k : Nat → Option ρ} {dd : Int} (he : (pc : Int) + dd = (e : Int)) : ∀ (cs : List Int) (ts : List Nat) (ps : List (Int × Int)), sws x cs ts e k = some q → ckL pc ps cs ts = true →
    ∃ t : Nat, (pc : Int) + Op.lookupswitch.offset ps dd x.toInt = (t : Int) ∧ k t = some q
  | [], [], [], hs, _ => ⟨e, he, hs⟩
  | c :: cs, t :: ts, (a, f) :: ps, hs, hc => by
    simp only [ckL, Bool.and_eq_true, decide_eq_true_eq] at hc
    obtain ⟨⟨⟨rfl, h1, h2⟩, hf⟩, hc⟩ := hc
    simp only [sws] at hs
    rw [Op.lookupswitch.offset_cons]
    by_cases hx : x = jI c
    · rw [if_pos hx] at hs
      rw [if_pos (by rw [hx, jI_toInt h1 h2])]
      exact ⟨t, hf, hs⟩
    · rw [if_neg hx] at hs
      rw [if_neg (by
        intro e2
        apply hx
        apply Int32.toInt_inj.mp
        rw [jI_toInt h1 h2]
        exact e2.symm)]
      exact sws_l he cs ts ps hs hc
  | [], [], _ :: _, _, hc => by cases hc
  | [], _ :: _, ps, _, hc => by cases ps <;> cases hc
  | _ :: _, [], ps, _, hc => by cases ps <;> cases hc
  | _ :: _, _ :: _, [], _, hc => by cases hc
theorem lgc_lt (a b : Int64) : lg_cmp a b < 0 ↔ a < b := by
  unfold lg_cmp
  by_cases h1 : a > b
  · rw [if_pos h1]
    exact ⟨fun h => absurd h (by decide), fun h => absurd h1 (Int64.not_lt.mpr (Int64.le_of_lt h))⟩
  · rw [if_neg h1]
    by_cases h2 : a = b
    · rw [if_pos h2]
      exact ⟨fun h => absurd h (by decide), fun h => absurd (h2 ▸ h) (Int64.lt_irrefl)⟩
    · rw [if_neg h2]
      refine ⟨fun _ => ?_, fun _ => by decide⟩
      have h3 := Int64.not_lt.mp h1
      exact Int64.lt_of_le_of_ne h3 h2
theorem lgc_eq (a b : Int64) : lg_cmp a b = 0 ↔ a = b := by
  unfold lg_cmp
  by_cases h1 : a > b
  · rw [if_pos h1]
    exact ⟨fun h => absurd h (by decide), fun h => absurd (h ▸ h1) (Int64.lt_irrefl)⟩
  · rw [if_neg h1]
    by_cases h2 : a = b
    · rw [if_pos h2]
      exact ⟨fun _ => h2, fun _ => rfl⟩
    · rw [if_neg h2]
      exact ⟨fun h => absurd h (by decide), fun h => absurd h h2⟩
theorem lgc_gt (a b : Int64) : 0 < lg_cmp a b ↔ b < a := by
  unfold lg_cmp
  by_cases h1 : a > b
  · rw [if_pos h1]
    exact ⟨fun _ => h1, fun _ => by decide⟩
  · rw [if_neg h1]
    by_cases h2 : a = b
    · rw [if_pos h2]
      exact ⟨fun h => absurd h (by decide), fun h => absurd h h1⟩
    · rw [if_neg h2]
      exact ⟨fun h => absurd h (by decide), fun h => absurd h h1⟩
end
end
section
/-! the evaluator says what the machine does -/
def rtOK (y : mM) (v : Option Value) : Prop := match y.2.2.2 with
  | some .int => ∃ x, v = some (.int x)
  | some .boolean => ∃ x, v = some (.int x) ∧ x &&& 1 = x
  | some .long => ∃ x, v = some (.long x)
  | none => v = none
  | _ => False
theorem bk_s {pc : Nat} {is : List mI} : ∀ {B : List (Nat × List mI)}, bk pc B = some is → (pc, is) ∈ B
  | [], h => by cases h
  | (p, js) :: B, h => by
    unfold bk at h
    cases hb : Nat.beq p pc
    · rw [hb] at h
      exact List.mem_cons_of_mem _ (bk_s h)
    · rw [hb] at h
      have := Nat.eq_of_beq_eq_true hb
      subst this
      cases h
      exact List.mem_cons_self
section
variable {X : Nat × (Nat → Int32)} {y : mM} {d pc : Nat} {ls : mL} {st : List Value} {h : mH} {r : Option Value} {h' : mH}
theorem r_tblI {dd lo hi off : Int} {offs : Array Int} {len t : Nat} {x : Int32} (hd : dcd y pc (.tableswitch dd lo hi offs) len) (h1 : ¬ x.toInt < lo) (h2 : ¬ hi < x.toInt) (hf : offs[(x.toInt - lo).toNat]? = some off) (ht : (pc : Int) + off = (t : Int)) (k : MW X y d t ls st h r h') : MW X y d pc ls (.int x :: st) h r h' :=
  MW.st k (fun C _ _ hl _ _ kk => lv_tableIn C.1 C.2.1 hd h1 h2 hf ht (kk _ hl))
theorem r_tblO {dd lo hi : Int} {offs : Array Int} {len t : Nat} {x : Int32} (hd : dcd y pc (.tableswitch dd lo hi offs) len) (h1 : x.toInt < lo ∨ hi < x.toInt) (ht : (pc : Int) + dd = (t : Int)) (k : MW X y d t ls st h r h') : MW X y d pc ls (.int x :: st) h r h' :=
  MW.st k (fun C _ _ hl _ _ kk => lv_tableOut C.1 C.2.1 hd h1 ht (kk _ hl))
theorem r_look {dd off : Int} {ps : Array (Int × Int)} {len t : Nat} {x : Int32} (hd : dcd y pc (.lookupswitch dd ps) len) (hp : (ps.toList.zip (ps.toList.drop 1)).all (fun (a, next) => a.1 < next.1) = true) (ho : Op.lookupswitch.offset ps.toList dd x.toInt = off) (ht : (pc : Int) + off = (t : Int)) (k : MW X y d t ls st h r h') : MW X y d pc ls (.int x :: st) h r h' :=
  MW.st k (fun C _ _ hl _ _ kk => lv_lookup C.1 C.2.1 hd hp ho ht (kk _ hl))
theorem cmi_ok {ρ : Type} {q : ρ} {cd : ClassFile.Cond} {a b : Int32} {T F : Option ρ} {off : Int} {t : Nat} (hd : dcd y pc (.if_icmp cd off) 3) (ht : (pc : Int) + off = (t : Int)) (hs : cmi cd a b T F = some q) (kt : T = some q → MW X y d t ls st h r h') (kf : F = some q → MW X y d (pc + 3) ls st h r h') : MW X y d pc ls (.int b :: .int a :: st) h r h' := by
  cases cd with
  | eq => exact r_icmp_eq hd ht (fun c => kt ((if_pos c).symm.trans hs)) (fun c => kf ((if_neg c).symm.trans hs))
  | ne => exact r_icmp_ne hd ht (fun c => kf ((if_pos c).symm.trans hs)) (fun c => kt ((if_neg c).symm.trans hs))
  | lt => exact r_icmp_lt hd ht (fun c => kt ((if_pos c).symm.trans hs)) (fun c => kf ((if_neg c).symm.trans hs))
  | ge => exact r_icmp_ge hd ht (fun c => kf ((if_pos c).symm.trans hs)) (fun c => kt ((if_neg c).symm.trans hs))
  | gt => exact r_icmp_gt hd ht (fun c => kt ((if_pos c).symm.trans hs)) (fun c => kf ((if_neg c).symm.trans hs))
  | le => exact r_icmp_le hd ht (fun c => kf ((if_pos c).symm.trans hs)) (fun c => kt ((if_neg c).symm.trans hs))
theorem cm0_ok {ρ : Type} {q : ρ} {cd : ClassFile.Cond} {a : Int32} {T F : Option ρ} {off : Int} {t : Nat} (hd : dcd y pc (.ifCond cd off) 3) (ht : (pc : Int) + off = (t : Int)) (hs : cmi cd a 0 T F = some q) (kt : T = some q → MW X y d t ls st h r h') (kf : F = some q → MW X y d (pc + 3) ls st h r h') : MW X y d pc ls (.int a :: st) h r h' := by
  cases cd with
  | eq => exact r_if_eq hd ht (fun c => kt ((if_pos c).symm.trans hs)) (fun c => kf ((if_neg c).symm.trans hs))
  | ne => exact r_if_ne hd ht (fun c => kf ((if_pos c).symm.trans hs)) (fun c => kt ((if_neg c).symm.trans hs))
  | lt => exact r_if_lt hd ht (fun c => kt ((if_pos c).symm.trans hs)) (fun c => kf ((if_neg c).symm.trans hs))
  | ge => exact r_if_ge hd ht (fun c => kf ((if_pos c).symm.trans hs)) (fun c => kt ((if_neg c).symm.trans hs))
  | gt => exact r_if_gt hd ht (fun c => kt ((if_pos c).symm.trans hs)) (fun c => kf ((if_neg c).symm.trans hs))
  | le => exact r_if_le hd ht (fun c => kf ((if_pos c).symm.trans hs)) (fun c => kt ((if_neg c).symm.trans hs))
theorem cml_ok {ρ : Type} {q : ρ} {cd : ClassFile.Cond} {a b : Int64} {T F : Option ρ} {off : Int} {t : Nat} (hd0 : dcd y pc .lcmp 1) (hd : dcd y (pc + 1) (.ifCond cd off) 3) (ht : ((pc + 1 : Nat) : Int) + off = (t : Int)) (hs : cml cd a b T F = some q) (kt : T = some q → MW X y d t ls st h r h') (kf : F = some q → MW X y d (pc + 4) ls st h r h') : MW X y d pc ls (.long b :: .long a :: st) h r h' := by
  refine r_lcmp hd0 ?_
  cases cd with
  | eq => exact r_if_eq hd ht (fun c => kt ((if_pos ((lgc_eq a b).mp c)).symm.trans hs)) (fun c => kf ((if_neg (fun e => c ((lgc_eq a b).mpr e))).symm.trans hs))
  | ne => exact r_if_ne hd ht (fun c => kf ((if_pos ((lgc_eq a b).mp c)).symm.trans hs)) (fun c => kt ((if_neg (fun e => c ((lgc_eq a b).mpr e))).symm.trans hs))
  | lt => exact r_if_lt hd ht (fun c => kt ((if_pos ((lgc_lt a b).mp c)).symm.trans hs)) (fun c => kf ((if_neg (fun e => c ((lgc_lt a b).mpr e))).symm.trans hs))
  | ge => exact r_if_ge hd ht (fun c => kf ((if_pos ((lgc_lt a b).mp c)).symm.trans hs)) (fun c => kt ((if_neg (fun e => c ((lgc_lt a b).mpr e))).symm.trans hs))
  | gt => exact r_if_gt hd ht (fun c => kt ((if_pos ((lgc_gt a b).mp c)).symm.trans hs)) (fun c => kf ((if_neg (fun e => c ((lgc_gt a b).mpr e))).symm.trans hs))
  | le => exact r_if_le hd ht (fun c => kf ((if_pos ((lgc_gt a b).mp c)).symm.trans hs)) (fun c => kt ((if_neg (fun e => c ((lgc_gt a b).mpr e))).symm.trans hs))
end
set_option maxHeartbeats 4000000 in
theorem ev_ok {ρ : Type} {X : Nat × (Nat → Int32)} {y : mM} {d o : Nat} {ini : Bool} {r : Option Value} {h' : mH} {q : ρ} {Cl : Nat → List Value → mH → (Option Value → mH → Option ρ) → Option ρ} {Rc : Option Value → mH → Option ρ} {K : Nat → mL → List Value → mH → Option ρ} {B : List (Nat × List mI)}
    (ho : oN o = y.1.cls) (hini : ini = true → y.1.name = "<init>") (hd1 : 3 < d) (hRc : ∀ v g, Rc v g = some q → v = r ∧ g = h' ∧ rtOK y v) (hK : ∀ pc ls st g, K pc ls st g = some q → MW X y d pc ls st g r h') (hCl : clOK d q Cl) (hB : B.all (fun b => lst y.2.1 o y.2.2.1 ini b.1 b.2) = true) :
    ∀ (n pc : Nat) (is : List mI) (ls : mL) (st : List Value) (g : mH), lst y.2.1 o y.2.2.1 ini pc is = true → ev X Cl Rc K B n pc is ls st g = some q → MW X y d pc ls st g r h' := by
  intro n
  induction n with
  | zero => intro pc is ls st g _ hs; cases hs
  | succ n ih =>
    intro pc is ls st g hl hs
    cases is with
    | nil =>
      simp only [ev] at hs
      split at hs
      · rename_i is2 hb
        exact ih pc is2 ls st g (List.all_eq_true.mp hB _ (bk_s hb)) hs
      · exact hK _ _ _ _ hs
    | cons im is =>
      obtain ⟨i, len, ex, cs⟩ := im
      simp only [lst, Bool.and_eq_true, decide_eq_true_eq] at hl
      obtain ⟨⟨hd, hc⟩, hl⟩ := hl
      have hN : ∀ t ls2 st2 g2, ev X Cl Rc K B n t [] ls2 st2 g2 = some q → MW X y d t ls2 st2 g2 r h' := fun t ls2 st2 g2 e => ih t [] ls2 st2 g2 rfl e
      have hX : sx X i ex cs ls st g (fun ls1 st1 h1 => ev X Cl Rc K B n (pc + len) is ls1 st1 h1) = some q → MW X y d pc ls st g r h' := fun e => sx_ok ho hini hd hc e (fun ls1 st1 h1 e2 => ih _ _ _ _ _ hl e2)
      cases i with
      | goto off =>
        replace hs := x1_s hs
        obtain ⟨t, rfl, hs⟩ := hs
        simp only [ckI, Bool.and_eq_true, decide_eq_true_eq] at hc
        obtain ⟨e1, hc⟩ := hc
        obtain rfl : len = 3 := Nat.eq_of_beq_eq_true e1
        exact r_goto hd hc (hN _ _ _ _ hs)
      | if_icmp cd off =>
        replace hs := x1_s hs
        obtain ⟨t, rfl, hs⟩ := hs
        simp only [ckI, Bool.and_eq_true, decide_eq_true_eq] at hc
        obtain ⟨e1, hc⟩ := hc
        obtain rfl : len = 3 := Nat.eq_of_beq_eq_true e1
        replace hs := pp2_s hs
        obtain ⟨a, b, rr, rfl, hs⟩ := hs
        exact cmi_ok hd hc hs (fun e => hN _ _ _ _ e) (fun e => ih _ _ _ _ _ hl e)
      | ifCond cd off =>
        replace hs := x1_s hs
        obtain ⟨t, rfl, hs⟩ := hs
        simp only [ckI, Bool.and_eq_true, decide_eq_true_eq] at hc
        obtain ⟨e1, hc⟩ := hc
        obtain rfl : len = 3 := Nat.eq_of_beq_eq_true e1
        replace hs := pp1_s hs
        obtain ⟨a, rr, rfl, hs⟩ := hs
        exact cm0_ok hd hc hs (fun e => hN _ _ _ _ e) (fun e => ih _ _ _ _ _ hl e)
      | lcmp =>
        obtain rfl : len = 1 := Nat.eq_of_beq_eq_true hc
        cases is with
        | nil => cases hs
        | cons im2 is2 =>
          obtain ⟨i2, len2, ex2, cs2⟩ := im2
          cases i2 with
          | ifCond cd off =>
            replace hs := x1_s hs
            obtain ⟨t, rfl, hs⟩ := hs
            replace hs := pl2_s hs
            obtain ⟨a, b, rr, rfl, hs⟩ := hs
            simp only [lst, Bool.and_eq_true, decide_eq_true_eq] at hl
            obtain ⟨⟨hd2, hc2⟩, hl⟩ := hl
            simp only [ckI, Bool.and_eq_true, decide_eq_true_eq] at hc2
            obtain ⟨e1, hc2⟩ := hc2
            obtain rfl : len2 = 3 := Nat.eq_of_beq_eq_true e1
            exact cml_ok hd hd2 hc2 hs (fun e => hN _ _ _ _ e) (fun e => ih _ _ _ _ _ hl e)
          | _ => cases hs
      | tableswitch dd lo hi offs =>
        cases ex with
        | nil => cases hs
        | cons e ts =>
          replace hs := pp1_s hs
          obtain ⟨x, rr, rfl, hs⟩ := hs
          simp only [ckI, Bool.and_eq_true, decide_eq_true_eq] at hc
          obtain ⟨⟨c1, c2⟩, c3, c4, c5, c6⟩ := hc
          rcases sws_t cs ts offs.toList lo hs c2 c3 (by omega) with ⟨j, t, f, e1, e2, e3, e4⟩ | ⟨e1, e2⟩
          · have hj : j < offs.toList.length := (List.getElem?_eq_some_iff.mp e2).1
            refine r_tblI (off := f) (t := t) hd (by omega) (by omega) ?_ e3 (hN _ _ _ _ e4)
            rw [show (x.toInt - lo).toNat = j by omega, ← Array.getElem?_toList]
            exact e2
          · exact r_tblO hd (by omega) c1 (hN _ _ _ _ e2)
      | lookupswitch dd ps =>
        cases ex with
        | nil => cases hs
        | cons e ts =>
          replace hs := pp1_s hs
          obtain ⟨x, rr, rfl, hs⟩ := hs
          simp only [ckI, Bool.and_eq_true, decide_eq_true_eq] at hc
          obtain ⟨⟨c1, c2⟩, c3⟩ := hc
          obtain ⟨t, e1, e2⟩ := sws_l c1 cs ts ps.toList hs c2
          exact r_look hd c3 rfl e1 (hN _ _ _ _ e2)
      | ireturn =>
        obtain rfl : len = 1 := Nat.eq_of_beq_eq_true hc
        simp only [ev] at hs
        split at hs
        · rename_i x
          obtain ⟨rfl, rfl, hr⟩ := hRc _ _ hs
          unfold rtOK at hr
          split at hr
          · rename_i e; exact r_iret hd e
          · rename_i e
            obtain ⟨x2, e2, e3⟩ := hr
            cases e2
            exact r_zret hd e e3
          · obtain ⟨x2, e2⟩ := hr; cases e2
          · cases hr
          · cases hr
        · cases hs
      | lreturn =>
        obtain rfl : len = 1 := Nat.eq_of_beq_eq_true hc
        simp only [ev] at hs
        split at hs
        · rename_i x
          obtain ⟨rfl, rfl, hr⟩ := hRc _ _ hs
          unfold rtOK at hr
          split at hr
          · obtain ⟨x2, e2⟩ := hr; cases e2
          · obtain ⟨x2, e2, e3⟩ := hr; cases e2
          · rename_i e; exact r_lret hd e
          · cases hr
          · cases hr
        · cases hs
      | return_ =>
        obtain rfl : len = 1 := Nat.eq_of_beq_eq_true hc
        simp only [ev] at hs
        split at hs
        · obtain ⟨rfl, rfl, hr⟩ := hRc _ _ hs
          unfold rtOK at hr
          split at hr
          · obtain ⟨x2, e2⟩ := hr; cases e2
          · obtain ⟨x2, e2, e3⟩ := hr; cases e2
          · obtain ⟨x2, e2⟩ := hr; cases e2
          · rename_i e; exact r_vret hd e
          · cases hr
        · cases hs
      | invokevirtual idx =>
        simp only [ckI, Bool.and_eq_true, decide_eq_true_eq] at hc
        obtain ⟨⟨e1, hc⟩, hh⟩ := hc
        obtain rfl : len = 3 := Nat.eq_of_beq_eq_true e1
        exact iv_ok ho hd1 hCl hd hc (Or.inl ⟨rfl, hh⟩) hs (fun st1 h1 e => ih _ _ _ _ _ hl e)
      | invokestatic idx =>
        simp only [ckI, Bool.and_eq_true, decide_eq_true_eq] at hc
        obtain ⟨⟨e1, hc⟩, hh⟩ := hc
        obtain rfl : len = 3 := Nat.eq_of_beq_eq_true e1
        exact iv_ok ho hd1 hCl hd hc (Or.inr (Or.inl ⟨rfl, hh⟩)) hs (fun st1 h1 e => ih _ _ _ _ _ hl e)
      | invokespecial idx =>
        simp only [ckI, Bool.and_eq_true, decide_eq_true_eq] at hc
        obtain ⟨⟨e1, hc⟩, hh⟩ := hc
        obtain rfl : len = 3 := Nat.eq_of_beq_eq_true e1
        exact iv_ok ho hd1 hCl hd hc (Or.inr (Or.inr ⟨rfl, hh⟩)) hs (fun st1 h1 e => ih _ _ _ _ _ hl e)
      | _ => exact hX hs
/-! results by type -/
def RcI : Option Value → mH → Option (Int32 × mH) := fun v h => match v with
  | some (.int x) => some (x, h)
  | _ => none
def RcZ : Option Value → mH → Option (Int32 × mH) := fun v h => match v with
  | some (.int x) => if x &&& 1 = x then some (x, h) else none
  | _ => none
def RcJ : Option Value → mH → Option (Int64 × mH) := fun v h => match v with
  | some (.long x) => some (x, h)
  | _ => none
def RcV : Option Value → mH → Option mH := fun v h => match v with
  | none => some h
  | _ => none
end
section
/-! words for the printed functions' contracts -/
section
variable {ρ : Type}
def kb (a b : Nat) (s t : Option ρ) : Option ρ := bif Nat.beq a b then s else t
theorem kb_s {a b : Nat} {s t : Option ρ} {q : ρ} (h : kb a b s t = some q) : (a = b ∧ s = some q) ∨ t = some q := by
  unfold kb at h
  cases hb : Nat.beq a b
  · rw [hb] at h; exact Or.inr h
  · rw [hb] at h; exact Or.inl ⟨Nat.eq_of_beq_eq_true hb, h⟩
def pe (st : List Value) (e : Option ρ) : Option ρ := match st with
  | [] => e
  | _ => none
theorem pe_s {st : List Value} {e : Option ρ} {q : ρ} (h : pe st e = some q) : st = [] ∧ e = some q := by
  unfold pe at h; split at h
  · exact ⟨rfl, h⟩
  · cases h
def lgr (j : Nat) (ls : mL) (k : Nat → Option ρ) : Option ρ := match lg j ls with
  | some (.ref x) => k x
  | _ => none
theorem lgr_s {j : Nat} {ls : mL} {k : Nat → Option ρ} {q : ρ} (h : lgr j ls k = some q) : ∃ x, lg j ls = some (.ref x) ∧ k x = some q := by
  unfold lgr at h; split at h
  · rename_i x hx; exact ⟨x, hx, h⟩
  · cases h
def lgs (j : Nat) (ls : mL) (k : UInt32 → Option ρ) : Option ρ := match lg j ls with
  | some (.float x) => k x
  | _ => none
theorem lgs_s {j : Nat} {ls : mL} {k : UInt32 → Option ρ} {q : ρ} (h : lgs j ls k = some q) : ∃ x, lg j ls = some (.float x) ∧ k x = some q := by
  unfold lgs at h; split at h
  · rename_i x hx; exact ⟨x, hx, h⟩
  · cases h
end
theorem rcI_ok {y : mM} (hr : y.2.2.2 = some .int) {q : Int32 × mH} (v : Option Value) (g : mH) (h : RcI v g = some q) : v = some (.int q.1) ∧ g = q.2 ∧ rtOK y v := by
  unfold RcI at h
  split at h
  · rename_i x
    cases h
    refine ⟨rfl, rfl, ?_⟩
    unfold rtOK
    rw [hr]
    exact ⟨x, rfl⟩
  · cases h
theorem rcZ_ok {y : mM} (hr : y.2.2.2 = some .boolean) {q : Int32 × mH} (v : Option Value) (g : mH) (h : RcZ v g = some q) : v = some (.int q.1) ∧ g = q.2 ∧ rtOK y v := by
  unfold RcZ at h
  split at h
  · rename_i x
    split at h
    · rename_i hx
      cases h
      refine ⟨rfl, rfl, ?_⟩
      unfold rtOK
      rw [hr]
      exact ⟨x, rfl, hx⟩
    · cases h
  · cases h
theorem rcJ_ok {y : mM} (hr : y.2.2.2 = some .long) {q : Int64 × mH} (v : Option Value) (g : mH) (h : RcJ v g = some q) : v = some (.long q.1) ∧ g = q.2 ∧ rtOK y v := by
  unfold RcJ at h
  split at h
  · rename_i x
    cases h
    refine ⟨rfl, rfl, ?_⟩
    unfold rtOK
    rw [hr]
    exact ⟨x, rfl⟩
  · cases h
theorem rcV_ok {y : mM} (hr : y.2.2.2 = none) {q : mH} (v : Option Value) (g : mH) (h : RcV v g = some q) : v = none ∧ g = q ∧ rtOK y v := by
  unfold RcV at h
  split at h
  · cases h
    refine ⟨rfl, rfl, ?_⟩
    unfold rtOK
    rw [hr]
  · cases h
end
section
/-! printed by wip/whole/gen_code.py: the functions of methods 0 to 39 (leaves first), and their contracts -/
def f_X0_init (N : Nat) (a0 : Nat) (h : mH) : Option (mH) :=
  (nwA h 0 (jI 24)).bind fun h1 =>
  (pV h1 0 a0 7 (.ref h.1)).bind fun h2 =>
  (nwA h2 0 (jI 88)).bind fun h3 =>
  (pV h3 0 a0 8 (.ref h2.1)).bind fun h4 =>
  (nwA h4 0 (jI 24)).bind fun h5 =>
  (pV h5 0 a0 9 (.ref h4.1)).bind fun h6 =>
  (pV h6 0 a0 4 (.int (jI 2))).bind fun h7 =>
  (pV h7 0 a0 5 (.int (jI 100))).bind fun h8 =>
  some h8
def y_X0_init : mM := (yX0_init, cX0_init, 1, none)
def B_X0_init : List (Nat × List mI) := []
def S_X0_init_0 : List mI := [(.aload_n 0, 1, [0], []), (.invokespecial 5, 3, [5, 0, 0, 0, 1], []), (.aload_n 0, 1, [0], []), (.bipush 24, 2, [], [24]), (.newarray .int, 2, [0], []), (.putfield 11, 3, [0, 7, 2, 24], []), (.aload_n 0, 1, [0], []), (.bipush 88, 2, [], [88]), (.newarray .int, 2, [0], []), (.putfield 15, 3, [0, 8, 2, 26], []), (.aload_n 0, 1, [0], []), (.bipush 24, 2, [], [24]), (.newarray .int, 2, [0], []), (.putfield 18, 3, [0, 9, 2, 28], []), (.aload_n 0, 1, [0], []), (.iconst 2, 1, [], [2]), (.putfield 21, 3, [0, 4, 0, 14], []), (.aload_n 0, 1, [0], []), (.bipush 100, 2, [], [100]), (.putfield 25, 3, [0, 5, 0, 17], []), (.return_, 1, [], [])]
theorem lb_X0_init : B_X0_init.all (fun b => lst y_X0_init.2.1 0 y_X0_init.2.2.1 true b.1 b.2) = true := by decide +kernel
theorem ls_X0_init_0 : lst y_X0_init.2.1 0 y_X0_init.2.2.1 true 0 S_X0_init_0 = true := by decide +kernel
def C_X0_init (N : Nat) : Nat → List Value → mH → (Option Value → mH → Option (mH)) → Option (mH) := fun j as g k => none
theorem co_X0_init (N : Nat) (q : mH) : clOK 4 q (C_X0_init N) := by
  intro j as g k e
  cases e
set_option maxRecDepth 100000 in
theorem m_X0_init (N : Nat) {a0 : Nat} {h : mH} {q : mH} (hf : f_X0_init N a0 h = some q) : MM y_X0_init 4 [.ref a0] h none q := by
  refine MM.of (mFx (j := 0) rfl).2.2.2.1 (Nat.le_of_ble_eq_true rfl) (fun X => ?_)
  refine ev_ok (o := 0) (ini := true) (Cl := C_X0_init N) (Rc := RcV) (B := B_X0_init) (K := fun pc ls st g => none) rfl (fun _ => rfl) (by decide) (rcV_ok rfl) ?_ (co_X0_init N q) lb_X0_init 3000 0 S_X0_init_0 _ _ h ls_X0_init_0 hf
  intro pc ls st g e
  cases e
def f_X0_clear (N : Nat) (a0 : Nat) (h : mH) : Option (mH) :=
  (pV h 0 a0 0 (.int (jI 0))).bind fun h1 =>
  (pV h1 0 a0 1 (.int (jI 0))).bind fun h2 =>
  (pV h2 0 a0 2 (.int (jI 0))).bind fun h3 =>
  (pV h3 0 a0 3 (.int (jI 0))).bind fun h4 =>
  (pV h4 0 a0 4 (.int (jI 2))).bind fun h5 =>
  (pV h5 0 a0 5 (.int (jI 100))).bind fun h6 =>
  (pV h6 0 a0 6 (.int (jI 0))).bind fun h7 =>
  some h7
def y_X0_clear : mM := (yX0_clear, cX0_clear, 1, none)
def B_X0_clear : List (Nat × List mI) := []
def S_X0_clear_0 : List mI := [(.aload_n 0, 1, [0], []), (.iconst 0, 1, [], [0]), (.putfield 28, 3, [0, 0, 0, 0], []), (.aload_n 0, 1, [0], []), (.iconst 0, 1, [], [0]), (.putfield 31, 3, [0, 1, 0, 4], []), (.aload_n 0, 1, [0], []), (.iconst 0, 1, [], [0]), (.putfield 34, 3, [0, 2, 0, 7], []), (.aload_n 0, 1, [0], []), (.iconst 0, 1, [], [0]), (.putfield 37, 3, [0, 3, 0, 11], []), (.aload_n 0, 1, [0], []), (.iconst 2, 1, [], [2]), (.putfield 21, 3, [0, 4, 0, 14], []), (.aload_n 0, 1, [0], []), (.bipush 100, 2, [], [100]), (.putfield 25, 3, [0, 5, 0, 17], []), (.aload_n 0, 1, [0], []), (.iconst 0, 1, [], [0]), (.putfield 40, 3, [0, 6, 0, 21], []), (.return_, 1, [], [])]
theorem lb_X0_clear : B_X0_clear.all (fun b => lst y_X0_clear.2.1 0 y_X0_clear.2.2.1 false b.1 b.2) = true := by decide +kernel
theorem ls_X0_clear_0 : lst y_X0_clear.2.1 0 y_X0_clear.2.2.1 false 0 S_X0_clear_0 = true := by decide +kernel
def C_X0_clear (N : Nat) : Nat → List Value → mH → (Option Value → mH → Option (mH)) → Option (mH) := fun j as g k => none
theorem co_X0_clear (N : Nat) (q : mH) : clOK 4 q (C_X0_clear N) := by
  intro j as g k e
  cases e
set_option maxRecDepth 100000 in
theorem m_X0_clear (N : Nat) {a0 : Nat} {h : mH} {q : mH} (hf : f_X0_clear N a0 h = some q) : MM y_X0_clear 4 [.ref a0] h none q := by
  refine MM.of (mFx (j := 1) rfl).2.2.2.1 (Nat.le_of_ble_eq_true rfl) (fun X => ?_)
  refine ev_ok (o := 0) (ini := false) (Cl := C_X0_clear N) (Rc := RcV) (B := B_X0_clear) (K := fun pc ls st g => none) rfl (fun e => by cases e) (by decide) (rcV_ok rfl) ?_ (co_X0_clear N q) lb_X0_clear 3000 0 S_X0_clear_0 _ _ h ls_X0_clear_0 hf
  intro pc ls st g e
  cases e
def f_X0_become (N : Nat) (a0 : Nat) (a1 : Nat) (h : mH) : Option (mH) :=
  (gI h 0 a1 0).bind fun v1 =>
  (pV h 0 a0 0 (.int v1)).bind fun h2 =>
  (gI h2 0 a1 1).bind fun v3 =>
  (pV h2 0 a0 1 (.int v3)).bind fun h4 =>
  (gI h4 0 a1 2).bind fun v5 =>
  (pV h4 0 a0 2 (.int v5)).bind fun h6 =>
  (gI h6 0 a1 3).bind fun v7 =>
  (pV h6 0 a0 3 (.int v7)).bind fun h8 =>
  (gI h8 0 a1 4).bind fun v9 =>
  (pV h8 0 a0 4 (.int v9)).bind fun h10 =>
  (gI h10 0 a1 5).bind fun v11 =>
  (pV h10 0 a0 5 (.int v11)).bind fun h12 =>
  (gI h12 0 a1 6).bind fun v13 =>
  (pV h12 0 a0 6 (.int v13)).bind fun h14 =>
  (gR h14 0 a1 7).bind fun v15 =>
  (gR h14 0 a0 7).bind fun v16 =>
  (gR h14 0 a0 7).bind fun v17 =>
  (lnA h14 v17).bind fun v18 =>
  (cpI h14 v15 (jI 0) v16 (jI 0) v18).bind fun h19 =>
  (gR h19 0 a1 8).bind fun v20 =>
  (gR h19 0 a0 8).bind fun v21 =>
  (gR h19 0 a0 8).bind fun v22 =>
  (lnA h19 v22).bind fun v23 =>
  (cpI h19 v20 (jI 0) v21 (jI 0) v23).bind fun h24 =>
  (gR h24 0 a1 9).bind fun v25 =>
  (gR h24 0 a0 9).bind fun v26 =>
  (gR h24 0 a0 9).bind fun v27 =>
  (lnA h24 v27).bind fun v28 =>
  (cpI h24 v25 (jI 0) v26 (jI 0) v28).bind fun h29 =>
  some h29
def y_X0_become : mM := (yX0_become, cX0_become, 2, none)
def B_X0_become : List (Nat × List mI) := []
def S_X0_become_0 : List mI := [(.aload_n 0, 1, [0], []), (.aload_n 1, 1, [1], []), (.getfield 28, 3, [0, 0, 0, 0], []), (.putfield 28, 3, [0, 0, 0, 0], []), (.aload_n 0, 1, [0], []), (.aload_n 1, 1, [1], []), (.getfield 31, 3, [0, 1, 0, 4], []), (.putfield 31, 3, [0, 1, 0, 4], []), (.aload_n 0, 1, [0], []), (.aload_n 1, 1, [1], []), (.getfield 34, 3, [0, 2, 0, 7], []), (.putfield 34, 3, [0, 2, 0, 7], []), (.aload_n 0, 1, [0], []), (.aload_n 1, 1, [1], []), (.getfield 37, 3, [0, 3, 0, 11], []), (.putfield 37, 3, [0, 3, 0, 11], []), (.aload_n 0, 1, [0], []), (.aload_n 1, 1, [1], []), (.getfield 21, 3, [0, 4, 0, 14], []), (.putfield 21, 3, [0, 4, 0, 14], []), (.aload_n 0, 1, [0], []), (.aload_n 1, 1, [1], []), (.getfield 25, 3, [0, 5, 0, 17], []), (.putfield 25, 3, [0, 5, 0, 17], []), (.aload_n 0, 1, [0], []), (.aload_n 1, 1, [1], []), (.getfield 40, 3, [0, 6, 0, 21], []), (.putfield 40, 3, [0, 6, 0, 21], []), (.aload_n 1, 1, [1], []), (.getfield 11, 3, [0, 7, 2, 24], []), (.iconst 0, 1, [], [0]), (.aload_n 0, 1, [0], []), (.getfield 11, 3, [0, 7, 2, 24], []), (.iconst 0, 1, [], [0]), (.aload_n 0, 1, [0], []), (.getfield 11, 3, [0, 7, 2, 24], []), (.arraylength, 1, [0], []), (.invokestatic 43, 3, [10, 0, 0, 0, 15], []), (.aload_n 1, 1, [1], []), (.getfield 15, 3, [0, 8, 2, 26], []), (.iconst 0, 1, [], [0]), (.aload_n 0, 1, [0], []), (.getfield 15, 3, [0, 8, 2, 26], []), (.iconst 0, 1, [], [0]), (.aload_n 0, 1, [0], []), (.getfield 15, 3, [0, 8, 2, 26], []), (.arraylength, 1, [0], []), (.invokestatic 43, 3, [10, 0, 0, 0, 15], []), (.aload_n 1, 1, [1], []), (.getfield 18, 3, [0, 9, 2, 28], []), (.iconst 0, 1, [], [0]), (.aload_n 0, 1, [0], []), (.getfield 18, 3, [0, 9, 2, 28], []), (.iconst 0, 1, [], [0]), (.aload_n 0, 1, [0], []), (.getfield 18, 3, [0, 9, 2, 28], []), (.arraylength, 1, [0], []), (.invokestatic 43, 3, [10, 0, 0, 0, 15], []), (.return_, 1, [], [])]
theorem lb_X0_become : B_X0_become.all (fun b => lst y_X0_become.2.1 0 y_X0_become.2.2.1 false b.1 b.2) = true := by decide +kernel
theorem ls_X0_become_0 : lst y_X0_become.2.1 0 y_X0_become.2.2.1 false 0 S_X0_become_0 = true := by decide +kernel
def C_X0_become (N : Nat) : Nat → List Value → mH → (Option Value → mH → Option (mH)) → Option (mH) := fun j as g k => none
theorem co_X0_become (N : Nat) (q : mH) : clOK 4 q (C_X0_become N) := by
  intro j as g k e
  cases e
set_option maxRecDepth 100000 in
theorem m_X0_become (N : Nat) {a0 : Nat} {a1 : Nat} {h : mH} {q : mH} (hf : f_X0_become N a0 a1 h = some q) : MM y_X0_become 4 [.ref a0, .ref a1] h none q := by
  refine MM.of (mFx (j := 2) rfl).2.2.2.1 (Nat.le_of_ble_eq_true rfl) (fun X => ?_)
  refine ev_ok (o := 0) (ini := false) (Cl := C_X0_become N) (Rc := RcV) (B := B_X0_become) (K := fun pc ls st g => none) rfl (fun e => by cases e) (by decide) (rcV_ok rfl) ?_ (co_X0_become N q) lb_X0_become 3000 0 S_X0_become_0 _ _ h ls_X0_become_0 hf
  intro pc ls st g e
  cases e
def f_X0_hasKind (N : Nat) (a0 : Nat) (x1 : Int32) (h : mH) : Option (Int32 × mH) :=
  if x1 < 0 then
    some (jI 0, h)
  else
    (gI h 0 a0 1).bind fun v1 =>
    if x1 < v1 then
      some (jI 1, h)
    else
      some (jI 0, h)
def y_X0_hasKind : mM := (yX0_hasKind, cX0_hasKind, 2, (some .boolean))
def B_X0_hasKind : List (Nat × List mI) := [(16, [(.iconst 0, 1, [], [0])]), (17, [(.ireturn, 1, [], [])])]
def S_X0_hasKind_0 : List mI := [(.iload_n 1, 1, [1], []), (.ifCond .lt 15, 3, [16], []), (.iload_n 1, 1, [1], []), (.aload_n 0, 1, [0], []), (.getfield 31, 3, [0, 1, 0, 4], []), (.if_icmp .ge 7, 3, [16], []), (.iconst 1, 1, [], [1]), (.goto 4, 3, [17], [])]
theorem lb_X0_hasKind : B_X0_hasKind.all (fun b => lst y_X0_hasKind.2.1 0 y_X0_hasKind.2.2.1 false b.1 b.2) = true := by decide +kernel
theorem ls_X0_hasKind_0 : lst y_X0_hasKind.2.1 0 y_X0_hasKind.2.2.1 false 0 S_X0_hasKind_0 = true := by decide +kernel
def C_X0_hasKind (N : Nat) : Nat → List Value → mH → (Option Value → mH → Option (Int32 × mH)) → Option (Int32 × mH) := fun j as g k => none
theorem co_X0_hasKind (N : Nat) (q : Int32 × mH) : clOK 4 q (C_X0_hasKind N) := by
  intro j as g k e
  cases e
set_option maxRecDepth 100000 in
theorem m_X0_hasKind (N : Nat) {a0 : Nat} {x1 : Int32} {h : mH} {q : Int32 × mH} (hf : f_X0_hasKind N a0 x1 h = some q) : MM y_X0_hasKind 4 [.ref a0, .int x1] h (some (.int q.1)) q.2 := by
  refine MM.of (mFx (j := 3) rfl).2.2.2.1 (Nat.le_of_ble_eq_true rfl) (fun X => ?_)
  refine ev_ok (o := 0) (ini := false) (Cl := C_X0_hasKind N) (Rc := RcZ) (B := B_X0_hasKind) (K := fun pc ls st g => none) rfl (fun e => by cases e) (by decide) (rcZ_ok rfl) ?_ (co_X0_hasKind N q) lb_X0_hasKind 3000 0 S_X0_hasKind_0 _ _ h ls_X0_hasKind_0 hf
  intro pc ls st g e
  cases e
def f_X0_hasBand (N : Nat) (a0 : Nat) (x1 : Int32) (h : mH) : Option (Int32 × mH) :=
  if x1 < 0 then
    some (jI 0, h)
  else
    (gI h 0 a0 2).bind fun v1 =>
    if x1 < v1 then
      some (jI 1, h)
    else
      some (jI 0, h)
def y_X0_hasBand : mM := (yX0_hasBand, cX0_hasBand, 2, (some .boolean))
def B_X0_hasBand : List (Nat × List mI) := [(16, [(.iconst 0, 1, [], [0])]), (17, [(.ireturn, 1, [], [])])]
def S_X0_hasBand_0 : List mI := [(.iload_n 1, 1, [1], []), (.ifCond .lt 15, 3, [16], []), (.iload_n 1, 1, [1], []), (.aload_n 0, 1, [0], []), (.getfield 34, 3, [0, 2, 0, 7], []), (.if_icmp .ge 7, 3, [16], []), (.iconst 1, 1, [], [1]), (.goto 4, 3, [17], [])]
theorem lb_X0_hasBand : B_X0_hasBand.all (fun b => lst y_X0_hasBand.2.1 0 y_X0_hasBand.2.2.1 false b.1 b.2) = true := by decide +kernel
theorem ls_X0_hasBand_0 : lst y_X0_hasBand.2.1 0 y_X0_hasBand.2.2.1 false 0 S_X0_hasBand_0 = true := by decide +kernel
def C_X0_hasBand (N : Nat) : Nat → List Value → mH → (Option Value → mH → Option (Int32 × mH)) → Option (Int32 × mH) := fun j as g k => none
theorem co_X0_hasBand (N : Nat) (q : Int32 × mH) : clOK 4 q (C_X0_hasBand N) := by
  intro j as g k e
  cases e
set_option maxRecDepth 100000 in
theorem m_X0_hasBand (N : Nat) {a0 : Nat} {x1 : Int32} {h : mH} {q : Int32 × mH} (hf : f_X0_hasBand N a0 x1 h = some q) : MM y_X0_hasBand 4 [.ref a0, .int x1] h (some (.int q.1)) q.2 := by
  refine MM.of (mFx (j := 4) rfl).2.2.2.1 (Nat.le_of_ble_eq_true rfl) (fun X => ?_)
  refine ev_ok (o := 0) (ini := false) (Cl := C_X0_hasBand N) (Rc := RcZ) (B := B_X0_hasBand) (K := fun pc ls st g => none) rfl (fun e => by cases e) (by decide) (rcZ_ok rfl) ?_ (co_X0_hasBand N q) lb_X0_hasBand 3000 0 S_X0_hasBand_0 _ _ h ls_X0_hasBand_0 hf
  intro pc ls st g e
  cases e
def f_X0_hasStake (N : Nat) (a0 : Nat) (x1 : Int32) (h : mH) : Option (Int32 × mH) :=
  if x1 < 0 then
    some (jI 0, h)
  else
    (gI h 0 a0 0).bind fun v1 =>
    if x1 < v1 then
      some (jI 1, h)
    else
      some (jI 0, h)
def y_X0_hasStake : mM := (yX0_hasStake, cX0_hasStake, 2, (some .boolean))
def B_X0_hasStake : List (Nat × List mI) := [(16, [(.iconst 0, 1, [], [0])]), (17, [(.ireturn, 1, [], [])])]
def S_X0_hasStake_0 : List mI := [(.iload_n 1, 1, [1], []), (.ifCond .lt 15, 3, [16], []), (.iload_n 1, 1, [1], []), (.aload_n 0, 1, [0], []), (.getfield 28, 3, [0, 0, 0, 0], []), (.if_icmp .ge 7, 3, [16], []), (.iconst 1, 1, [], [1]), (.goto 4, 3, [17], [])]
theorem lb_X0_hasStake : B_X0_hasStake.all (fun b => lst y_X0_hasStake.2.1 0 y_X0_hasStake.2.2.1 false b.1 b.2) = true := by decide +kernel
theorem ls_X0_hasStake_0 : lst y_X0_hasStake.2.1 0 y_X0_hasStake.2.2.1 false 0 S_X0_hasStake_0 = true := by decide +kernel
def C_X0_hasStake (N : Nat) : Nat → List Value → mH → (Option Value → mH → Option (Int32 × mH)) → Option (Int32 × mH) := fun j as g k => none
theorem co_X0_hasStake (N : Nat) (q : Int32 × mH) : clOK 4 q (C_X0_hasStake N) := by
  intro j as g k e
  cases e
set_option maxRecDepth 100000 in
theorem m_X0_hasStake (N : Nat) {a0 : Nat} {x1 : Int32} {h : mH} {q : Int32 × mH} (hf : f_X0_hasStake N a0 x1 h = some q) : MM y_X0_hasStake 4 [.ref a0, .int x1] h (some (.int q.1)) q.2 := by
  refine MM.of (mFx (j := 5) rfl).2.2.2.1 (Nat.le_of_ble_eq_true rfl) (fun X => ?_)
  refine ev_ok (o := 0) (ini := false) (Cl := C_X0_hasStake N) (Rc := RcZ) (B := B_X0_hasStake) (K := fun pc ls st g => none) rfl (fun e => by cases e) (by decide) (rcZ_ok rfl) ?_ (co_X0_hasStake N q) lb_X0_hasStake 3000 0 S_X0_hasStake_0 _ _ h ls_X0_hasStake_0 hf
  intro pc ls st g e
  cases e
def f_X0_ofBand (N : Nat) (a0 : Nat) (x1 : Int32) (x2 : Int32) (h : mH) : Option (Int32 × mH) :=
  let w1 := (x1 * (jI 11)) + x2
  if w1 < 0 then
    some (jI 0, h)
  else
    (gR h 0 a0 8).bind fun v2 =>
    (lnA h v2).bind fun v3 =>
    if w1 < v3 then
      (gR h 0 a0 8).bind fun v4 =>
      (ldI 0 h v4 w1).bind fun v5 =>
      some (v5, h)
    else
      some (jI 0, h)
def y_X0_ofBand : mM := (yX0_ofBand, cX0_ofBand, 4, (some .int))
def B_X0_ofBand : List (Nat × List mI) := [(29, [(.iconst 0, 1, [], [0])]), (30, [(.ireturn, 1, [], [])])]
def S_X0_ofBand_0 : List mI := [(.iload_n 1, 1, [1], []), (.bipush 11, 2, [], [11]), (.imul, 1, [], []), (.iload_n 2, 1, [2], []), (.iadd, 1, [], []), (.istore_n 3, 1, [3], []), (.iload_n 3, 1, [3], []), (.ifCond .lt 21, 3, [29], []), (.iload_n 3, 1, [3], []), (.aload_n 0, 1, [0], []), (.getfield 15, 3, [0, 8, 2, 26], []), (.arraylength, 1, [0], []), (.if_icmp .ge 12, 3, [29], []), (.aload_n 0, 1, [0], []), (.getfield 15, 3, [0, 8, 2, 26], []), (.iload_n 3, 1, [3], []), (.iaload, 1, [0], []), (.goto 4, 3, [30], [])]
theorem lb_X0_ofBand : B_X0_ofBand.all (fun b => lst y_X0_ofBand.2.1 0 y_X0_ofBand.2.2.1 false b.1 b.2) = true := by decide +kernel
theorem ls_X0_ofBand_0 : lst y_X0_ofBand.2.1 0 y_X0_ofBand.2.2.1 false 0 S_X0_ofBand_0 = true := by decide +kernel
def C_X0_ofBand (N : Nat) : Nat → List Value → mH → (Option Value → mH → Option (Int32 × mH)) → Option (Int32 × mH) := fun j as g k => none
theorem co_X0_ofBand (N : Nat) (q : Int32 × mH) : clOK 4 q (C_X0_ofBand N) := by
  intro j as g k e
  cases e
set_option maxRecDepth 100000 in
theorem m_X0_ofBand (N : Nat) {a0 : Nat} {x1 : Int32} {x2 : Int32} {h : mH} {q : Int32 × mH} (hf : f_X0_ofBand N a0 x1 x2 h = some q) : MM y_X0_ofBand 4 [.ref a0, .int x1, .int x2] h (some (.int q.1)) q.2 := by
  refine MM.of (mFx (j := 9) rfl).2.2.2.1 (Nat.le_of_ble_eq_true rfl) (fun X => ?_)
  refine ev_ok (o := 0) (ini := false) (Cl := C_X0_ofBand N) (Rc := RcI) (B := B_X0_ofBand) (K := fun pc ls st g => none) rfl (fun e => by cases e) (by decide) (rcI_ok rfl) ?_ (co_X0_ofBand N q) lb_X0_ofBand 3000 0 S_X0_ofBand_0 _ _ h ls_X0_ofBand_0 hf
  intro pc ls st g e
  cases e
def f_X0_hasWeaver (N : Nat) (a0 : Nat) (x1 : Int32) (x2 : Int32) (h : mH) : Option (Int32 × mH) :=
  (rcv h 0 a0).bind fun _ =>
  (f_X0_hasBand N a0 x1 h).bind fun p1 =>
  if p1.1 = 0 then
    some (jI 0, p1.2)
  else
    if x2 < 0 then
      some (jI 0, p1.2)
    else
      (rcv p1.2 0 a0).bind fun _ =>
      (f_X0_ofBand N a0 x1 (jI 0) p1.2).bind fun p2 =>
      if x2 < p2.1 then
        some (jI 1, p2.2)
      else
        some (jI 0, p2.2)
def y_X0_hasWeaver : mM := (yX0_hasWeaver, cX0_hasWeaver, 3, (some .boolean))
def B_X0_hasWeaver : List (Nat × List mI) := [(26, [(.iconst 0, 1, [], [0])]), (27, [(.ireturn, 1, [], [])])]
def S_X0_hasWeaver_0 : List mI := [(.aload_n 0, 1, [0], []), (.iload_n 1, 1, [1], []), (.invokevirtual 49, 3, [0, 4, 1, 0, 50], []), (.ifCond .eq 21, 3, [26], []), (.iload_n 2, 1, [2], []), (.ifCond .lt 17, 3, [26], []), (.iload_n 2, 1, [2], []), (.aload_n 0, 1, [0], []), (.iload_n 1, 1, [1], []), (.iconst 0, 1, [], [0]), (.invokevirtual 53, 3, [0, 9, 2, 0, 33], []), (.if_icmp .ge 7, 3, [26], []), (.iconst 1, 1, [], [1]), (.goto 4, 3, [27], [])]
theorem lb_X0_hasWeaver : B_X0_hasWeaver.all (fun b => lst y_X0_hasWeaver.2.1 0 y_X0_hasWeaver.2.2.1 false b.1 b.2) = true := by decide +kernel
theorem ls_X0_hasWeaver_0 : lst y_X0_hasWeaver.2.1 0 y_X0_hasWeaver.2.2.1 false 0 S_X0_hasWeaver_0 = true := by decide +kernel
def C_X0_hasWeaver (N : Nat) : Nat → List Value → mH → (Option Value → mH → Option (Int32 × mH)) → Option (Int32 × mH) := fun j as g k => kb j 4 (pr1 as fun b0 as => pp1 as fun b1 as => pe as ((f_X0_hasBand N b0 b1 g).bind fun p => k (some (.int p.1)) p.2)) (kb j 9 (pr1 as fun b0 as => pp1 as fun b1 as => pp1 as fun b2 as => pe as ((f_X0_ofBand N b0 b1 b2 g).bind fun p => k (some (.int p.1)) p.2)) (none))
theorem co_X0_hasWeaver (N : Nat) (q : Int32 × mH) : clOK 5 q (C_X0_hasWeaver N) := by
  intro j as g k e
  rcases kb_s e with ⟨rfl, e⟩ | e
  · obtain ⟨b0, r0, q0, f0⟩ := pr1_s e
    obtain ⟨b1, r1, q1, f1⟩ := pp1_s f0
    obtain ⟨qe, fe⟩ := pe_s f1
    obtain ⟨p, e1, e2⟩ := bnd_s fe
    subst qe
    subst q1
    subst q0
    exact ⟨_, _, _, _, 4, rfl, (by decide), m_X0_hasBand N e1, e2⟩
  rcases kb_s e with ⟨rfl, e⟩ | e
  · obtain ⟨b0, r0, q0, f0⟩ := pr1_s e
    obtain ⟨b1, r1, q1, f1⟩ := pp1_s f0
    obtain ⟨b2, r2, q2, f2⟩ := pp1_s f1
    obtain ⟨qe, fe⟩ := pe_s f2
    obtain ⟨p, e1, e2⟩ := bnd_s fe
    subst qe
    subst q2
    subst q1
    subst q0
    exact ⟨_, _, _, _, 4, rfl, (by decide), m_X0_ofBand N e1, e2⟩
  cases e
set_option maxRecDepth 100000 in
theorem m_X0_hasWeaver (N : Nat) {a0 : Nat} {x1 : Int32} {x2 : Int32} {h : mH} {q : Int32 × mH} (hf : f_X0_hasWeaver N a0 x1 x2 h = some q) : MM y_X0_hasWeaver 5 [.ref a0, .int x1, .int x2] h (some (.int q.1)) q.2 := by
  refine MM.of (mFx (j := 6) rfl).2.2.2.1 (Nat.le_of_ble_eq_true rfl) (fun X => ?_)
  refine ev_ok (o := 0) (ini := false) (Cl := C_X0_hasWeaver N) (Rc := RcZ) (B := B_X0_hasWeaver) (K := fun pc ls st g => none) rfl (fun e => by cases e) (by decide) (rcZ_ok rfl) ?_ (co_X0_hasWeaver N q) lb_X0_hasWeaver 3000 0 S_X0_hasWeaver_0 _ _ h ls_X0_hasWeaver_0 hf
  intro pc ls st g e
  cases e
def f_X0_crossingsOf (N : Nat) (a0 : Nat) (x1 : Int32) (h : mH) : Option (Int32 × mH) :=
  (rcv h 0 a0).bind fun _ =>
  (f_X0_ofBand N a0 x1 (jI 3) h).bind fun p1 =>
  (gI p1.2 0 a0 0).bind fun v2 =>
  some (p1.1 * v2, p1.2)
def y_X0_crossingsOf : mM := (yX0_crossingsOf, cX0_crossingsOf, 2, (some .int))
def B_X0_crossingsOf : List (Nat × List mI) := []
def S_X0_crossingsOf_0 : List mI := [(.aload_n 0, 1, [0], []), (.iload_n 1, 1, [1], []), (.iconst 3, 1, [], [3]), (.invokevirtual 53, 3, [0, 9, 2, 0, 33], []), (.aload_n 0, 1, [0], []), (.getfield 28, 3, [0, 0, 0, 0], []), (.imul, 1, [], []), (.ireturn, 1, [], [])]
theorem lb_X0_crossingsOf : B_X0_crossingsOf.all (fun b => lst y_X0_crossingsOf.2.1 0 y_X0_crossingsOf.2.2.1 false b.1 b.2) = true := by decide +kernel
theorem ls_X0_crossingsOf_0 : lst y_X0_crossingsOf.2.1 0 y_X0_crossingsOf.2.2.1 false 0 S_X0_crossingsOf_0 = true := by decide +kernel
def C_X0_crossingsOf (N : Nat) : Nat → List Value → mH → (Option Value → mH → Option (Int32 × mH)) → Option (Int32 × mH) := fun j as g k => kb j 9 (pr1 as fun b0 as => pp1 as fun b1 as => pp1 as fun b2 as => pe as ((f_X0_ofBand N b0 b1 b2 g).bind fun p => k (some (.int p.1)) p.2)) (none)
theorem co_X0_crossingsOf (N : Nat) (q : Int32 × mH) : clOK 5 q (C_X0_crossingsOf N) := by
  intro j as g k e
  rcases kb_s e with ⟨rfl, e⟩ | e
  · obtain ⟨b0, r0, q0, f0⟩ := pr1_s e
    obtain ⟨b1, r1, q1, f1⟩ := pp1_s f0
    obtain ⟨b2, r2, q2, f2⟩ := pp1_s f1
    obtain ⟨qe, fe⟩ := pe_s f2
    obtain ⟨p, e1, e2⟩ := bnd_s fe
    subst qe
    subst q2
    subst q1
    subst q0
    exact ⟨_, _, _, _, 4, rfl, (by decide), m_X0_ofBand N e1, e2⟩
  cases e
set_option maxRecDepth 100000 in
theorem m_X0_crossingsOf (N : Nat) {a0 : Nat} {x1 : Int32} {h : mH} {q : Int32 × mH} (hf : f_X0_crossingsOf N a0 x1 h = some q) : MM y_X0_crossingsOf 5 [.ref a0, .int x1] h (some (.int q.1)) q.2 := by
  refine MM.of (mFx (j := 14) rfl).2.2.2.1 (Nat.le_of_ble_eq_true rfl) (fun X => ?_)
  refine ev_ok (o := 0) (ini := false) (Cl := C_X0_crossingsOf N) (Rc := RcI) (B := B_X0_crossingsOf) (K := fun pc ls st g => none) rfl (fun e => by cases e) (by decide) (rcI_ok rfl) ?_ (co_X0_crossingsOf N q) lb_X0_crossingsOf 3000 0 S_X0_crossingsOf_0 _ _ h ls_X0_crossingsOf_0 hf
  intro pc ls st g e
  cases e
def f_X0_hasCrossing (N : Nat) (a0 : Nat) (x1 : Int32) (x2 : Int32) (x3 : Int32) (h : mH) : Option (Int32 × mH) :=
  (rcv h 0 a0).bind fun _ =>
  (f_X0_hasWeaver N a0 x1 x2 h).bind fun p1 =>
  if p1.1 = 0 then
    some (jI 0, p1.2)
  else
    if x3 < 0 then
      some (jI 0, p1.2)
    else
      (rcv p1.2 0 a0).bind fun _ =>
      (f_X0_crossingsOf N a0 x1 p1.2).bind fun p2 =>
      if x3 < p2.1 then
        some (jI 1, p2.2)
      else
        some (jI 0, p2.2)
def y_X0_hasCrossing : mM := (yX0_hasCrossing, cX0_hasCrossing, 4, (some .boolean))
def B_X0_hasCrossing : List (Nat × List mI) := [(26, [(.iconst 0, 1, [], [0])]), (27, [(.ireturn, 1, [], [])])]
def S_X0_hasCrossing_0 : List mI := [(.aload_n 0, 1, [0], []), (.iload_n 1, 1, [1], []), (.iload_n 2, 1, [2], []), (.invokevirtual 57, 3, [0, 6, 2, 0, 55], []), (.ifCond .eq 20, 3, [26], []), (.iload_n 3, 1, [3], []), (.ifCond .lt 16, 3, [26], []), (.iload_n 3, 1, [3], []), (.aload_n 0, 1, [0], []), (.iload_n 1, 1, [1], []), (.invokevirtual 61, 3, [0, 14, 1, 0, 56], []), (.if_icmp .ge 7, 3, [26], []), (.iconst 1, 1, [], [1]), (.goto 4, 3, [27], [])]
theorem lb_X0_hasCrossing : B_X0_hasCrossing.all (fun b => lst y_X0_hasCrossing.2.1 0 y_X0_hasCrossing.2.2.1 false b.1 b.2) = true := by decide +kernel
theorem ls_X0_hasCrossing_0 : lst y_X0_hasCrossing.2.1 0 y_X0_hasCrossing.2.2.1 false 0 S_X0_hasCrossing_0 = true := by decide +kernel
def C_X0_hasCrossing (N : Nat) : Nat → List Value → mH → (Option Value → mH → Option (Int32 × mH)) → Option (Int32 × mH) := fun j as g k => kb j 6 (pr1 as fun b0 as => pp1 as fun b1 as => pp1 as fun b2 as => pe as ((f_X0_hasWeaver N b0 b1 b2 g).bind fun p => k (some (.int p.1)) p.2)) (kb j 14 (pr1 as fun b0 as => pp1 as fun b1 as => pe as ((f_X0_crossingsOf N b0 b1 g).bind fun p => k (some (.int p.1)) p.2)) (none))
theorem co_X0_hasCrossing (N : Nat) (q : Int32 × mH) : clOK 6 q (C_X0_hasCrossing N) := by
  intro j as g k e
  rcases kb_s e with ⟨rfl, e⟩ | e
  · obtain ⟨b0, r0, q0, f0⟩ := pr1_s e
    obtain ⟨b1, r1, q1, f1⟩ := pp1_s f0
    obtain ⟨b2, r2, q2, f2⟩ := pp1_s f1
    obtain ⟨qe, fe⟩ := pe_s f2
    obtain ⟨p, e1, e2⟩ := bnd_s fe
    subst qe
    subst q2
    subst q1
    subst q0
    exact ⟨_, _, _, _, 5, rfl, (by decide), m_X0_hasWeaver N e1, e2⟩
  rcases kb_s e with ⟨rfl, e⟩ | e
  · obtain ⟨b0, r0, q0, f0⟩ := pr1_s e
    obtain ⟨b1, r1, q1, f1⟩ := pp1_s f0
    obtain ⟨qe, fe⟩ := pe_s f1
    obtain ⟨p, e1, e2⟩ := bnd_s fe
    subst qe
    subst q1
    subst q0
    exact ⟨_, _, _, _, 5, rfl, (by decide), m_X0_crossingsOf N e1, e2⟩
  cases e
set_option maxRecDepth 100000 in
theorem m_X0_hasCrossing (N : Nat) {a0 : Nat} {x1 : Int32} {x2 : Int32} {x3 : Int32} {h : mH} {q : Int32 × mH} (hf : f_X0_hasCrossing N a0 x1 x2 x3 h = some q) : MM y_X0_hasCrossing 6 [.ref a0, .int x1, .int x2, .int x3] h (some (.int q.1)) q.2 := by
  refine MM.of (mFx (j := 7) rfl).2.2.2.1 (Nat.le_of_ble_eq_true rfl) (fun X => ?_)
  refine ev_ok (o := 0) (ini := false) (Cl := C_X0_hasCrossing N) (Rc := RcZ) (B := B_X0_hasCrossing) (K := fun pc ls st g => none) rfl (fun e => by cases e) (by decide) (rcZ_ok rfl) ?_ (co_X0_hasCrossing N q) lb_X0_hasCrossing 3000 0 S_X0_hasCrossing_0 _ _ h ls_X0_hasCrossing_0 hf
  intro pc ls st g e
  cases e
def f_X0_ofKind (N : Nat) (a0 : Nat) (x1 : Int32) (x2 : Int32) (h : mH) : Option (Int32 × mH) :=
  let w1 := (x1 * (jI 4)) + x2
  if w1 < 0 then
    some (jI 0, h)
  else
    (gR h 0 a0 7).bind fun v2 =>
    (lnA h v2).bind fun v3 =>
    if w1 < v3 then
      (gR h 0 a0 7).bind fun v4 =>
      (ldI 0 h v4 w1).bind fun v5 =>
      some (v5, h)
    else
      some (jI 0, h)
def y_X0_ofKind : mM := (yX0_ofKind, cX0_ofKind, 4, (some .int))
def B_X0_ofKind : List (Nat × List mI) := [(28, [(.iconst 0, 1, [], [0])]), (29, [(.ireturn, 1, [], [])])]
def S_X0_ofKind_0 : List mI := [(.iload_n 1, 1, [1], []), (.iconst 4, 1, [], [4]), (.imul, 1, [], []), (.iload_n 2, 1, [2], []), (.iadd, 1, [], []), (.istore_n 3, 1, [3], []), (.iload_n 3, 1, [3], []), (.ifCond .lt 21, 3, [28], []), (.iload_n 3, 1, [3], []), (.aload_n 0, 1, [0], []), (.getfield 11, 3, [0, 7, 2, 24], []), (.arraylength, 1, [0], []), (.if_icmp .ge 12, 3, [28], []), (.aload_n 0, 1, [0], []), (.getfield 11, 3, [0, 7, 2, 24], []), (.iload_n 3, 1, [3], []), (.iaload, 1, [0], []), (.goto 4, 3, [29], [])]
theorem lb_X0_ofKind : B_X0_ofKind.all (fun b => lst y_X0_ofKind.2.1 0 y_X0_ofKind.2.2.1 false b.1 b.2) = true := by decide +kernel
theorem ls_X0_ofKind_0 : lst y_X0_ofKind.2.1 0 y_X0_ofKind.2.2.1 false 0 S_X0_ofKind_0 = true := by decide +kernel
def C_X0_ofKind (N : Nat) : Nat → List Value → mH → (Option Value → mH → Option (Int32 × mH)) → Option (Int32 × mH) := fun j as g k => none
theorem co_X0_ofKind (N : Nat) (q : Int32 × mH) : clOK 4 q (C_X0_ofKind N) := by
  intro j as g k e
  cases e
set_option maxRecDepth 100000 in
theorem m_X0_ofKind (N : Nat) {a0 : Nat} {x1 : Int32} {x2 : Int32} {h : mH} {q : Int32 × mH} (hf : f_X0_ofKind N a0 x1 x2 h = some q) : MM y_X0_ofKind 4 [.ref a0, .int x1, .int x2] h (some (.int q.1)) q.2 := by
  refine MM.of (mFx (j := 8) rfl).2.2.2.1 (Nat.le_of_ble_eq_true rfl) (fun X => ?_)
  refine ev_ok (o := 0) (ini := false) (Cl := C_X0_ofKind N) (Rc := RcI) (B := B_X0_ofKind) (K := fun pc ls st g => none) rfl (fun e => by cases e) (by decide) (rcI_ok rfl) ?_ (co_X0_ofKind N q) lb_X0_ofKind 3000 0 S_X0_ofKind_0 _ _ h ls_X0_ofKind_0 hf
  intro pc ls st g e
  cases e
def f_X0_kindOf (N : Nat) (a0 : Nat) (x1 : Int32) (x2 : Int32) (h : mH) : Option (Int32 × mH) :=
  (rcv h 0 a0).bind fun _ =>
  (f_X0_ofBand N a0 x1 ((jI 7) + x2) h).bind fun p1 =>
  some (p1.1, p1.2)
def y_X0_kindOf : mM := (yX0_kindOf, cX0_kindOf, 3, (some .int))
def B_X0_kindOf : List (Nat × List mI) := []
def S_X0_kindOf_0 : List mI := [(.aload_n 0, 1, [0], []), (.iload_n 1, 1, [1], []), (.bipush 7, 2, [], [7]), (.iload_n 2, 1, [2], []), (.iadd, 1, [], []), (.invokevirtual 53, 3, [0, 9, 2, 0, 33], []), (.ireturn, 1, [], [])]
theorem lb_X0_kindOf : B_X0_kindOf.all (fun b => lst y_X0_kindOf.2.1 0 y_X0_kindOf.2.2.1 false b.1 b.2) = true := by decide +kernel
theorem ls_X0_kindOf_0 : lst y_X0_kindOf.2.1 0 y_X0_kindOf.2.2.1 false 0 S_X0_kindOf_0 = true := by decide +kernel
def C_X0_kindOf (N : Nat) : Nat → List Value → mH → (Option Value → mH → Option (Int32 × mH)) → Option (Int32 × mH) := fun j as g k => kb j 9 (pr1 as fun b0 as => pp1 as fun b1 as => pp1 as fun b2 as => pe as ((f_X0_ofBand N b0 b1 b2 g).bind fun p => k (some (.int p.1)) p.2)) (none)
theorem co_X0_kindOf (N : Nat) (q : Int32 × mH) : clOK 5 q (C_X0_kindOf N) := by
  intro j as g k e
  rcases kb_s e with ⟨rfl, e⟩ | e
  · obtain ⟨b0, r0, q0, f0⟩ := pr1_s e
    obtain ⟨b1, r1, q1, f1⟩ := pp1_s f0
    obtain ⟨b2, r2, q2, f2⟩ := pp1_s f1
    obtain ⟨qe, fe⟩ := pe_s f2
    obtain ⟨p, e1, e2⟩ := bnd_s fe
    subst qe
    subst q2
    subst q1
    subst q0
    exact ⟨_, _, _, _, 4, rfl, (by decide), m_X0_ofBand N e1, e2⟩
  cases e
set_option maxRecDepth 100000 in
theorem m_X0_kindOf (N : Nat) {a0 : Nat} {x1 : Int32} {x2 : Int32} {h : mH} {q : Int32 × mH} (hf : f_X0_kindOf N a0 x1 x2 h = some q) : MM y_X0_kindOf 5 [.ref a0, .int x1, .int x2] h (some (.int q.1)) q.2 := by
  refine MM.of (mFx (j := 10) rfl).2.2.2.1 (Nat.le_of_ble_eq_true rfl) (fun X => ?_)
  refine ev_ok (o := 0) (ini := false) (Cl := C_X0_kindOf N) (Rc := RcI) (B := B_X0_kindOf) (K := fun pc ls st g => none) rfl (fun e => by cases e) (by decide) (rcI_ok rfl) ?_ (co_X0_kindOf N q) lb_X0_kindOf 3000 0 S_X0_kindOf_0 _ _ h ls_X0_kindOf_0 hf
  intro pc ls st g e
  cases e
def f_X0_ring (N : Nat) (a0 : Nat) (h : mH) : Option (Int32 × mH) :=
  (gI h 0 a0 0).bind fun v1 =>
  some (iMax (jI 1) v1, h)
def y_X0_ring : mM := (yX0_ring, cX0_ring, 1, (some .int))
def B_X0_ring : List (Nat × List mI) := []
def S_X0_ring_0 : List mI := [(.iconst 1, 1, [], [1]), (.aload_n 0, 1, [0], []), (.getfield 28, 3, [0, 0, 0, 0], []), (.invokestatic 65, 3, [6, 0, 0, 0, 16], []), (.ireturn, 1, [], [])]
theorem lb_X0_ring : B_X0_ring.all (fun b => lst y_X0_ring.2.1 0 y_X0_ring.2.2.1 false b.1 b.2) = true := by decide +kernel
theorem ls_X0_ring_0 : lst y_X0_ring.2.1 0 y_X0_ring.2.2.1 false 0 S_X0_ring_0 = true := by decide +kernel
def C_X0_ring (N : Nat) : Nat → List Value → mH → (Option Value → mH → Option (Int32 × mH)) → Option (Int32 × mH) := fun j as g k => none
theorem co_X0_ring (N : Nat) (q : Int32 × mH) : clOK 4 q (C_X0_ring N) := by
  intro j as g k e
  cases e
set_option maxRecDepth 100000 in
theorem m_X0_ring (N : Nat) {a0 : Nat} {h : mH} {q : Int32 × mH} (hf : f_X0_ring N a0 h = some q) : MM y_X0_ring 4 [.ref a0] h (some (.int q.1)) q.2 := by
  refine MM.of (mFx (j := 11) rfl).2.2.2.1 (Nat.le_of_ble_eq_true rfl) (fun X => ?_)
  refine ev_ok (o := 0) (ini := false) (Cl := C_X0_ring N) (Rc := RcI) (B := B_X0_ring) (K := fun pc ls st g => none) rfl (fun e => by cases e) (by decide) (rcI_ok rfl) ?_ (co_X0_ring N q) lb_X0_ring 3000 0 S_X0_ring_0 _ _ h ls_X0_ring_0 hf
  intro pc ls st g e
  cases e
def f_X0_weaversOf (N : Nat) (a0 : Nat) (x1 : Int32) (h : mH) : Option (Int32 × mH) :=
  (rcv h 0 a0).bind fun _ =>
  (f_X0_ofBand N a0 x1 (jI 0) h).bind fun p1 =>
  some (iMax (jI 1) p1.1, p1.2)
def y_X0_weaversOf : mM := (yX0_weaversOf, cX0_weaversOf, 2, (some .int))
def B_X0_weaversOf : List (Nat × List mI) := []
def S_X0_weaversOf_0 : List mI := [(.iconst 1, 1, [], [1]), (.aload_n 0, 1, [0], []), (.iload_n 1, 1, [1], []), (.iconst 0, 1, [], [0]), (.invokevirtual 53, 3, [0, 9, 2, 0, 33], []), (.invokestatic 65, 3, [6, 0, 0, 0, 16], []), (.ireturn, 1, [], [])]
theorem lb_X0_weaversOf : B_X0_weaversOf.all (fun b => lst y_X0_weaversOf.2.1 0 y_X0_weaversOf.2.2.1 false b.1 b.2) = true := by decide +kernel
theorem ls_X0_weaversOf_0 : lst y_X0_weaversOf.2.1 0 y_X0_weaversOf.2.2.1 false 0 S_X0_weaversOf_0 = true := by decide +kernel
def C_X0_weaversOf (N : Nat) : Nat → List Value → mH → (Option Value → mH → Option (Int32 × mH)) → Option (Int32 × mH) := fun j as g k => kb j 9 (pr1 as fun b0 as => pp1 as fun b1 as => pp1 as fun b2 as => pe as ((f_X0_ofBand N b0 b1 b2 g).bind fun p => k (some (.int p.1)) p.2)) (none)
theorem co_X0_weaversOf (N : Nat) (q : Int32 × mH) : clOK 5 q (C_X0_weaversOf N) := by
  intro j as g k e
  rcases kb_s e with ⟨rfl, e⟩ | e
  · obtain ⟨b0, r0, q0, f0⟩ := pr1_s e
    obtain ⟨b1, r1, q1, f1⟩ := pp1_s f0
    obtain ⟨b2, r2, q2, f2⟩ := pp1_s f1
    obtain ⟨qe, fe⟩ := pe_s f2
    obtain ⟨p, e1, e2⟩ := bnd_s fe
    subst qe
    subst q2
    subst q1
    subst q0
    exact ⟨_, _, _, _, 4, rfl, (by decide), m_X0_ofBand N e1, e2⟩
  cases e
set_option maxRecDepth 100000 in
theorem m_X0_weaversOf (N : Nat) {a0 : Nat} {x1 : Int32} {h : mH} {q : Int32 × mH} (hf : f_X0_weaversOf N a0 x1 h = some q) : MM y_X0_weaversOf 5 [.ref a0, .int x1] h (some (.int q.1)) q.2 := by
  refine MM.of (mFx (j := 12) rfl).2.2.2.1 (Nat.le_of_ble_eq_true rfl) (fun X => ?_)
  refine ev_ok (o := 0) (ini := false) (Cl := C_X0_weaversOf N) (Rc := RcI) (B := B_X0_weaversOf) (K := fun pc ls st g => none) rfl (fun e => by cases e) (by decide) (rcI_ok rfl) ?_ (co_X0_weaversOf N q) lb_X0_weaversOf 3000 0 S_X0_weaversOf_0 _ _ h ls_X0_weaversOf_0 hf
  intro pc ls st g e
  cases e
def f_X0_periodOf (N : Nat) (a0 : Nat) (x1 : Int32) (h : mH) : Option (Int32 × mH) :=
  (rcv h 0 a0).bind fun _ =>
  (f_X0_ofBand N a0 x1 (jI 1) h).bind fun p1 =>
  (rcv p1.2 0 a0).bind fun _ =>
  (f_X0_ofBand N a0 x1 (jI 2) p1.2).bind fun p2 =>
  some (iMax (jI 1) (p1.1 + p2.1), p2.2)
def y_X0_periodOf : mM := (yX0_periodOf, cX0_periodOf, 2, (some .int))
def B_X0_periodOf : List (Nat × List mI) := []
def S_X0_periodOf_0 : List mI := [(.iconst 1, 1, [], [1]), (.aload_n 0, 1, [0], []), (.iload_n 1, 1, [1], []), (.iconst 1, 1, [], [1]), (.invokevirtual 53, 3, [0, 9, 2, 0, 33], []), (.aload_n 0, 1, [0], []), (.iload_n 1, 1, [1], []), (.iconst 2, 1, [], [2]), (.invokevirtual 53, 3, [0, 9, 2, 0, 33], []), (.iadd, 1, [], []), (.invokestatic 65, 3, [6, 0, 0, 0, 16], []), (.ireturn, 1, [], [])]
theorem lb_X0_periodOf : B_X0_periodOf.all (fun b => lst y_X0_periodOf.2.1 0 y_X0_periodOf.2.2.1 false b.1 b.2) = true := by decide +kernel
theorem ls_X0_periodOf_0 : lst y_X0_periodOf.2.1 0 y_X0_periodOf.2.2.1 false 0 S_X0_periodOf_0 = true := by decide +kernel
def C_X0_periodOf (N : Nat) : Nat → List Value → mH → (Option Value → mH → Option (Int32 × mH)) → Option (Int32 × mH) := fun j as g k => kb j 9 (pr1 as fun b0 as => pp1 as fun b1 as => pp1 as fun b2 as => pe as ((f_X0_ofBand N b0 b1 b2 g).bind fun p => k (some (.int p.1)) p.2)) (none)
theorem co_X0_periodOf (N : Nat) (q : Int32 × mH) : clOK 5 q (C_X0_periodOf N) := by
  intro j as g k e
  rcases kb_s e with ⟨rfl, e⟩ | e
  · obtain ⟨b0, r0, q0, f0⟩ := pr1_s e
    obtain ⟨b1, r1, q1, f1⟩ := pp1_s f0
    obtain ⟨b2, r2, q2, f2⟩ := pp1_s f1
    obtain ⟨qe, fe⟩ := pe_s f2
    obtain ⟨p, e1, e2⟩ := bnd_s fe
    subst qe
    subst q2
    subst q1
    subst q0
    exact ⟨_, _, _, _, 4, rfl, (by decide), m_X0_ofBand N e1, e2⟩
  cases e
set_option maxRecDepth 100000 in
theorem m_X0_periodOf (N : Nat) {a0 : Nat} {x1 : Int32} {h : mH} {q : Int32 × mH} (hf : f_X0_periodOf N a0 x1 h = some q) : MM y_X0_periodOf 5 [.ref a0, .int x1] h (some (.int q.1)) q.2 := by
  refine MM.of (mFx (j := 13) rfl).2.2.2.1 (Nat.le_of_ble_eq_true rfl) (fun X => ?_)
  refine ev_ok (o := 0) (ini := false) (Cl := C_X0_periodOf N) (Rc := RcI) (B := B_X0_periodOf) (K := fun pc ls st g => none) rfl (fun e => by cases e) (by decide) (rcI_ok rfl) ?_ (co_X0_periodOf N q) lb_X0_periodOf 3000 0 S_X0_periodOf_0 _ _ h ls_X0_periodOf_0 hf
  intro pc ls st g e
  cases e
def f_X0_rowsOf (N : Nat) (a0 : Nat) (x1 : Int32) (h : mH) : Option (Int32 × mH) :=
  (rcv h 0 a0).bind fun _ =>
  (f_X0_ofBand N a0 x1 (jI 0) h).bind fun p1 =>
  (rcv p1.2 0 a0).bind fun _ =>
  (f_X0_ofBand N a0 x1 (jI 3) p1.2).bind fun p2 =>
  some (p1.1 * p2.1, p2.2)
def y_X0_rowsOf : mM := (yX0_rowsOf, cX0_rowsOf, 2, (some .int))
def B_X0_rowsOf : List (Nat × List mI) := []
def S_X0_rowsOf_0 : List mI := [(.aload_n 0, 1, [0], []), (.iload_n 1, 1, [1], []), (.iconst 0, 1, [], [0]), (.invokevirtual 53, 3, [0, 9, 2, 0, 33], []), (.aload_n 0, 1, [0], []), (.iload_n 1, 1, [1], []), (.iconst 3, 1, [], [3]), (.invokevirtual 53, 3, [0, 9, 2, 0, 33], []), (.imul, 1, [], []), (.ireturn, 1, [], [])]
theorem lb_X0_rowsOf : B_X0_rowsOf.all (fun b => lst y_X0_rowsOf.2.1 0 y_X0_rowsOf.2.2.1 false b.1 b.2) = true := by decide +kernel
theorem ls_X0_rowsOf_0 : lst y_X0_rowsOf.2.1 0 y_X0_rowsOf.2.2.1 false 0 S_X0_rowsOf_0 = true := by decide +kernel
def C_X0_rowsOf (N : Nat) : Nat → List Value → mH → (Option Value → mH → Option (Int32 × mH)) → Option (Int32 × mH) := fun j as g k => kb j 9 (pr1 as fun b0 as => pp1 as fun b1 as => pp1 as fun b2 as => pe as ((f_X0_ofBand N b0 b1 b2 g).bind fun p => k (some (.int p.1)) p.2)) (none)
theorem co_X0_rowsOf (N : Nat) (q : Int32 × mH) : clOK 5 q (C_X0_rowsOf N) := by
  intro j as g k e
  rcases kb_s e with ⟨rfl, e⟩ | e
  · obtain ⟨b0, r0, q0, f0⟩ := pr1_s e
    obtain ⟨b1, r1, q1, f1⟩ := pp1_s f0
    obtain ⟨b2, r2, q2, f2⟩ := pp1_s f1
    obtain ⟨qe, fe⟩ := pe_s f2
    obtain ⟨p, e1, e2⟩ := bnd_s fe
    subst qe
    subst q2
    subst q1
    subst q0
    exact ⟨_, _, _, _, 4, rfl, (by decide), m_X0_ofBand N e1, e2⟩
  cases e
set_option maxRecDepth 100000 in
theorem m_X0_rowsOf (N : Nat) {a0 : Nat} {x1 : Int32} {h : mH} {q : Int32 × mH} (hf : f_X0_rowsOf N a0 x1 h = some q) : MM y_X0_rowsOf 5 [.ref a0, .int x1] h (some (.int q.1)) q.2 := by
  refine MM.of (mFx (j := 15) rfl).2.2.2.1 (Nat.le_of_ble_eq_true rfl) (fun X => ?_)
  refine ev_ok (o := 0) (ini := false) (Cl := C_X0_rowsOf N) (Rc := RcI) (B := B_X0_rowsOf) (K := fun pc ls st g => none) rfl (fun e => by cases e) (by decide) (rcI_ok rfl) ?_ (co_X0_rowsOf N q) lb_X0_rowsOf 3000 0 S_X0_rowsOf_0 _ _ h ls_X0_rowsOf_0 hf
  intro pc ls st g e
  cases e
def L_X0_slipsOfBand_4 (N : Nat) : Nat → Nat → Int32 → Int32 → Int32 → mH → Option (Int32 × mH)
  | 0, _, _, _, _, _ => none
  | n + 1, a0, x1, x2, x3, h =>
    (gI h 0 a0 3).bind fun v1 =>
    if x3 < v1 then
      (gR h 0 a0 9).bind fun v2 =>
      (ldI 0 h v2 (x3 * (jI 3))).bind fun v3 =>
      if v3 = x1 then
        let w4 := x2 + jI 1
        let w5 := x3 + jI 1
        L_X0_slipsOfBand_4 N n a0 x1 w4 w5 h
      else
        let w6 := x3 + jI 1
        L_X0_slipsOfBand_4 N n a0 x1 x2 w6 h
    else
      some (x2, h)
def f_X0_slipsOfBand (N : Nat) (a0 : Nat) (x1 : Int32) (h : mH) : Option (Int32 × mH) :=
  L_X0_slipsOfBand_4 N N a0 x1 (jI 0) (jI 0) h
def y_X0_slipsOfBand : mM := (yX0_slipsOfBand, cX0_slipsOfBand, 4, (some .int))
def B_X0_slipsOfBand : List (Nat × List mI) := [(27, [(.iinc 3 1, 3, [3], [1]), (.goto (-26), 3, [4], [])]), (33, [(.iload_n 2, 1, [2], []), (.ireturn, 1, [], [])])]
def S_X0_slipsOfBand_0 : List mI := [(.iconst 0, 1, [], [0]), (.istore_n 2, 1, [2], []), (.iconst 0, 1, [], [0]), (.istore_n 3, 1, [3], [])]
def S_X0_slipsOfBand_4 : List mI := [(.iload_n 3, 1, [3], []), (.aload_n 0, 1, [0], []), (.getfield 37, 3, [0, 3, 0, 11], []), (.if_icmp .ge 24, 3, [33], []), (.aload_n 0, 1, [0], []), (.getfield 18, 3, [0, 9, 2, 28], []), (.iload_n 3, 1, [3], []), (.iconst 3, 1, [], [3]), (.imul, 1, [], []), (.iaload, 1, [0], []), (.iload_n 1, 1, [1], []), (.if_icmp .ne 6, 3, [27], []), (.iinc 2 1, 3, [2], [1])]
theorem lb_X0_slipsOfBand : B_X0_slipsOfBand.all (fun b => lst y_X0_slipsOfBand.2.1 0 y_X0_slipsOfBand.2.2.1 false b.1 b.2) = true := by decide +kernel
theorem ls_X0_slipsOfBand_0 : lst y_X0_slipsOfBand.2.1 0 y_X0_slipsOfBand.2.2.1 false 0 S_X0_slipsOfBand_0 = true := by decide +kernel
theorem ls_X0_slipsOfBand_4 : lst y_X0_slipsOfBand.2.1 0 y_X0_slipsOfBand.2.2.1 false 4 S_X0_slipsOfBand_4 = true := by decide +kernel
def C_X0_slipsOfBand (N : Nat) : Nat → List Value → mH → (Option Value → mH → Option (Int32 × mH)) → Option (Int32 × mH) := fun j as g k => none
theorem co_X0_slipsOfBand (N : Nat) (q : Int32 × mH) : clOK 4 q (C_X0_slipsOfBand N) := by
  intro j as g k e
  cases e
set_option maxRecDepth 100000 in
theorem t_X0_slipsOfBand_4 {X : Nat × (Nat → Int32)} (N : Nat) {q : Int32 × mH} : ∀ (n : Nat) (a0 : Nat) (x1 : Int32) (x2 : Int32) (x3 : Int32) (h : mH), L_X0_slipsOfBand_4 N n a0 x1 x2 x3 h = some q → MW X y_X0_slipsOfBand 4 4 [(0, .ref a0), (1, .int x1), (2, .int x2), (3, .int x3)] [] h (some (.int q.1)) q.2 := by
  intro n
  induction n with
  | zero => intro a0 x1 x2 x3 h hf; cases hf
  | succ n ih =>
    intro a0 x1 x2 x3 h hf
    refine ev_ok (o := 0) (ini := false) (Cl := C_X0_slipsOfBand N) (Rc := RcI) (B := B_X0_slipsOfBand) (K := fun pc ls st g => kb pc 4 (lgr 0 ls fun a0 => lgi 1 ls fun x1 => lgi 2 ls fun x2 => lgi 3 ls fun x3 => pe st (L_X0_slipsOfBand_4 N n a0 x1 x2 x3 g)) (none)) rfl (fun e => by cases e) (by decide) (rcI_ok rfl) ?_ (co_X0_slipsOfBand N q) lb_X0_slipsOfBand 3000 4 S_X0_slipsOfBand_4 _ _ h ls_X0_slipsOfBand_4 hf
    intro pc ls st g e
    rcases kb_s e with ⟨rfl, e⟩ | e
    · obtain ⟨a0, e0, f0⟩ := lgr_s e
      obtain ⟨x1, e1, f1⟩ := lgi_s f0
      obtain ⟨x2, e2, f2⟩ := lgi_s f1
      obtain ⟨x3, e3, f3⟩ := lgi_s f2
      obtain ⟨qe, fe⟩ := pe_s f3
      subst qe
      exact MW.sub (List.forall_mem_cons.mpr ⟨lg_mem e0, List.forall_mem_cons.mpr ⟨lg_mem e1, List.forall_mem_cons.mpr ⟨lg_mem e2, List.forall_mem_cons.mpr ⟨lg_mem e3, fun _ h => absurd h List.not_mem_nil⟩⟩⟩⟩) (ih a0 x1 x2 x3 g fe)
    cases e
set_option maxRecDepth 100000 in
theorem m_X0_slipsOfBand (N : Nat) {a0 : Nat} {x1 : Int32} {h : mH} {q : Int32 × mH} (hf : f_X0_slipsOfBand N a0 x1 h = some q) : MM y_X0_slipsOfBand 4 [.ref a0, .int x1] h (some (.int q.1)) q.2 := by
  refine MM.of (mFx (j := 16) rfl).2.2.2.1 (Nat.le_of_ble_eq_true rfl) (fun X => ?_)
  refine ev_ok (o := 0) (ini := false) (Cl := C_X0_slipsOfBand N) (Rc := RcI) (B := B_X0_slipsOfBand) (K := fun pc ls st g => kb pc 4 (lgr 0 ls fun a0 => lgi 1 ls fun x1 => lgi 2 ls fun x2 => lgi 3 ls fun x3 => pe st (L_X0_slipsOfBand_4 N N a0 x1 x2 x3 g)) (none)) rfl (fun e => by cases e) (by decide) (rcI_ok rfl) ?_ (co_X0_slipsOfBand N q) lb_X0_slipsOfBand 3000 0 S_X0_slipsOfBand_0 _ _ h ls_X0_slipsOfBand_0 hf
  intro pc ls st g e
  rcases kb_s e with ⟨rfl, e⟩ | e
  · obtain ⟨a0, e0, f0⟩ := lgr_s e
    obtain ⟨x1, e1, f1⟩ := lgi_s f0
    obtain ⟨x2, e2, f2⟩ := lgi_s f1
    obtain ⟨x3, e3, f3⟩ := lgi_s f2
    obtain ⟨qe, fe⟩ := pe_s f3
    subst qe
    exact MW.sub (List.forall_mem_cons.mpr ⟨lg_mem e0, List.forall_mem_cons.mpr ⟨lg_mem e1, List.forall_mem_cons.mpr ⟨lg_mem e2, List.forall_mem_cons.mpr ⟨lg_mem e3, fun _ h => absurd h List.not_mem_nil⟩⟩⟩⟩) (t_X0_slipsOfBand_4 N N a0 x1 x2 x3 g fe)
  cases e
def L_X0_slipsAt_6 (N : Nat) : Nat → Nat → Int32 → Int32 → Int32 → Int32 → Int32 → mH → Option (Int32 × mH)
  | 0, _, _, _, _, _, _, _ => none
  | n + 1, a0, x1, x2, x3, x4, x5, h =>
    (gI h 0 a0 3).bind fun v1 =>
    if x5 < v1 then
      let w2 := x5 * (jI 3)
      (gR h 0 a0 9).bind fun v3 =>
      (ldI 0 h v3 w2).bind fun v4 =>
      if v4 = x1 then
        (gR h 0 a0 9).bind fun v5 =>
        (ldI 0 h v5 (w2 + (jI 1))).bind fun v6 =>
        if v6 = x2 then
          (gR h 0 a0 9).bind fun v7 =>
          (ldI 0 h v7 (w2 + (jI 2))).bind fun v8 =>
          if v8 = x3 then
            let w9 := x4 + jI 1
            let w10 := x5 + jI 1
            L_X0_slipsAt_6 N n a0 x1 x2 x3 w9 w10 h
          else
            let w11 := x5 + jI 1
            L_X0_slipsAt_6 N n a0 x1 x2 x3 x4 w11 h
        else
          let w12 := x5 + jI 1
          L_X0_slipsAt_6 N n a0 x1 x2 x3 x4 w12 h
      else
        let w13 := x5 + jI 1
        L_X0_slipsAt_6 N n a0 x1 x2 x3 x4 w13 h
    else
      some (x4, h)
def f_X0_slipsAt (N : Nat) (a0 : Nat) (x1 : Int32) (x2 : Int32) (x3 : Int32) (h : mH) : Option (Int32 × mH) :=
  L_X0_slipsAt_6 N N a0 x1 x2 x3 (jI 0) (jI 0) h
def y_X0_slipsAt : mM := (yX0_slipsAt, cX0_slipsAt, 7, (some .int))
def B_X0_slipsAt : List (Nat × List mI) := [(61, [(.iinc 5 1, 3, [5], [1]), (.goto (-58), 3, [6], [])]), (67, [(.iload 4, 2, [4], []), (.ireturn, 1, [], [])])]
def S_X0_slipsAt_0 : List mI := [(.iconst 0, 1, [], [0]), (.istore 4, 2, [4], []), (.iconst 0, 1, [], [0]), (.istore 5, 2, [5], [])]
def S_X0_slipsAt_6 : List mI := [(.iload 5, 2, [5], []), (.aload_n 0, 1, [0], []), (.getfield 37, 3, [0, 3, 0, 11], []), (.if_icmp .ge 55, 3, [67], []), (.iload 5, 2, [5], []), (.iconst 3, 1, [], [3]), (.imul, 1, [], []), (.istore 6, 2, [6], []), (.aload_n 0, 1, [0], []), (.getfield 18, 3, [0, 9, 2, 28], []), (.iload 6, 2, [6], []), (.iaload, 1, [0], []), (.iload_n 1, 1, [1], []), (.if_icmp .ne 32, 3, [61], []), (.aload_n 0, 1, [0], []), (.getfield 18, 3, [0, 9, 2, 28], []), (.iload 6, 2, [6], []), (.iconst 1, 1, [], [1]), (.iadd, 1, [], []), (.iaload, 1, [0], []), (.iload_n 2, 1, [2], []), (.if_icmp .ne 19, 3, [61], []), (.aload_n 0, 1, [0], []), (.getfield 18, 3, [0, 9, 2, 28], []), (.iload 6, 2, [6], []), (.iconst 2, 1, [], [2]), (.iadd, 1, [], []), (.iaload, 1, [0], []), (.iload_n 3, 1, [3], []), (.if_icmp .ne 6, 3, [61], []), (.iinc 4 1, 3, [4], [1])]
theorem lb_X0_slipsAt : B_X0_slipsAt.all (fun b => lst y_X0_slipsAt.2.1 0 y_X0_slipsAt.2.2.1 false b.1 b.2) = true := by decide +kernel
theorem ls_X0_slipsAt_0 : lst y_X0_slipsAt.2.1 0 y_X0_slipsAt.2.2.1 false 0 S_X0_slipsAt_0 = true := by decide +kernel
theorem ls_X0_slipsAt_6 : lst y_X0_slipsAt.2.1 0 y_X0_slipsAt.2.2.1 false 6 S_X0_slipsAt_6 = true := by decide +kernel
def C_X0_slipsAt (N : Nat) : Nat → List Value → mH → (Option Value → mH → Option (Int32 × mH)) → Option (Int32 × mH) := fun j as g k => none
theorem co_X0_slipsAt (N : Nat) (q : Int32 × mH) : clOK 4 q (C_X0_slipsAt N) := by
  intro j as g k e
  cases e
set_option maxRecDepth 100000 in
theorem t_X0_slipsAt_6 {X : Nat × (Nat → Int32)} (N : Nat) {q : Int32 × mH} : ∀ (n : Nat) (a0 : Nat) (x1 : Int32) (x2 : Int32) (x3 : Int32) (x4 : Int32) (x5 : Int32) (h : mH), L_X0_slipsAt_6 N n a0 x1 x2 x3 x4 x5 h = some q → MW X y_X0_slipsAt 4 6 [(0, .ref a0), (1, .int x1), (2, .int x2), (3, .int x3), (4, .int x4), (5, .int x5)] [] h (some (.int q.1)) q.2 := by
  intro n
  induction n with
  | zero => intro a0 x1 x2 x3 x4 x5 h hf; cases hf
  | succ n ih =>
    intro a0 x1 x2 x3 x4 x5 h hf
    refine ev_ok (o := 0) (ini := false) (Cl := C_X0_slipsAt N) (Rc := RcI) (B := B_X0_slipsAt) (K := fun pc ls st g => kb pc 6 (lgr 0 ls fun a0 => lgi 1 ls fun x1 => lgi 2 ls fun x2 => lgi 3 ls fun x3 => lgi 4 ls fun x4 => lgi 5 ls fun x5 => pe st (L_X0_slipsAt_6 N n a0 x1 x2 x3 x4 x5 g)) (none)) rfl (fun e => by cases e) (by decide) (rcI_ok rfl) ?_ (co_X0_slipsAt N q) lb_X0_slipsAt 3000 6 S_X0_slipsAt_6 _ _ h ls_X0_slipsAt_6 hf
    intro pc ls st g e
    rcases kb_s e with ⟨rfl, e⟩ | e
    · obtain ⟨a0, e0, f0⟩ := lgr_s e
      obtain ⟨x1, e1, f1⟩ := lgi_s f0
      obtain ⟨x2, e2, f2⟩ := lgi_s f1
      obtain ⟨x3, e3, f3⟩ := lgi_s f2
      obtain ⟨x4, e4, f4⟩ := lgi_s f3
      obtain ⟨x5, e5, f5⟩ := lgi_s f4
      obtain ⟨qe, fe⟩ := pe_s f5
      subst qe
      exact MW.sub (List.forall_mem_cons.mpr ⟨lg_mem e0, List.forall_mem_cons.mpr ⟨lg_mem e1, List.forall_mem_cons.mpr ⟨lg_mem e2, List.forall_mem_cons.mpr ⟨lg_mem e3, List.forall_mem_cons.mpr ⟨lg_mem e4, List.forall_mem_cons.mpr ⟨lg_mem e5, fun _ h => absurd h List.not_mem_nil⟩⟩⟩⟩⟩⟩) (ih a0 x1 x2 x3 x4 x5 g fe)
    cases e
set_option maxRecDepth 100000 in
theorem m_X0_slipsAt (N : Nat) {a0 : Nat} {x1 : Int32} {x2 : Int32} {x3 : Int32} {h : mH} {q : Int32 × mH} (hf : f_X0_slipsAt N a0 x1 x2 x3 h = some q) : MM y_X0_slipsAt 4 [.ref a0, .int x1, .int x2, .int x3] h (some (.int q.1)) q.2 := by
  refine MM.of (mFx (j := 17) rfl).2.2.2.1 (Nat.le_of_ble_eq_true rfl) (fun X => ?_)
  refine ev_ok (o := 0) (ini := false) (Cl := C_X0_slipsAt N) (Rc := RcI) (B := B_X0_slipsAt) (K := fun pc ls st g => kb pc 6 (lgr 0 ls fun a0 => lgi 1 ls fun x1 => lgi 2 ls fun x2 => lgi 3 ls fun x3 => lgi 4 ls fun x4 => lgi 5 ls fun x5 => pe st (L_X0_slipsAt_6 N N a0 x1 x2 x3 x4 x5 g)) (none)) rfl (fun e => by cases e) (by decide) (rcI_ok rfl) ?_ (co_X0_slipsAt N q) lb_X0_slipsAt 3000 0 S_X0_slipsAt_0 _ _ h ls_X0_slipsAt_0 hf
  intro pc ls st g e
  rcases kb_s e with ⟨rfl, e⟩ | e
  · obtain ⟨a0, e0, f0⟩ := lgr_s e
    obtain ⟨x1, e1, f1⟩ := lgi_s f0
    obtain ⟨x2, e2, f2⟩ := lgi_s f1
    obtain ⟨x3, e3, f3⟩ := lgi_s f2
    obtain ⟨x4, e4, f4⟩ := lgi_s f3
    obtain ⟨x5, e5, f5⟩ := lgi_s f4
    obtain ⟨qe, fe⟩ := pe_s f5
    subst qe
    exact MW.sub (List.forall_mem_cons.mpr ⟨lg_mem e0, List.forall_mem_cons.mpr ⟨lg_mem e1, List.forall_mem_cons.mpr ⟨lg_mem e2, List.forall_mem_cons.mpr ⟨lg_mem e3, List.forall_mem_cons.mpr ⟨lg_mem e4, List.forall_mem_cons.mpr ⟨lg_mem e5, fun _ h => absurd h List.not_mem_nil⟩⟩⟩⟩⟩⟩) (t_X0_slipsAt_6 N N a0 x1 x2 x3 x4 x5 g fe)
  cases e
def f_J9_floorMod_7cf53 (N : Nat) (x0 : Int32) (x1 : Int32) (h : mH) : Option (Int32 × mH) :=
  if x1 = 0 then none else
  let w1 := iRem x0 x1
  if (x0 ^^^ x1) < 0 then
    if w1 = 0 then
      some (w1, h)
    else
      some (w1 + x1, h)
  else
    some (w1, h)
def y_J9_floorMod_7cf53 : mM := (yJ9_floorMod_7cf53, cJ9_floorMod_7cf53, 3, (some .int))
def B_J9_floorMod_7cf53 : List (Nat × List mI) := [(18, [(.iload_n 2, 1, [2], []), (.ireturn, 1, [], [])])]
def S_J9_floorMod_7cf53_0 : List mI := [(.iload_n 0, 1, [0], []), (.iload_n 1, 1, [1], []), (.irem, 1, [], []), (.istore_n 2, 1, [2], []), (.iload_n 0, 1, [0], []), (.iload_n 1, 1, [1], []), (.ixor, 1, [], []), (.ifCond .ge 11, 3, [18], []), (.iload_n 2, 1, [2], []), (.ifCond .eq 7, 3, [18], []), (.iload_n 2, 1, [2], []), (.iload_n 1, 1, [1], []), (.iadd, 1, [], []), (.ireturn, 1, [], [])]
theorem lb_J9_floorMod_7cf53 : B_J9_floorMod_7cf53.all (fun b => lst y_J9_floorMod_7cf53.2.1 14 y_J9_floorMod_7cf53.2.2.1 false b.1 b.2) = true := by decide +kernel
theorem ls_J9_floorMod_7cf53_0 : lst y_J9_floorMod_7cf53.2.1 14 y_J9_floorMod_7cf53.2.2.1 false 0 S_J9_floorMod_7cf53_0 = true := by decide +kernel
def C_J9_floorMod_7cf53 (N : Nat) : Nat → List Value → mH → (Option Value → mH → Option (Int32 × mH)) → Option (Int32 × mH) := fun j as g k => none
theorem co_J9_floorMod_7cf53 (N : Nat) (q : Int32 × mH) : clOK 4 q (C_J9_floorMod_7cf53 N) := by
  intro j as g k e
  cases e
set_option maxRecDepth 100000 in
theorem m_J9_floorMod_7cf53 (N : Nat) {x0 : Int32} {x1 : Int32} {h : mH} {q : Int32 × mH} (hf : f_J9_floorMod_7cf53 N x0 x1 h = some q) : MM y_J9_floorMod_7cf53 4 [.int x0, .int x1] h (some (.int q.1)) q.2 := by
  refine MM.of (mFx (j := 346) rfl).2.2.2.1 (Nat.le_of_ble_eq_true rfl) (fun X => ?_)
  refine ev_ok (o := 14) (ini := false) (Cl := C_J9_floorMod_7cf53 N) (Rc := RcI) (B := B_J9_floorMod_7cf53) (K := fun pc ls st g => none) rfl (fun e => by cases e) (by decide) (rcI_ok rfl) ?_ (co_J9_floorMod_7cf53 N q) lb_J9_floorMod_7cf53 3000 0 S_J9_floorMod_7cf53_0 _ _ h ls_J9_floorMod_7cf53_0 hf
  intro pc ls st g e
  cases e
def f_X0_stakeAt (N : Nat) (a0 : Nat) (x1 : Int32) (x2 : Int32) (x3 : Int32) (h : mH) : Option (Int32 × mH) :=
  (rcv h 0 a0).bind fun _ =>
  (f_X0_ofBand N a0 x1 (jI 4) h).bind fun p1 =>
  (rcv p1.2 0 a0).bind fun _ =>
  (f_X0_ofBand N a0 x1 (jI 5) p1.2).bind fun p2 =>
  if p2.1 = (jI 1) then
    (rcv p2.2 0 a0).bind fun _ =>
    (f_X0_ring N a0 p2.2).bind fun p3 =>
    (f_J9_floorMod_7cf53 N ((p1.1 - x2) - x3) p3.1 p3.2).bind fun p4 =>
    some (p4.1, p4.2)
  else
    (rcv p2.2 0 a0).bind fun _ =>
    (f_X0_ring N a0 p2.2).bind fun p5 =>
    (f_J9_floorMod_7cf53 N ((p1.1 + x2) + x3) p5.1 p5.2).bind fun p6 =>
    some (p6.1, p6.2)
def y_X0_stakeAt : mM := (yX0_stakeAt, cX0_stakeAt, 5, (some .int))
def B_X0_stakeAt : List (Nat × List mI) := [(27, [(.iload 4, 2, [4], []), (.iload_n 2, 1, [2], []), (.iadd, 1, [], []), (.iload_n 3, 1, [3], []), (.iadd, 1, [], [])]), (33, [(.aload_n 0, 1, [0], []), (.invokevirtual 70, 3, [0, 11, 0, 0, 63], []), (.invokestatic 74, 3, [1, 346, 2, 0, 64], []), (.ireturn, 1, [], [])])]
def S_X0_stakeAt_0 : List mI := [(.aload_n 0, 1, [0], []), (.iload_n 1, 1, [1], []), (.iconst 4, 1, [], [4]), (.invokevirtual 53, 3, [0, 9, 2, 0, 33], []), (.istore 4, 2, [4], []), (.aload_n 0, 1, [0], []), (.iload_n 1, 1, [1], []), (.iconst 5, 1, [], [5]), (.invokevirtual 53, 3, [0, 9, 2, 0, 33], []), (.iconst 1, 1, [], [1]), (.if_icmp .ne 12, 3, [27], []), (.iload 4, 2, [4], []), (.iload_n 2, 1, [2], []), (.isub, 1, [], []), (.iload_n 3, 1, [3], []), (.isub, 1, [], []), (.goto 9, 3, [33], [])]
theorem lb_X0_stakeAt : B_X0_stakeAt.all (fun b => lst y_X0_stakeAt.2.1 0 y_X0_stakeAt.2.2.1 false b.1 b.2) = true := by decide +kernel
theorem ls_X0_stakeAt_0 : lst y_X0_stakeAt.2.1 0 y_X0_stakeAt.2.2.1 false 0 S_X0_stakeAt_0 = true := by decide +kernel
def C_X0_stakeAt (N : Nat) : Nat → List Value → mH → (Option Value → mH → Option (Int32 × mH)) → Option (Int32 × mH) := fun j as g k => kb j 9 (pr1 as fun b0 as => pp1 as fun b1 as => pp1 as fun b2 as => pe as ((f_X0_ofBand N b0 b1 b2 g).bind fun p => k (some (.int p.1)) p.2)) (kb j 11 (pr1 as fun b0 as => pe as ((f_X0_ring N b0 g).bind fun p => k (some (.int p.1)) p.2)) (kb j 346 (pp1 as fun b0 as => pp1 as fun b1 as => pe as ((f_J9_floorMod_7cf53 N b0 b1 g).bind fun p => k (some (.int p.1)) p.2)) (none)))
theorem co_X0_stakeAt (N : Nat) (q : Int32 × mH) : clOK 5 q (C_X0_stakeAt N) := by
  intro j as g k e
  rcases kb_s e with ⟨rfl, e⟩ | e
  · obtain ⟨b0, r0, q0, f0⟩ := pr1_s e
    obtain ⟨b1, r1, q1, f1⟩ := pp1_s f0
    obtain ⟨b2, r2, q2, f2⟩ := pp1_s f1
    obtain ⟨qe, fe⟩ := pe_s f2
    obtain ⟨p, e1, e2⟩ := bnd_s fe
    subst qe
    subst q2
    subst q1
    subst q0
    exact ⟨_, _, _, _, 4, rfl, (by decide), m_X0_ofBand N e1, e2⟩
  rcases kb_s e with ⟨rfl, e⟩ | e
  · obtain ⟨b0, r0, q0, f0⟩ := pr1_s e
    obtain ⟨qe, fe⟩ := pe_s f0
    obtain ⟨p, e1, e2⟩ := bnd_s fe
    subst qe
    subst q0
    exact ⟨_, _, _, _, 4, rfl, (by decide), m_X0_ring N e1, e2⟩
  rcases kb_s e with ⟨rfl, e⟩ | e
  · obtain ⟨b0, r0, q0, f0⟩ := pp1_s e
    obtain ⟨b1, r1, q1, f1⟩ := pp1_s f0
    obtain ⟨qe, fe⟩ := pe_s f1
    obtain ⟨p, e1, e2⟩ := bnd_s fe
    subst qe
    subst q1
    subst q0
    exact ⟨_, _, _, _, 4, rfl, (by decide), m_J9_floorMod_7cf53 N e1, e2⟩
  cases e
set_option maxRecDepth 100000 in
theorem m_X0_stakeAt (N : Nat) {a0 : Nat} {x1 : Int32} {x2 : Int32} {x3 : Int32} {h : mH} {q : Int32 × mH} (hf : f_X0_stakeAt N a0 x1 x2 x3 h = some q) : MM y_X0_stakeAt 5 [.ref a0, .int x1, .int x2, .int x3] h (some (.int q.1)) q.2 := by
  refine MM.of (mFx (j := 18) rfl).2.2.2.1 (Nat.le_of_ble_eq_true rfl) (fun X => ?_)
  refine ev_ok (o := 0) (ini := false) (Cl := C_X0_stakeAt N) (Rc := RcI) (B := B_X0_stakeAt) (K := fun pc ls st g => none) rfl (fun e => by cases e) (by decide) (rcI_ok rfl) ?_ (co_X0_stakeAt N q) lb_X0_stakeAt 3000 0 S_X0_stakeAt_0 _ _ h ls_X0_stakeAt_0 hf
  intro pc ls st g e
  cases e
def f_X0_offsetOf (N : Nat) (a0 : Nat) (x1 : Int32) (x2 : Int32) (x3 : Int32) (h : mH) : Option (Int32 × mH) :=
  (rcv h 0 a0).bind fun _ =>
  (f_X0_ofBand N a0 x1 (jI 4) h).bind fun p1 =>
  (rcv p1.2 0 a0).bind fun _ =>
  (f_X0_ofBand N a0 x1 (jI 5) p1.2).bind fun p2 =>
  if p2.1 = (jI 1) then
    (rcv p2.2 0 a0).bind fun _ =>
    (f_X0_ring N a0 p2.2).bind fun p3 =>
    (f_J9_floorMod_7cf53 N ((p1.1 - x2) - x3) p3.1 p3.2).bind fun p4 =>
    some (p4.1, p4.2)
  else
    (rcv p2.2 0 a0).bind fun _ =>
    (f_X0_ring N a0 p2.2).bind fun p5 =>
    (f_J9_floorMod_7cf53 N ((x3 - p1.1) - x2) p5.1 p5.2).bind fun p6 =>
    some (p6.1, p6.2)
def y_X0_offsetOf : mM := (yX0_offsetOf, cX0_offsetOf, 5, (some .int))
def B_X0_offsetOf : List (Nat × List mI) := [(27, [(.iload_n 3, 1, [3], []), (.iload 4, 2, [4], []), (.isub, 1, [], []), (.iload_n 2, 1, [2], []), (.isub, 1, [], [])]), (33, [(.aload_n 0, 1, [0], []), (.invokevirtual 70, 3, [0, 11, 0, 0, 63], []), (.invokestatic 74, 3, [1, 346, 2, 0, 64], []), (.ireturn, 1, [], [])])]
def S_X0_offsetOf_0 : List mI := [(.aload_n 0, 1, [0], []), (.iload_n 1, 1, [1], []), (.iconst 4, 1, [], [4]), (.invokevirtual 53, 3, [0, 9, 2, 0, 33], []), (.istore 4, 2, [4], []), (.aload_n 0, 1, [0], []), (.iload_n 1, 1, [1], []), (.iconst 5, 1, [], [5]), (.invokevirtual 53, 3, [0, 9, 2, 0, 33], []), (.iconst 1, 1, [], [1]), (.if_icmp .ne 12, 3, [27], []), (.iload 4, 2, [4], []), (.iload_n 2, 1, [2], []), (.isub, 1, [], []), (.iload_n 3, 1, [3], []), (.isub, 1, [], []), (.goto 9, 3, [33], [])]
theorem lb_X0_offsetOf : B_X0_offsetOf.all (fun b => lst y_X0_offsetOf.2.1 0 y_X0_offsetOf.2.2.1 false b.1 b.2) = true := by decide +kernel
theorem ls_X0_offsetOf_0 : lst y_X0_offsetOf.2.1 0 y_X0_offsetOf.2.2.1 false 0 S_X0_offsetOf_0 = true := by decide +kernel
def C_X0_offsetOf (N : Nat) : Nat → List Value → mH → (Option Value → mH → Option (Int32 × mH)) → Option (Int32 × mH) := fun j as g k => kb j 9 (pr1 as fun b0 as => pp1 as fun b1 as => pp1 as fun b2 as => pe as ((f_X0_ofBand N b0 b1 b2 g).bind fun p => k (some (.int p.1)) p.2)) (kb j 11 (pr1 as fun b0 as => pe as ((f_X0_ring N b0 g).bind fun p => k (some (.int p.1)) p.2)) (kb j 346 (pp1 as fun b0 as => pp1 as fun b1 as => pe as ((f_J9_floorMod_7cf53 N b0 b1 g).bind fun p => k (some (.int p.1)) p.2)) (none)))
theorem co_X0_offsetOf (N : Nat) (q : Int32 × mH) : clOK 5 q (C_X0_offsetOf N) := by
  intro j as g k e
  rcases kb_s e with ⟨rfl, e⟩ | e
  · obtain ⟨b0, r0, q0, f0⟩ := pr1_s e
    obtain ⟨b1, r1, q1, f1⟩ := pp1_s f0
    obtain ⟨b2, r2, q2, f2⟩ := pp1_s f1
    obtain ⟨qe, fe⟩ := pe_s f2
    obtain ⟨p, e1, e2⟩ := bnd_s fe
    subst qe
    subst q2
    subst q1
    subst q0
    exact ⟨_, _, _, _, 4, rfl, (by decide), m_X0_ofBand N e1, e2⟩
  rcases kb_s e with ⟨rfl, e⟩ | e
  · obtain ⟨b0, r0, q0, f0⟩ := pr1_s e
    obtain ⟨qe, fe⟩ := pe_s f0
    obtain ⟨p, e1, e2⟩ := bnd_s fe
    subst qe
    subst q0
    exact ⟨_, _, _, _, 4, rfl, (by decide), m_X0_ring N e1, e2⟩
  rcases kb_s e with ⟨rfl, e⟩ | e
  · obtain ⟨b0, r0, q0, f0⟩ := pp1_s e
    obtain ⟨b1, r1, q1, f1⟩ := pp1_s f0
    obtain ⟨qe, fe⟩ := pe_s f1
    obtain ⟨p, e1, e2⟩ := bnd_s fe
    subst qe
    subst q1
    subst q0
    exact ⟨_, _, _, _, 4, rfl, (by decide), m_J9_floorMod_7cf53 N e1, e2⟩
  cases e
set_option maxRecDepth 100000 in
theorem m_X0_offsetOf (N : Nat) {a0 : Nat} {x1 : Int32} {x2 : Int32} {x3 : Int32} {h : mH} {q : Int32 × mH} (hf : f_X0_offsetOf N a0 x1 x2 x3 h = some q) : MM y_X0_offsetOf 5 [.ref a0, .int x1, .int x2, .int x3] h (some (.int q.1)) q.2 := by
  refine MM.of (mFx (j := 19) rfl).2.2.2.1 (Nat.le_of_ble_eq_true rfl) (fun X => ?_)
  refine ev_ok (o := 0) (ini := false) (Cl := C_X0_offsetOf N) (Rc := RcI) (B := B_X0_offsetOf) (K := fun pc ls st g => none) rfl (fun e => by cases e) (by decide) (rcI_ok rfl) ?_ (co_X0_offsetOf N q) lb_X0_offsetOf 3000 0 S_X0_offsetOf_0 _ _ h ls_X0_offsetOf_0 hf
  intro pc ls st g e
  cases e
def L_X0_aheadOf_4 (N : Nat) : Nat → Nat → Int32 → Int32 → Int32 → mH → Option (Int32 × mH)
  | 0, _, _, _, _, _ => none
  | n + 1, a0, x1, x2, x3, h =>
    if x3 < x1 then
      (gI h 0 a0 2).bind fun v1 =>
      if x3 < v1 then
        (rcv h 0 a0).bind fun _ =>
        (f_X0_ofBand N a0 x3 (jI 0) h).bind fun p2 =>
        (rcv p2.2 0 a0).bind fun _ =>
        (f_X0_crossingsOf N a0 x3 p2.2).bind fun p3 =>
        let w4 := x2 + (p2.1 * p3.1)
        let w5 := x3 + jI 1
        L_X0_aheadOf_4 N n a0 x1 w4 w5 p3.2
      else
        some (x2, h)
    else
      some (x2, h)
def f_X0_aheadOf (N : Nat) (a0 : Nat) (x1 : Int32) (h : mH) : Option (Int32 × mH) :=
  L_X0_aheadOf_4 N N a0 x1 (jI 0) (jI 0) h
def y_X0_aheadOf : mM := (yX0_aheadOf, cX0_aheadOf, 4, (some .int))
def B_X0_aheadOf : List (Nat × List mI) := [(38, [(.iload_n 2, 1, [2], []), (.ireturn, 1, [], [])])]
def S_X0_aheadOf_0 : List mI := [(.iconst 0, 1, [], [0]), (.istore_n 2, 1, [2], []), (.iconst 0, 1, [], [0]), (.istore_n 3, 1, [3], [])]
def S_X0_aheadOf_4 : List mI := [(.iload_n 3, 1, [3], []), (.iload_n 1, 1, [1], []), (.if_icmp .ge 32, 3, [38], []), (.iload_n 3, 1, [3], []), (.aload_n 0, 1, [0], []), (.getfield 34, 3, [0, 2, 0, 7], []), (.if_icmp .ge 24, 3, [38], []), (.iload_n 2, 1, [2], []), (.aload_n 0, 1, [0], []), (.iload_n 3, 1, [3], []), (.iconst 0, 1, [], [0]), (.invokevirtual 53, 3, [0, 9, 2, 0, 33], []), (.aload_n 0, 1, [0], []), (.iload_n 3, 1, [3], []), (.invokevirtual 61, 3, [0, 14, 1, 0, 56], []), (.imul, 1, [], []), (.iadd, 1, [], []), (.istore_n 2, 1, [2], []), (.iinc 3 1, 3, [3], [1]), (.goto (-31), 3, [4], [])]
theorem lb_X0_aheadOf : B_X0_aheadOf.all (fun b => lst y_X0_aheadOf.2.1 0 y_X0_aheadOf.2.2.1 false b.1 b.2) = true := by decide +kernel
theorem ls_X0_aheadOf_0 : lst y_X0_aheadOf.2.1 0 y_X0_aheadOf.2.2.1 false 0 S_X0_aheadOf_0 = true := by decide +kernel
theorem ls_X0_aheadOf_4 : lst y_X0_aheadOf.2.1 0 y_X0_aheadOf.2.2.1 false 4 S_X0_aheadOf_4 = true := by decide +kernel
def C_X0_aheadOf (N : Nat) : Nat → List Value → mH → (Option Value → mH → Option (Int32 × mH)) → Option (Int32 × mH) := fun j as g k => kb j 9 (pr1 as fun b0 as => pp1 as fun b1 as => pp1 as fun b2 as => pe as ((f_X0_ofBand N b0 b1 b2 g).bind fun p => k (some (.int p.1)) p.2)) (kb j 14 (pr1 as fun b0 as => pp1 as fun b1 as => pe as ((f_X0_crossingsOf N b0 b1 g).bind fun p => k (some (.int p.1)) p.2)) (none))
theorem co_X0_aheadOf (N : Nat) (q : Int32 × mH) : clOK 6 q (C_X0_aheadOf N) := by
  intro j as g k e
  rcases kb_s e with ⟨rfl, e⟩ | e
  · obtain ⟨b0, r0, q0, f0⟩ := pr1_s e
    obtain ⟨b1, r1, q1, f1⟩ := pp1_s f0
    obtain ⟨b2, r2, q2, f2⟩ := pp1_s f1
    obtain ⟨qe, fe⟩ := pe_s f2
    obtain ⟨p, e1, e2⟩ := bnd_s fe
    subst qe
    subst q2
    subst q1
    subst q0
    exact ⟨_, _, _, _, 4, rfl, (by decide), m_X0_ofBand N e1, e2⟩
  rcases kb_s e with ⟨rfl, e⟩ | e
  · obtain ⟨b0, r0, q0, f0⟩ := pr1_s e
    obtain ⟨b1, r1, q1, f1⟩ := pp1_s f0
    obtain ⟨qe, fe⟩ := pe_s f1
    obtain ⟨p, e1, e2⟩ := bnd_s fe
    subst qe
    subst q1
    subst q0
    exact ⟨_, _, _, _, 5, rfl, (by decide), m_X0_crossingsOf N e1, e2⟩
  cases e
set_option maxRecDepth 100000 in
theorem t_X0_aheadOf_4 {X : Nat × (Nat → Int32)} (N : Nat) {q : Int32 × mH} : ∀ (n : Nat) (a0 : Nat) (x1 : Int32) (x2 : Int32) (x3 : Int32) (h : mH), L_X0_aheadOf_4 N n a0 x1 x2 x3 h = some q → MW X y_X0_aheadOf 6 4 [(0, .ref a0), (1, .int x1), (2, .int x2), (3, .int x3)] [] h (some (.int q.1)) q.2 := by
  intro n
  induction n with
  | zero => intro a0 x1 x2 x3 h hf; cases hf
  | succ n ih =>
    intro a0 x1 x2 x3 h hf
    refine ev_ok (o := 0) (ini := false) (Cl := C_X0_aheadOf N) (Rc := RcI) (B := B_X0_aheadOf) (K := fun pc ls st g => kb pc 4 (lgr 0 ls fun a0 => lgi 1 ls fun x1 => lgi 2 ls fun x2 => lgi 3 ls fun x3 => pe st (L_X0_aheadOf_4 N n a0 x1 x2 x3 g)) (none)) rfl (fun e => by cases e) (by decide) (rcI_ok rfl) ?_ (co_X0_aheadOf N q) lb_X0_aheadOf 3000 4 S_X0_aheadOf_4 _ _ h ls_X0_aheadOf_4 hf
    intro pc ls st g e
    rcases kb_s e with ⟨rfl, e⟩ | e
    · obtain ⟨a0, e0, f0⟩ := lgr_s e
      obtain ⟨x1, e1, f1⟩ := lgi_s f0
      obtain ⟨x2, e2, f2⟩ := lgi_s f1
      obtain ⟨x3, e3, f3⟩ := lgi_s f2
      obtain ⟨qe, fe⟩ := pe_s f3
      subst qe
      exact MW.sub (List.forall_mem_cons.mpr ⟨lg_mem e0, List.forall_mem_cons.mpr ⟨lg_mem e1, List.forall_mem_cons.mpr ⟨lg_mem e2, List.forall_mem_cons.mpr ⟨lg_mem e3, fun _ h => absurd h List.not_mem_nil⟩⟩⟩⟩) (ih a0 x1 x2 x3 g fe)
    cases e
set_option maxRecDepth 100000 in
theorem m_X0_aheadOf (N : Nat) {a0 : Nat} {x1 : Int32} {h : mH} {q : Int32 × mH} (hf : f_X0_aheadOf N a0 x1 h = some q) : MM y_X0_aheadOf 6 [.ref a0, .int x1] h (some (.int q.1)) q.2 := by
  refine MM.of (mFx (j := 20) rfl).2.2.2.1 (Nat.le_of_ble_eq_true rfl) (fun X => ?_)
  refine ev_ok (o := 0) (ini := false) (Cl := C_X0_aheadOf N) (Rc := RcI) (B := B_X0_aheadOf) (K := fun pc ls st g => kb pc 4 (lgr 0 ls fun a0 => lgi 1 ls fun x1 => lgi 2 ls fun x2 => lgi 3 ls fun x3 => pe st (L_X0_aheadOf_4 N N a0 x1 x2 x3 g)) (none)) rfl (fun e => by cases e) (by decide) (rcI_ok rfl) ?_ (co_X0_aheadOf N q) lb_X0_aheadOf 3000 0 S_X0_aheadOf_0 _ _ h ls_X0_aheadOf_0 hf
  intro pc ls st g e
  rcases kb_s e with ⟨rfl, e⟩ | e
  · obtain ⟨a0, e0, f0⟩ := lgr_s e
    obtain ⟨x1, e1, f1⟩ := lgi_s f0
    obtain ⟨x2, e2, f2⟩ := lgi_s f1
    obtain ⟨x3, e3, f3⟩ := lgi_s f2
    obtain ⟨qe, fe⟩ := pe_s f3
    subst qe
    exact MW.sub (List.forall_mem_cons.mpr ⟨lg_mem e0, List.forall_mem_cons.mpr ⟨lg_mem e1, List.forall_mem_cons.mpr ⟨lg_mem e2, List.forall_mem_cons.mpr ⟨lg_mem e3, fun _ h => absurd h List.not_mem_nil⟩⟩⟩⟩) (t_X0_aheadOf_4 N N a0 x1 x2 x3 g fe)
  cases e
def f_X0_allCrossings (N : Nat) (a0 : Nat) (h : mH) : Option (Int32 × mH) :=
  (gI h 0 a0 2).bind fun v1 =>
  (rcv h 0 a0).bind fun _ =>
  (f_X0_aheadOf N a0 v1 h).bind fun p2 =>
  some (p2.1, p2.2)
def y_X0_allCrossings : mM := (yX0_allCrossings, cX0_allCrossings, 1, (some .int))
def B_X0_allCrossings : List (Nat × List mI) := []
def S_X0_allCrossings_0 : List mI := [(.aload_n 0, 1, [0], []), (.aload_n 0, 1, [0], []), (.getfield 34, 3, [0, 2, 0, 7], []), (.invokevirtual 77, 3, [0, 20, 1, 0, 77], []), (.ireturn, 1, [], [])]
theorem lb_X0_allCrossings : B_X0_allCrossings.all (fun b => lst y_X0_allCrossings.2.1 0 y_X0_allCrossings.2.2.1 false b.1 b.2) = true := by decide +kernel
theorem ls_X0_allCrossings_0 : lst y_X0_allCrossings.2.1 0 y_X0_allCrossings.2.2.1 false 0 S_X0_allCrossings_0 = true := by decide +kernel
def C_X0_allCrossings (N : Nat) : Nat → List Value → mH → (Option Value → mH → Option (Int32 × mH)) → Option (Int32 × mH) := fun j as g k => kb j 20 (pr1 as fun b0 as => pp1 as fun b1 as => pe as ((f_X0_aheadOf N b0 b1 g).bind fun p => k (some (.int p.1)) p.2)) (none)
theorem co_X0_allCrossings (N : Nat) (q : Int32 × mH) : clOK 7 q (C_X0_allCrossings N) := by
  intro j as g k e
  rcases kb_s e with ⟨rfl, e⟩ | e
  · obtain ⟨b0, r0, q0, f0⟩ := pr1_s e
    obtain ⟨b1, r1, q1, f1⟩ := pp1_s f0
    obtain ⟨qe, fe⟩ := pe_s f1
    obtain ⟨p, e1, e2⟩ := bnd_s fe
    subst qe
    subst q1
    subst q0
    exact ⟨_, _, _, _, 6, rfl, (by decide), m_X0_aheadOf N e1, e2⟩
  cases e
set_option maxRecDepth 100000 in
theorem m_X0_allCrossings (N : Nat) {a0 : Nat} {h : mH} {q : Int32 × mH} (hf : f_X0_allCrossings N a0 h = some q) : MM y_X0_allCrossings 7 [.ref a0] h (some (.int q.1)) q.2 := by
  refine MM.of (mFx (j := 21) rfl).2.2.2.1 (Nat.le_of_ble_eq_true rfl) (fun X => ?_)
  refine ev_ok (o := 0) (ini := false) (Cl := C_X0_allCrossings N) (Rc := RcI) (B := B_X0_allCrossings) (K := fun pc ls st g => none) rfl (fun e => by cases e) (by decide) (rcI_ok rfl) ?_ (co_X0_allCrossings N q) lb_X0_allCrossings 3000 0 S_X0_allCrossings_0 _ _ h ls_X0_allCrossings_0 hf
  intro pc ls st g e
  cases e
def f_X0_whenOf (N : Nat) (a0 : Nat) (x1 : Int32) (x2 : Int32) (x3 : Int32) (h : mH) : Option (Int32 × mH) :=
  (rcv h 0 a0).bind fun _ =>
  (f_X0_aheadOf N a0 x1 h).bind fun p1 =>
  (rcv p1.2 0 a0).bind fun _ =>
  (f_X0_ofBand N a0 x1 (jI 0) p1.2).bind fun p2 =>
  some ((p1.1 + (x3 * p2.1)) + x2, p2.2)
def y_X0_whenOf : mM := (yX0_whenOf, cX0_whenOf, 4, (some .int))
def B_X0_whenOf : List (Nat × List mI) := []
def S_X0_whenOf_0 : List mI := [(.aload_n 0, 1, [0], []), (.iload_n 1, 1, [1], []), (.invokevirtual 77, 3, [0, 20, 1, 0, 77], []), (.iload_n 3, 1, [3], []), (.aload_n 0, 1, [0], []), (.iload_n 1, 1, [1], []), (.iconst 0, 1, [], [0]), (.invokevirtual 53, 3, [0, 9, 2, 0, 33], []), (.imul, 1, [], []), (.iadd, 1, [], []), (.iload_n 2, 1, [2], []), (.iadd, 1, [], []), (.ireturn, 1, [], [])]
theorem lb_X0_whenOf : B_X0_whenOf.all (fun b => lst y_X0_whenOf.2.1 0 y_X0_whenOf.2.2.1 false b.1 b.2) = true := by decide +kernel
theorem ls_X0_whenOf_0 : lst y_X0_whenOf.2.1 0 y_X0_whenOf.2.2.1 false 0 S_X0_whenOf_0 = true := by decide +kernel
def C_X0_whenOf (N : Nat) : Nat → List Value → mH → (Option Value → mH → Option (Int32 × mH)) → Option (Int32 × mH) := fun j as g k => kb j 20 (pr1 as fun b0 as => pp1 as fun b1 as => pe as ((f_X0_aheadOf N b0 b1 g).bind fun p => k (some (.int p.1)) p.2)) (kb j 9 (pr1 as fun b0 as => pp1 as fun b1 as => pp1 as fun b2 as => pe as ((f_X0_ofBand N b0 b1 b2 g).bind fun p => k (some (.int p.1)) p.2)) (none))
theorem co_X0_whenOf (N : Nat) (q : Int32 × mH) : clOK 7 q (C_X0_whenOf N) := by
  intro j as g k e
  rcases kb_s e with ⟨rfl, e⟩ | e
  · obtain ⟨b0, r0, q0, f0⟩ := pr1_s e
    obtain ⟨b1, r1, q1, f1⟩ := pp1_s f0
    obtain ⟨qe, fe⟩ := pe_s f1
    obtain ⟨p, e1, e2⟩ := bnd_s fe
    subst qe
    subst q1
    subst q0
    exact ⟨_, _, _, _, 6, rfl, (by decide), m_X0_aheadOf N e1, e2⟩
  rcases kb_s e with ⟨rfl, e⟩ | e
  · obtain ⟨b0, r0, q0, f0⟩ := pr1_s e
    obtain ⟨b1, r1, q1, f1⟩ := pp1_s f0
    obtain ⟨b2, r2, q2, f2⟩ := pp1_s f1
    obtain ⟨qe, fe⟩ := pe_s f2
    obtain ⟨p, e1, e2⟩ := bnd_s fe
    subst qe
    subst q2
    subst q1
    subst q0
    exact ⟨_, _, _, _, 4, rfl, (by decide), m_X0_ofBand N e1, e2⟩
  cases e
set_option maxRecDepth 100000 in
theorem m_X0_whenOf (N : Nat) {a0 : Nat} {x1 : Int32} {x2 : Int32} {x3 : Int32} {h : mH} {q : Int32 × mH} (hf : f_X0_whenOf N a0 x1 x2 x3 h = some q) : MM y_X0_whenOf 7 [.ref a0, .int x1, .int x2, .int x3] h (some (.int q.1)) q.2 := by
  refine MM.of (mFx (j := 22) rfl).2.2.2.1 (Nat.le_of_ble_eq_true rfl) (fun X => ?_)
  refine ev_ok (o := 0) (ini := false) (Cl := C_X0_whenOf N) (Rc := RcI) (B := B_X0_whenOf) (K := fun pc ls st g => none) rfl (fun e => by cases e) (by decide) (rcI_ok rfl) ?_ (co_X0_whenOf N q) lb_X0_whenOf 3000 0 S_X0_whenOf_0 _ _ h ls_X0_whenOf_0 hf
  intro pc ls st g e
  cases e
def L_X0_firstTouch_25 (N : Nat) : Nat → Nat → Int32 → Int32 → Int32 → Int32 → Int32 → mH → Option (Int32 × mH)
  | 0, _, _, _, _, _, _, _ => none
  | n + 1, a0, x1, x2, x3, x4, x5, h =>
    (rcv h 0 a0).bind fun _ =>
    (f_X0_ofBand N a0 x1 (jI 0) h).bind fun p1 =>
    if x5 < p1.1 then
      (gI p1.2 0 a0 0).bind fun v2 =>
      (rcv p1.2 0 a0).bind fun _ =>
      (f_X0_offsetOf N a0 x1 x5 x3 p1.2).bind fun p3 =>
      (rcv p3.2 0 a0).bind fun _ =>
      (f_X0_whenOf N a0 x1 x5 ((x2 * v2) + p3.1) p3.2).bind fun p4 =>
      let w5 := iMin x4 p4.1
      let w6 := x5 + jI 1
      L_X0_firstTouch_25 N n a0 x1 x2 x3 w5 w6 p4.2
    else
      some (x4, p1.2)
def f_X0_firstTouch (N : Nat) (a0 : Nat) (x1 : Int32) (x2 : Int32) (x3 : Int32) (h : mH) : Option (Int32 × mH) :=
  (gI h 0 a0 0).bind fun v1 =>
  (rcv h 0 a0).bind fun _ =>
  (f_X0_offsetOf N a0 x1 (jI 0) x3 h).bind fun p2 =>
  (rcv p2.2 0 a0).bind fun _ =>
  (f_X0_whenOf N a0 x1 (jI 0) ((x2 * v1) + p2.1) p2.2).bind fun p3 =>
  L_X0_firstTouch_25 N N a0 x1 x2 x3 p3.1 (jI 1) p3.2
def y_X0_firstTouch : mM := (yX0_firstTouch, cX0_firstTouch, 6, (some .int))
def B_X0_firstTouch : List (Nat × List mI) := [(71, [(.iload 4, 2, [4], []), (.ireturn, 1, [], [])])]
def S_X0_firstTouch_0 : List mI := [(.aload_n 0, 1, [0], []), (.iload_n 1, 1, [1], []), (.iconst 0, 1, [], [0]), (.iload_n 2, 1, [2], []), (.aload_n 0, 1, [0], []), (.getfield 28, 3, [0, 0, 0, 0], []), (.imul, 1, [], []), (.aload_n 0, 1, [0], []), (.iload_n 1, 1, [1], []), (.iconst 0, 1, [], [0]), (.iload_n 3, 1, [3], []), (.invokevirtual 80, 3, [0, 19, 3, 0, 101], []), (.iadd, 1, [], []), (.invokevirtual 84, 3, [0, 22, 3, 0, 102], []), (.istore 4, 2, [4], []), (.iconst 1, 1, [], [1]), (.istore 5, 2, [5], [])]
def S_X0_firstTouch_25 : List mI := [(.iload 5, 2, [5], []), (.aload_n 0, 1, [0], []), (.iload_n 1, 1, [1], []), (.iconst 0, 1, [], [0]), (.invokevirtual 53, 3, [0, 9, 2, 0, 33], []), (.if_icmp .ge 38, 3, [71], []), (.iload 4, 2, [4], []), (.aload_n 0, 1, [0], []), (.iload_n 1, 1, [1], []), (.iload 5, 2, [5], []), (.iload_n 2, 1, [2], []), (.aload_n 0, 1, [0], []), (.getfield 28, 3, [0, 0, 0, 0], []), (.imul, 1, [], []), (.aload_n 0, 1, [0], []), (.iload_n 1, 1, [1], []), (.iload 5, 2, [5], []), (.iload_n 3, 1, [3], []), (.invokevirtual 80, 3, [0, 19, 3, 0, 101], []), (.iadd, 1, [], []), (.invokevirtual 84, 3, [0, 22, 3, 0, 102], []), (.invokestatic 87, 3, [7, 0, 0, 0, 17], []), (.istore 4, 2, [4], []), (.iinc 5 1, 3, [5], [1]), (.goto (-43), 3, [25], [])]
theorem lb_X0_firstTouch : B_X0_firstTouch.all (fun b => lst y_X0_firstTouch.2.1 0 y_X0_firstTouch.2.2.1 false b.1 b.2) = true := by decide +kernel
theorem ls_X0_firstTouch_0 : lst y_X0_firstTouch.2.1 0 y_X0_firstTouch.2.2.1 false 0 S_X0_firstTouch_0 = true := by decide +kernel
theorem ls_X0_firstTouch_25 : lst y_X0_firstTouch.2.1 0 y_X0_firstTouch.2.2.1 false 25 S_X0_firstTouch_25 = true := by decide +kernel
def C_X0_firstTouch (N : Nat) : Nat → List Value → mH → (Option Value → mH → Option (Int32 × mH)) → Option (Int32 × mH) := fun j as g k => kb j 19 (pr1 as fun b0 as => pp1 as fun b1 as => pp1 as fun b2 as => pp1 as fun b3 as => pe as ((f_X0_offsetOf N b0 b1 b2 b3 g).bind fun p => k (some (.int p.1)) p.2)) (kb j 22 (pr1 as fun b0 as => pp1 as fun b1 as => pp1 as fun b2 as => pp1 as fun b3 as => pe as ((f_X0_whenOf N b0 b1 b2 b3 g).bind fun p => k (some (.int p.1)) p.2)) (kb j 9 (pr1 as fun b0 as => pp1 as fun b1 as => pp1 as fun b2 as => pe as ((f_X0_ofBand N b0 b1 b2 g).bind fun p => k (some (.int p.1)) p.2)) (none)))
theorem co_X0_firstTouch (N : Nat) (q : Int32 × mH) : clOK 8 q (C_X0_firstTouch N) := by
  intro j as g k e
  rcases kb_s e with ⟨rfl, e⟩ | e
  · obtain ⟨b0, r0, q0, f0⟩ := pr1_s e
    obtain ⟨b1, r1, q1, f1⟩ := pp1_s f0
    obtain ⟨b2, r2, q2, f2⟩ := pp1_s f1
    obtain ⟨b3, r3, q3, f3⟩ := pp1_s f2
    obtain ⟨qe, fe⟩ := pe_s f3
    obtain ⟨p, e1, e2⟩ := bnd_s fe
    subst qe
    subst q3
    subst q2
    subst q1
    subst q0
    exact ⟨_, _, _, _, 5, rfl, (by decide), m_X0_offsetOf N e1, e2⟩
  rcases kb_s e with ⟨rfl, e⟩ | e
  · obtain ⟨b0, r0, q0, f0⟩ := pr1_s e
    obtain ⟨b1, r1, q1, f1⟩ := pp1_s f0
    obtain ⟨b2, r2, q2, f2⟩ := pp1_s f1
    obtain ⟨b3, r3, q3, f3⟩ := pp1_s f2
    obtain ⟨qe, fe⟩ := pe_s f3
    obtain ⟨p, e1, e2⟩ := bnd_s fe
    subst qe
    subst q3
    subst q2
    subst q1
    subst q0
    exact ⟨_, _, _, _, 7, rfl, (by decide), m_X0_whenOf N e1, e2⟩
  rcases kb_s e with ⟨rfl, e⟩ | e
  · obtain ⟨b0, r0, q0, f0⟩ := pr1_s e
    obtain ⟨b1, r1, q1, f1⟩ := pp1_s f0
    obtain ⟨b2, r2, q2, f2⟩ := pp1_s f1
    obtain ⟨qe, fe⟩ := pe_s f2
    obtain ⟨p, e1, e2⟩ := bnd_s fe
    subst qe
    subst q2
    subst q1
    subst q0
    exact ⟨_, _, _, _, 4, rfl, (by decide), m_X0_ofBand N e1, e2⟩
  cases e
set_option maxRecDepth 100000 in
theorem t_X0_firstTouch_25 {X : Nat × (Nat → Int32)} (N : Nat) {q : Int32 × mH} : ∀ (n : Nat) (a0 : Nat) (x1 : Int32) (x2 : Int32) (x3 : Int32) (x4 : Int32) (x5 : Int32) (h : mH), L_X0_firstTouch_25 N n a0 x1 x2 x3 x4 x5 h = some q → MW X y_X0_firstTouch 8 25 [(0, .ref a0), (1, .int x1), (2, .int x2), (3, .int x3), (4, .int x4), (5, .int x5)] [] h (some (.int q.1)) q.2 := by
  intro n
  induction n with
  | zero => intro a0 x1 x2 x3 x4 x5 h hf; cases hf
  | succ n ih =>
    intro a0 x1 x2 x3 x4 x5 h hf
    refine ev_ok (o := 0) (ini := false) (Cl := C_X0_firstTouch N) (Rc := RcI) (B := B_X0_firstTouch) (K := fun pc ls st g => kb pc 25 (lgr 0 ls fun a0 => lgi 1 ls fun x1 => lgi 2 ls fun x2 => lgi 3 ls fun x3 => lgi 4 ls fun x4 => lgi 5 ls fun x5 => pe st (L_X0_firstTouch_25 N n a0 x1 x2 x3 x4 x5 g)) (none)) rfl (fun e => by cases e) (by decide) (rcI_ok rfl) ?_ (co_X0_firstTouch N q) lb_X0_firstTouch 3000 25 S_X0_firstTouch_25 _ _ h ls_X0_firstTouch_25 hf
    intro pc ls st g e
    rcases kb_s e with ⟨rfl, e⟩ | e
    · obtain ⟨a0, e0, f0⟩ := lgr_s e
      obtain ⟨x1, e1, f1⟩ := lgi_s f0
      obtain ⟨x2, e2, f2⟩ := lgi_s f1
      obtain ⟨x3, e3, f3⟩ := lgi_s f2
      obtain ⟨x4, e4, f4⟩ := lgi_s f3
      obtain ⟨x5, e5, f5⟩ := lgi_s f4
      obtain ⟨qe, fe⟩ := pe_s f5
      subst qe
      exact MW.sub (List.forall_mem_cons.mpr ⟨lg_mem e0, List.forall_mem_cons.mpr ⟨lg_mem e1, List.forall_mem_cons.mpr ⟨lg_mem e2, List.forall_mem_cons.mpr ⟨lg_mem e3, List.forall_mem_cons.mpr ⟨lg_mem e4, List.forall_mem_cons.mpr ⟨lg_mem e5, fun _ h => absurd h List.not_mem_nil⟩⟩⟩⟩⟩⟩) (ih a0 x1 x2 x3 x4 x5 g fe)
    cases e
set_option maxRecDepth 100000 in
theorem m_X0_firstTouch (N : Nat) {a0 : Nat} {x1 : Int32} {x2 : Int32} {x3 : Int32} {h : mH} {q : Int32 × mH} (hf : f_X0_firstTouch N a0 x1 x2 x3 h = some q) : MM y_X0_firstTouch 8 [.ref a0, .int x1, .int x2, .int x3] h (some (.int q.1)) q.2 := by
  refine MM.of (mFx (j := 23) rfl).2.2.2.1 (Nat.le_of_ble_eq_true rfl) (fun X => ?_)
  refine ev_ok (o := 0) (ini := false) (Cl := C_X0_firstTouch N) (Rc := RcI) (B := B_X0_firstTouch) (K := fun pc ls st g => kb pc 25 (lgr 0 ls fun a0 => lgi 1 ls fun x1 => lgi 2 ls fun x2 => lgi 3 ls fun x3 => lgi 4 ls fun x4 => lgi 5 ls fun x5 => pe st (L_X0_firstTouch_25 N N a0 x1 x2 x3 x4 x5 g)) (none)) rfl (fun e => by cases e) (by decide) (rcI_ok rfl) ?_ (co_X0_firstTouch N q) lb_X0_firstTouch 3000 0 S_X0_firstTouch_0 _ _ h ls_X0_firstTouch_0 hf
  intro pc ls st g e
  rcases kb_s e with ⟨rfl, e⟩ | e
  · obtain ⟨a0, e0, f0⟩ := lgr_s e
    obtain ⟨x1, e1, f1⟩ := lgi_s f0
    obtain ⟨x2, e2, f2⟩ := lgi_s f1
    obtain ⟨x3, e3, f3⟩ := lgi_s f2
    obtain ⟨x4, e4, f4⟩ := lgi_s f3
    obtain ⟨x5, e5, f5⟩ := lgi_s f4
    obtain ⟨qe, fe⟩ := pe_s f5
    subst qe
    exact MW.sub (List.forall_mem_cons.mpr ⟨lg_mem e0, List.forall_mem_cons.mpr ⟨lg_mem e1, List.forall_mem_cons.mpr ⟨lg_mem e2, List.forall_mem_cons.mpr ⟨lg_mem e3, List.forall_mem_cons.mpr ⟨lg_mem e4, List.forall_mem_cons.mpr ⟨lg_mem e5, fun _ h => absurd h List.not_mem_nil⟩⟩⟩⟩⟩⟩) (t_X0_firstTouch_25 N N a0 x1 x2 x3 x4 x5 g fe)
  cases e
def f_X0_rodStep (N : Nat) (a0 : Nat) (x1 : Int32) (x2 : Int32) (h : mH) : Option (Int32 × mH) :=
  (rcv h 0 a0).bind fun _ =>
  (f_X0_ofKind N a0 x1 (jI 0) h).bind fun p1 =>
  some (iMax (jI 1) (p1.1 - x2), p1.2)
def y_X0_rodStep : mM := (yX0_rodStep, cX0_rodStep, 3, (some .int))
def B_X0_rodStep : List (Nat × List mI) := []
def S_X0_rodStep_0 : List mI := [(.iconst 1, 1, [], [1]), (.aload_n 0, 1, [0], []), (.iload_n 1, 1, [1], []), (.iconst 0, 1, [], [0]), (.invokevirtual 90, 3, [0, 8, 2, 0, 60], []), (.iload_n 2, 1, [2], []), (.isub, 1, [], []), (.invokestatic 65, 3, [6, 0, 0, 0, 16], []), (.ireturn, 1, [], [])]
theorem lb_X0_rodStep : B_X0_rodStep.all (fun b => lst y_X0_rodStep.2.1 0 y_X0_rodStep.2.2.1 false b.1 b.2) = true := by decide +kernel
theorem ls_X0_rodStep_0 : lst y_X0_rodStep.2.1 0 y_X0_rodStep.2.2.1 false 0 S_X0_rodStep_0 = true := by decide +kernel
def C_X0_rodStep (N : Nat) : Nat → List Value → mH → (Option Value → mH → Option (Int32 × mH)) → Option (Int32 × mH) := fun j as g k => kb j 8 (pr1 as fun b0 as => pp1 as fun b1 as => pp1 as fun b2 as => pe as ((f_X0_ofKind N b0 b1 b2 g).bind fun p => k (some (.int p.1)) p.2)) (none)
theorem co_X0_rodStep (N : Nat) (q : Int32 × mH) : clOK 5 q (C_X0_rodStep N) := by
  intro j as g k e
  rcases kb_s e with ⟨rfl, e⟩ | e
  · obtain ⟨b0, r0, q0, f0⟩ := pr1_s e
    obtain ⟨b1, r1, q1, f1⟩ := pp1_s f0
    obtain ⟨b2, r2, q2, f2⟩ := pp1_s f1
    obtain ⟨qe, fe⟩ := pe_s f2
    obtain ⟨p, e1, e2⟩ := bnd_s fe
    subst qe
    subst q2
    subst q1
    subst q0
    exact ⟨_, _, _, _, 4, rfl, (by decide), m_X0_ofKind N e1, e2⟩
  cases e
set_option maxRecDepth 100000 in
theorem m_X0_rodStep (N : Nat) {a0 : Nat} {x1 : Int32} {x2 : Int32} {h : mH} {q : Int32 × mH} (hf : f_X0_rodStep N a0 x1 x2 h = some q) : MM y_X0_rodStep 5 [.ref a0, .int x1, .int x2] h (some (.int q.1)) q.2 := by
  refine MM.of (mFx (j := 24) rfl).2.2.2.1 (Nat.le_of_ble_eq_true rfl) (fun X => ?_)
  refine ev_ok (o := 0) (ini := false) (Cl := C_X0_rodStep N) (Rc := RcI) (B := B_X0_rodStep) (K := fun pc ls st g => none) rfl (fun e => by cases e) (by decide) (rcI_ok rfl) ?_ (co_X0_rodStep N q) lb_X0_rodStep 3000 0 S_X0_rodStep_0 _ _ h ls_X0_rodStep_0 hf
  intro pc ls st g e
  cases e
def f_X0_rodsFor (N : Nat) (a0 : Nat) (x1 : Int32) (x2 : Int32) (x3 : Int32) (h : mH) : Option (Int32 × mH) :=
  (rcv h 0 a0).bind fun _ =>
  (f_X0_ofKind N a0 x1 (jI 0) h).bind fun p1 =>
  let w2 := x3 - p1.1
  (rcv p1.2 0 a0).bind fun _ =>
  (f_X0_rodStep N a0 x1 x2 p1.2).bind fun p3 =>
  if 0 < w2 then
    if p3.1 = 0 then none else
    some ((jI 1) + (((w2 + p3.1) - (jI 1)) / p3.1), p3.2)
  else
    some (jI 1, p3.2)
def y_X0_rodsFor : mM := (yX0_rodsFor, cX0_rodsFor, 6, (some .int))
def B_X0_rodsFor : List (Nat × List mI) := [(27, [(.iconst 1, 1, [], [1]), (.iload 4, 2, [4], []), (.iload 5, 2, [5], []), (.iadd, 1, [], []), (.iconst 1, 1, [], [1]), (.isub, 1, [], []), (.iload 5, 2, [5], []), (.idiv, 1, [], []), (.iadd, 1, [], [])]), (39, [(.ireturn, 1, [], [])])]
def S_X0_rodsFor_0 : List mI := [(.iload_n 3, 1, [3], []), (.aload_n 0, 1, [0], []), (.iload_n 1, 1, [1], []), (.iconst 0, 1, [], [0]), (.invokevirtual 90, 3, [0, 8, 2, 0, 60], []), (.isub, 1, [], []), (.istore 4, 2, [4], []), (.aload_n 0, 1, [0], []), (.iload_n 1, 1, [1], []), (.iload_n 2, 1, [2], []), (.invokevirtual 93, 3, [0, 24, 2, 0, 59], []), (.istore 5, 2, [5], []), (.iload 4, 2, [4], []), (.ifCond .gt 7, 3, [27], []), (.iconst 1, 1, [], [1]), (.goto 15, 3, [39], [])]
theorem lb_X0_rodsFor : B_X0_rodsFor.all (fun b => lst y_X0_rodsFor.2.1 0 y_X0_rodsFor.2.2.1 false b.1 b.2) = true := by decide +kernel
theorem ls_X0_rodsFor_0 : lst y_X0_rodsFor.2.1 0 y_X0_rodsFor.2.2.1 false 0 S_X0_rodsFor_0 = true := by decide +kernel
def C_X0_rodsFor (N : Nat) : Nat → List Value → mH → (Option Value → mH → Option (Int32 × mH)) → Option (Int32 × mH) := fun j as g k => kb j 8 (pr1 as fun b0 as => pp1 as fun b1 as => pp1 as fun b2 as => pe as ((f_X0_ofKind N b0 b1 b2 g).bind fun p => k (some (.int p.1)) p.2)) (kb j 24 (pr1 as fun b0 as => pp1 as fun b1 as => pp1 as fun b2 as => pe as ((f_X0_rodStep N b0 b1 b2 g).bind fun p => k (some (.int p.1)) p.2)) (none))
theorem co_X0_rodsFor (N : Nat) (q : Int32 × mH) : clOK 6 q (C_X0_rodsFor N) := by
  intro j as g k e
  rcases kb_s e with ⟨rfl, e⟩ | e
  · obtain ⟨b0, r0, q0, f0⟩ := pr1_s e
    obtain ⟨b1, r1, q1, f1⟩ := pp1_s f0
    obtain ⟨b2, r2, q2, f2⟩ := pp1_s f1
    obtain ⟨qe, fe⟩ := pe_s f2
    obtain ⟨p, e1, e2⟩ := bnd_s fe
    subst qe
    subst q2
    subst q1
    subst q0
    exact ⟨_, _, _, _, 4, rfl, (by decide), m_X0_ofKind N e1, e2⟩
  rcases kb_s e with ⟨rfl, e⟩ | e
  · obtain ⟨b0, r0, q0, f0⟩ := pr1_s e
    obtain ⟨b1, r1, q1, f1⟩ := pp1_s f0
    obtain ⟨b2, r2, q2, f2⟩ := pp1_s f1
    obtain ⟨qe, fe⟩ := pe_s f2
    obtain ⟨p, e1, e2⟩ := bnd_s fe
    subst qe
    subst q2
    subst q1
    subst q0
    exact ⟨_, _, _, _, 5, rfl, (by decide), m_X0_rodStep N e1, e2⟩
  cases e
set_option maxRecDepth 100000 in
theorem m_X0_rodsFor (N : Nat) {a0 : Nat} {x1 : Int32} {x2 : Int32} {x3 : Int32} {h : mH} {q : Int32 × mH} (hf : f_X0_rodsFor N a0 x1 x2 x3 h = some q) : MM y_X0_rodsFor 6 [.ref a0, .int x1, .int x2, .int x3] h (some (.int q.1)) q.2 := by
  refine MM.of (mFx (j := 25) rfl).2.2.2.1 (Nat.le_of_ble_eq_true rfl) (fun X => ?_)
  refine ev_ok (o := 0) (ini := false) (Cl := C_X0_rodsFor N) (Rc := RcI) (B := B_X0_rodsFor) (K := fun pc ls st g => none) rfl (fun e => by cases e) (by decide) (rcI_ok rfl) ?_ (co_X0_rodsFor N q) lb_X0_rodsFor 3000 0 S_X0_rodsFor_0 _ _ h ls_X0_rodsFor_0 hf
  intro pc ls st g e
  cases e
def f_X0_rodAt (N : Nat) (a0 : Nat) (x1 : Int32) (x2 : Int32) (x3 : Int32) (h : mH) : Option (Int32 × mH) :=
  (rcv h 0 a0).bind fun _ =>
  (f_X0_kindOf N a0 x1 x2 h).bind fun p1 =>
  (gI p1.2 0 a0 4).bind fun v2 =>
  (rcv p1.2 0 a0).bind fun _ =>
  (f_X0_rodStep N a0 p1.1 v2 p1.2).bind fun p3 =>
  if p3.1 = 0 then none else
  (gI p3.2 0 a0 4).bind fun v4 =>
  (rcv p3.2 0 a0).bind fun _ =>
  (f_X0_crossingsOf N a0 x1 p3.2).bind fun p5 =>
  (rcv p5.2 0 a0).bind fun _ =>
  (f_X0_rodsFor N a0 p1.1 v4 p5.1 p5.2).bind fun p6 =>
  some (iMin (x3 / p3.1) (p6.1 - (jI 1)), p6.2)
def y_X0_rodAt : mM := (yX0_rodAt, cX0_rodAt, 5, (some .int))
def B_X0_rodAt : List (Nat × List mI) := []
def S_X0_rodAt_0 : List mI := [(.aload_n 0, 1, [0], []), (.iload_n 1, 1, [1], []), (.iload_n 2, 1, [2], []), (.invokevirtual 96, 3, [0, 10, 2, 0, 58], []), (.istore 4, 2, [4], []), (.iload_n 3, 1, [3], []), (.aload_n 0, 1, [0], []), (.iload 4, 2, [4], []), (.aload_n 0, 1, [0], []), (.getfield 21, 3, [0, 4, 0, 14], []), (.invokevirtual 93, 3, [0, 24, 2, 0, 59], []), (.idiv, 1, [], []), (.aload_n 0, 1, [0], []), (.iload 4, 2, [4], []), (.aload_n 0, 1, [0], []), (.getfield 21, 3, [0, 4, 0, 14], []), (.aload_n 0, 1, [0], []), (.iload_n 1, 1, [1], []), (.invokevirtual 61, 3, [0, 14, 1, 0, 56], []), (.invokevirtual 99, 3, [0, 25, 3, 0, 61], []), (.iconst 1, 1, [], [1]), (.isub, 1, [], []), (.invokestatic 87, 3, [7, 0, 0, 0, 17], []), (.ireturn, 1, [], [])]
theorem lb_X0_rodAt : B_X0_rodAt.all (fun b => lst y_X0_rodAt.2.1 0 y_X0_rodAt.2.2.1 false b.1 b.2) = true := by decide +kernel
theorem ls_X0_rodAt_0 : lst y_X0_rodAt.2.1 0 y_X0_rodAt.2.2.1 false 0 S_X0_rodAt_0 = true := by decide +kernel
def C_X0_rodAt (N : Nat) : Nat → List Value → mH → (Option Value → mH → Option (Int32 × mH)) → Option (Int32 × mH) := fun j as g k => kb j 10 (pr1 as fun b0 as => pp1 as fun b1 as => pp1 as fun b2 as => pe as ((f_X0_kindOf N b0 b1 b2 g).bind fun p => k (some (.int p.1)) p.2)) (kb j 24 (pr1 as fun b0 as => pp1 as fun b1 as => pp1 as fun b2 as => pe as ((f_X0_rodStep N b0 b1 b2 g).bind fun p => k (some (.int p.1)) p.2)) (kb j 14 (pr1 as fun b0 as => pp1 as fun b1 as => pe as ((f_X0_crossingsOf N b0 b1 g).bind fun p => k (some (.int p.1)) p.2)) (kb j 25 (pr1 as fun b0 as => pp1 as fun b1 as => pp1 as fun b2 as => pp1 as fun b3 as => pe as ((f_X0_rodsFor N b0 b1 b2 b3 g).bind fun p => k (some (.int p.1)) p.2)) (none))))
theorem co_X0_rodAt (N : Nat) (q : Int32 × mH) : clOK 7 q (C_X0_rodAt N) := by
  intro j as g k e
  rcases kb_s e with ⟨rfl, e⟩ | e
  · obtain ⟨b0, r0, q0, f0⟩ := pr1_s e
    obtain ⟨b1, r1, q1, f1⟩ := pp1_s f0
    obtain ⟨b2, r2, q2, f2⟩ := pp1_s f1
    obtain ⟨qe, fe⟩ := pe_s f2
    obtain ⟨p, e1, e2⟩ := bnd_s fe
    subst qe
    subst q2
    subst q1
    subst q0
    exact ⟨_, _, _, _, 5, rfl, (by decide), m_X0_kindOf N e1, e2⟩
  rcases kb_s e with ⟨rfl, e⟩ | e
  · obtain ⟨b0, r0, q0, f0⟩ := pr1_s e
    obtain ⟨b1, r1, q1, f1⟩ := pp1_s f0
    obtain ⟨b2, r2, q2, f2⟩ := pp1_s f1
    obtain ⟨qe, fe⟩ := pe_s f2
    obtain ⟨p, e1, e2⟩ := bnd_s fe
    subst qe
    subst q2
    subst q1
    subst q0
    exact ⟨_, _, _, _, 5, rfl, (by decide), m_X0_rodStep N e1, e2⟩
  rcases kb_s e with ⟨rfl, e⟩ | e
  · obtain ⟨b0, r0, q0, f0⟩ := pr1_s e
    obtain ⟨b1, r1, q1, f1⟩ := pp1_s f0
    obtain ⟨qe, fe⟩ := pe_s f1
    obtain ⟨p, e1, e2⟩ := bnd_s fe
    subst qe
    subst q1
    subst q0
    exact ⟨_, _, _, _, 5, rfl, (by decide), m_X0_crossingsOf N e1, e2⟩
  rcases kb_s e with ⟨rfl, e⟩ | e
  · obtain ⟨b0, r0, q0, f0⟩ := pr1_s e
    obtain ⟨b1, r1, q1, f1⟩ := pp1_s f0
    obtain ⟨b2, r2, q2, f2⟩ := pp1_s f1
    obtain ⟨b3, r3, q3, f3⟩ := pp1_s f2
    obtain ⟨qe, fe⟩ := pe_s f3
    obtain ⟨p, e1, e2⟩ := bnd_s fe
    subst qe
    subst q3
    subst q2
    subst q1
    subst q0
    exact ⟨_, _, _, _, 6, rfl, (by decide), m_X0_rodsFor N e1, e2⟩
  cases e
set_option maxRecDepth 100000 in
theorem m_X0_rodAt (N : Nat) {a0 : Nat} {x1 : Int32} {x2 : Int32} {x3 : Int32} {h : mH} {q : Int32 × mH} (hf : f_X0_rodAt N a0 x1 x2 x3 h = some q) : MM y_X0_rodAt 7 [.ref a0, .int x1, .int x2, .int x3] h (some (.int q.1)) q.2 := by
  refine MM.of (mFx (j := 26) rfl).2.2.2.1 (Nat.le_of_ble_eq_true rfl) (fun X => ?_)
  refine ev_ok (o := 0) (ini := false) (Cl := C_X0_rodAt N) (Rc := RcI) (B := B_X0_rodAt) (K := fun pc ls st g => none) rfl (fun e => by cases e) (by decide) (rcI_ok rfl) ?_ (co_X0_rodAt N q) lb_X0_rodAt 3000 0 S_X0_rodAt_0 _ _ h ls_X0_rodAt_0 hf
  intro pc ls st g e
  cases e
def L_X0_weaversOfKind_5 (N : Nat) : Nat → Nat → Int32 → Int32 → Int32 → Int32 → mH → Option (Int32 × mH)
  | 0, _, _, _, _, _, _ => none
  | n + 1, a0, x1, x2, x3, x4, h =>
    (rcv h 0 a0).bind fun _ =>
    (f_X0_ofBand N a0 x1 (jI 0) h).bind fun p1 =>
    if x4 < p1.1 then
      (rcv p1.2 0 a0).bind fun _ =>
      (f_X0_kindOf N a0 x1 x4 p1.2).bind fun p2 =>
      if p2.1 = x2 then
        let w3 := x3 + jI 1
        let w4 := x4 + jI 1
        L_X0_weaversOfKind_5 N n a0 x1 x2 w3 w4 p2.2
      else
        let w5 := x4 + jI 1
        L_X0_weaversOfKind_5 N n a0 x1 x2 x3 w5 p2.2
    else
      some (x3, p1.2)
def f_X0_weaversOfKind (N : Nat) (a0 : Nat) (x1 : Int32) (x2 : Int32) (h : mH) : Option (Int32 × mH) :=
  L_X0_weaversOfKind_5 N N a0 x1 x2 (jI 0) (jI 0) h
def y_X0_weaversOfKind : mM := (yX0_weaversOfKind, cX0_weaversOfKind, 5, (some .int))
def B_X0_weaversOfKind : List (Nat × List mI) := [(30, [(.iinc 4 1, 3, [4], [1]), (.goto (-28), 3, [5], [])]), (36, [(.iload_n 3, 1, [3], []), (.ireturn, 1, [], [])])]
def S_X0_weaversOfKind_0 : List mI := [(.iconst 0, 1, [], [0]), (.istore_n 3, 1, [3], []), (.iconst 0, 1, [], [0]), (.istore 4, 2, [4], [])]
def S_X0_weaversOfKind_5 : List mI := [(.iload 4, 2, [4], []), (.aload_n 0, 1, [0], []), (.iload_n 1, 1, [1], []), (.iconst 0, 1, [], [0]), (.invokevirtual 53, 3, [0, 9, 2, 0, 33], []), (.if_icmp .ge 23, 3, [36], []), (.aload_n 0, 1, [0], []), (.iload_n 1, 1, [1], []), (.iload 4, 2, [4], []), (.invokevirtual 96, 3, [0, 10, 2, 0, 58], []), (.iload_n 2, 1, [2], []), (.if_icmp .ne 6, 3, [30], []), (.iinc 3 1, 3, [3], [1])]
theorem lb_X0_weaversOfKind : B_X0_weaversOfKind.all (fun b => lst y_X0_weaversOfKind.2.1 0 y_X0_weaversOfKind.2.2.1 false b.1 b.2) = true := by decide +kernel
theorem ls_X0_weaversOfKind_0 : lst y_X0_weaversOfKind.2.1 0 y_X0_weaversOfKind.2.2.1 false 0 S_X0_weaversOfKind_0 = true := by decide +kernel
theorem ls_X0_weaversOfKind_5 : lst y_X0_weaversOfKind.2.1 0 y_X0_weaversOfKind.2.2.1 false 5 S_X0_weaversOfKind_5 = true := by decide +kernel
def C_X0_weaversOfKind (N : Nat) : Nat → List Value → mH → (Option Value → mH → Option (Int32 × mH)) → Option (Int32 × mH) := fun j as g k => kb j 9 (pr1 as fun b0 as => pp1 as fun b1 as => pp1 as fun b2 as => pe as ((f_X0_ofBand N b0 b1 b2 g).bind fun p => k (some (.int p.1)) p.2)) (kb j 10 (pr1 as fun b0 as => pp1 as fun b1 as => pp1 as fun b2 as => pe as ((f_X0_kindOf N b0 b1 b2 g).bind fun p => k (some (.int p.1)) p.2)) (none))
theorem co_X0_weaversOfKind (N : Nat) (q : Int32 × mH) : clOK 6 q (C_X0_weaversOfKind N) := by
  intro j as g k e
  rcases kb_s e with ⟨rfl, e⟩ | e
  · obtain ⟨b0, r0, q0, f0⟩ := pr1_s e
    obtain ⟨b1, r1, q1, f1⟩ := pp1_s f0
    obtain ⟨b2, r2, q2, f2⟩ := pp1_s f1
    obtain ⟨qe, fe⟩ := pe_s f2
    obtain ⟨p, e1, e2⟩ := bnd_s fe
    subst qe
    subst q2
    subst q1
    subst q0
    exact ⟨_, _, _, _, 4, rfl, (by decide), m_X0_ofBand N e1, e2⟩
  rcases kb_s e with ⟨rfl, e⟩ | e
  · obtain ⟨b0, r0, q0, f0⟩ := pr1_s e
    obtain ⟨b1, r1, q1, f1⟩ := pp1_s f0
    obtain ⟨b2, r2, q2, f2⟩ := pp1_s f1
    obtain ⟨qe, fe⟩ := pe_s f2
    obtain ⟨p, e1, e2⟩ := bnd_s fe
    subst qe
    subst q2
    subst q1
    subst q0
    exact ⟨_, _, _, _, 5, rfl, (by decide), m_X0_kindOf N e1, e2⟩
  cases e
set_option maxRecDepth 100000 in
theorem t_X0_weaversOfKind_5 {X : Nat × (Nat → Int32)} (N : Nat) {q : Int32 × mH} : ∀ (n : Nat) (a0 : Nat) (x1 : Int32) (x2 : Int32) (x3 : Int32) (x4 : Int32) (h : mH), L_X0_weaversOfKind_5 N n a0 x1 x2 x3 x4 h = some q → MW X y_X0_weaversOfKind 6 5 [(0, .ref a0), (1, .int x1), (2, .int x2), (3, .int x3), (4, .int x4)] [] h (some (.int q.1)) q.2 := by
  intro n
  induction n with
  | zero => intro a0 x1 x2 x3 x4 h hf; cases hf
  | succ n ih =>
    intro a0 x1 x2 x3 x4 h hf
    refine ev_ok (o := 0) (ini := false) (Cl := C_X0_weaversOfKind N) (Rc := RcI) (B := B_X0_weaversOfKind) (K := fun pc ls st g => kb pc 5 (lgr 0 ls fun a0 => lgi 1 ls fun x1 => lgi 2 ls fun x2 => lgi 3 ls fun x3 => lgi 4 ls fun x4 => pe st (L_X0_weaversOfKind_5 N n a0 x1 x2 x3 x4 g)) (none)) rfl (fun e => by cases e) (by decide) (rcI_ok rfl) ?_ (co_X0_weaversOfKind N q) lb_X0_weaversOfKind 3000 5 S_X0_weaversOfKind_5 _ _ h ls_X0_weaversOfKind_5 hf
    intro pc ls st g e
    rcases kb_s e with ⟨rfl, e⟩ | e
    · obtain ⟨a0, e0, f0⟩ := lgr_s e
      obtain ⟨x1, e1, f1⟩ := lgi_s f0
      obtain ⟨x2, e2, f2⟩ := lgi_s f1
      obtain ⟨x3, e3, f3⟩ := lgi_s f2
      obtain ⟨x4, e4, f4⟩ := lgi_s f3
      obtain ⟨qe, fe⟩ := pe_s f4
      subst qe
      exact MW.sub (List.forall_mem_cons.mpr ⟨lg_mem e0, List.forall_mem_cons.mpr ⟨lg_mem e1, List.forall_mem_cons.mpr ⟨lg_mem e2, List.forall_mem_cons.mpr ⟨lg_mem e3, List.forall_mem_cons.mpr ⟨lg_mem e4, fun _ h => absurd h List.not_mem_nil⟩⟩⟩⟩⟩) (ih a0 x1 x2 x3 x4 g fe)
    cases e
set_option maxRecDepth 100000 in
theorem m_X0_weaversOfKind (N : Nat) {a0 : Nat} {x1 : Int32} {x2 : Int32} {h : mH} {q : Int32 × mH} (hf : f_X0_weaversOfKind N a0 x1 x2 h = some q) : MM y_X0_weaversOfKind 6 [.ref a0, .int x1, .int x2] h (some (.int q.1)) q.2 := by
  refine MM.of (mFx (j := 27) rfl).2.2.2.1 (Nat.le_of_ble_eq_true rfl) (fun X => ?_)
  refine ev_ok (o := 0) (ini := false) (Cl := C_X0_weaversOfKind N) (Rc := RcI) (B := B_X0_weaversOfKind) (K := fun pc ls st g => kb pc 5 (lgr 0 ls fun a0 => lgi 1 ls fun x1 => lgi 2 ls fun x2 => lgi 3 ls fun x3 => lgi 4 ls fun x4 => pe st (L_X0_weaversOfKind_5 N N a0 x1 x2 x3 x4 g)) (none)) rfl (fun e => by cases e) (by decide) (rcI_ok rfl) ?_ (co_X0_weaversOfKind N q) lb_X0_weaversOfKind 3000 0 S_X0_weaversOfKind_0 _ _ h ls_X0_weaversOfKind_0 hf
  intro pc ls st g e
  rcases kb_s e with ⟨rfl, e⟩ | e
  · obtain ⟨a0, e0, f0⟩ := lgr_s e
    obtain ⟨x1, e1, f1⟩ := lgi_s f0
    obtain ⟨x2, e2, f2⟩ := lgi_s f1
    obtain ⟨x3, e3, f3⟩ := lgi_s f2
    obtain ⟨x4, e4, f4⟩ := lgi_s f3
    obtain ⟨qe, fe⟩ := pe_s f4
    subst qe
    exact MW.sub (List.forall_mem_cons.mpr ⟨lg_mem e0, List.forall_mem_cons.mpr ⟨lg_mem e1, List.forall_mem_cons.mpr ⟨lg_mem e2, List.forall_mem_cons.mpr ⟨lg_mem e3, List.forall_mem_cons.mpr ⟨lg_mem e4, fun _ h => absurd h List.not_mem_nil⟩⟩⟩⟩⟩) (t_X0_weaversOfKind_5 N N a0 x1 x2 x3 x4 g fe)
  cases e
def L_X0_rodsTaken_4 (N : Nat) : Nat → Nat → Int32 → Int32 → Int32 → mH → Option (Int32 × mH)
  | 0, _, _, _, _, _ => none
  | n + 1, a0, x1, x2, x3, h =>
    (gI h 0 a0 2).bind fun v1 =>
    if x3 < v1 then
      (rcv h 0 a0).bind fun _ =>
      (f_X0_weaversOfKind N a0 x3 x1 h).bind fun p2 =>
      (gI p2.2 0 a0 4).bind fun v3 =>
      (rcv p2.2 0 a0).bind fun _ =>
      (f_X0_crossingsOf N a0 x3 p2.2).bind fun p4 =>
      (rcv p4.2 0 a0).bind fun _ =>
      (f_X0_rodsFor N a0 x1 v3 p4.1 p4.2).bind fun p5 =>
      let w6 := x2 + (p2.1 * p5.1)
      let w7 := x3 + jI 1
      L_X0_rodsTaken_4 N n a0 x1 w6 w7 p5.2
    else
      some (x2, h)
def f_X0_rodsTaken (N : Nat) (a0 : Nat) (x1 : Int32) (h : mH) : Option (Int32 × mH) :=
  L_X0_rodsTaken_4 N N a0 x1 (jI 0) (jI 0) h
def y_X0_rodsTaken : mM := (yX0_rodsTaken, cX0_rodsTaken, 4, (some .int))
def B_X0_rodsTaken : List (Nat × List mI) := [(42, [(.iload_n 2, 1, [2], []), (.ireturn, 1, [], [])])]
def S_X0_rodsTaken_0 : List mI := [(.iconst 0, 1, [], [0]), (.istore_n 2, 1, [2], []), (.iconst 0, 1, [], [0]), (.istore_n 3, 1, [3], [])]
def S_X0_rodsTaken_4 : List mI := [(.iload_n 3, 1, [3], []), (.aload_n 0, 1, [0], []), (.getfield 34, 3, [0, 2, 0, 7], []), (.if_icmp .ge 33, 3, [42], []), (.iload_n 2, 1, [2], []), (.aload_n 0, 1, [0], []), (.iload_n 3, 1, [3], []), (.iload_n 1, 1, [1], []), (.invokevirtual 102, 3, [0, 27, 2, 0, 156], []), (.aload_n 0, 1, [0], []), (.iload_n 1, 1, [1], []), (.aload_n 0, 1, [0], []), (.getfield 21, 3, [0, 4, 0, 14], []), (.aload_n 0, 1, [0], []), (.iload_n 3, 1, [3], []), (.invokevirtual 61, 3, [0, 14, 1, 0, 56], []), (.invokevirtual 99, 3, [0, 25, 3, 0, 61], []), (.imul, 1, [], []), (.iadd, 1, [], []), (.istore_n 2, 1, [2], []), (.iinc 3 1, 3, [3], [1]), (.goto (-35), 3, [4], [])]
theorem lb_X0_rodsTaken : B_X0_rodsTaken.all (fun b => lst y_X0_rodsTaken.2.1 0 y_X0_rodsTaken.2.2.1 false b.1 b.2) = true := by decide +kernel
theorem ls_X0_rodsTaken_0 : lst y_X0_rodsTaken.2.1 0 y_X0_rodsTaken.2.2.1 false 0 S_X0_rodsTaken_0 = true := by decide +kernel
theorem ls_X0_rodsTaken_4 : lst y_X0_rodsTaken.2.1 0 y_X0_rodsTaken.2.2.1 false 4 S_X0_rodsTaken_4 = true := by decide +kernel
def C_X0_rodsTaken (N : Nat) : Nat → List Value → mH → (Option Value → mH → Option (Int32 × mH)) → Option (Int32 × mH) := fun j as g k => kb j 27 (pr1 as fun b0 as => pp1 as fun b1 as => pp1 as fun b2 as => pe as ((f_X0_weaversOfKind N b0 b1 b2 g).bind fun p => k (some (.int p.1)) p.2)) (kb j 14 (pr1 as fun b0 as => pp1 as fun b1 as => pe as ((f_X0_crossingsOf N b0 b1 g).bind fun p => k (some (.int p.1)) p.2)) (kb j 25 (pr1 as fun b0 as => pp1 as fun b1 as => pp1 as fun b2 as => pp1 as fun b3 as => pe as ((f_X0_rodsFor N b0 b1 b2 b3 g).bind fun p => k (some (.int p.1)) p.2)) (none)))
theorem co_X0_rodsTaken (N : Nat) (q : Int32 × mH) : clOK 7 q (C_X0_rodsTaken N) := by
  intro j as g k e
  rcases kb_s e with ⟨rfl, e⟩ | e
  · obtain ⟨b0, r0, q0, f0⟩ := pr1_s e
    obtain ⟨b1, r1, q1, f1⟩ := pp1_s f0
    obtain ⟨b2, r2, q2, f2⟩ := pp1_s f1
    obtain ⟨qe, fe⟩ := pe_s f2
    obtain ⟨p, e1, e2⟩ := bnd_s fe
    subst qe
    subst q2
    subst q1
    subst q0
    exact ⟨_, _, _, _, 6, rfl, (by decide), m_X0_weaversOfKind N e1, e2⟩
  rcases kb_s e with ⟨rfl, e⟩ | e
  · obtain ⟨b0, r0, q0, f0⟩ := pr1_s e
    obtain ⟨b1, r1, q1, f1⟩ := pp1_s f0
    obtain ⟨qe, fe⟩ := pe_s f1
    obtain ⟨p, e1, e2⟩ := bnd_s fe
    subst qe
    subst q1
    subst q0
    exact ⟨_, _, _, _, 5, rfl, (by decide), m_X0_crossingsOf N e1, e2⟩
  rcases kb_s e with ⟨rfl, e⟩ | e
  · obtain ⟨b0, r0, q0, f0⟩ := pr1_s e
    obtain ⟨b1, r1, q1, f1⟩ := pp1_s f0
    obtain ⟨b2, r2, q2, f2⟩ := pp1_s f1
    obtain ⟨b3, r3, q3, f3⟩ := pp1_s f2
    obtain ⟨qe, fe⟩ := pe_s f3
    obtain ⟨p, e1, e2⟩ := bnd_s fe
    subst qe
    subst q3
    subst q2
    subst q1
    subst q0
    exact ⟨_, _, _, _, 6, rfl, (by decide), m_X0_rodsFor N e1, e2⟩
  cases e
set_option maxRecDepth 100000 in
theorem t_X0_rodsTaken_4 {X : Nat × (Nat → Int32)} (N : Nat) {q : Int32 × mH} : ∀ (n : Nat) (a0 : Nat) (x1 : Int32) (x2 : Int32) (x3 : Int32) (h : mH), L_X0_rodsTaken_4 N n a0 x1 x2 x3 h = some q → MW X y_X0_rodsTaken 7 4 [(0, .ref a0), (1, .int x1), (2, .int x2), (3, .int x3)] [] h (some (.int q.1)) q.2 := by
  intro n
  induction n with
  | zero => intro a0 x1 x2 x3 h hf; cases hf
  | succ n ih =>
    intro a0 x1 x2 x3 h hf
    refine ev_ok (o := 0) (ini := false) (Cl := C_X0_rodsTaken N) (Rc := RcI) (B := B_X0_rodsTaken) (K := fun pc ls st g => kb pc 4 (lgr 0 ls fun a0 => lgi 1 ls fun x1 => lgi 2 ls fun x2 => lgi 3 ls fun x3 => pe st (L_X0_rodsTaken_4 N n a0 x1 x2 x3 g)) (none)) rfl (fun e => by cases e) (by decide) (rcI_ok rfl) ?_ (co_X0_rodsTaken N q) lb_X0_rodsTaken 3000 4 S_X0_rodsTaken_4 _ _ h ls_X0_rodsTaken_4 hf
    intro pc ls st g e
    rcases kb_s e with ⟨rfl, e⟩ | e
    · obtain ⟨a0, e0, f0⟩ := lgr_s e
      obtain ⟨x1, e1, f1⟩ := lgi_s f0
      obtain ⟨x2, e2, f2⟩ := lgi_s f1
      obtain ⟨x3, e3, f3⟩ := lgi_s f2
      obtain ⟨qe, fe⟩ := pe_s f3
      subst qe
      exact MW.sub (List.forall_mem_cons.mpr ⟨lg_mem e0, List.forall_mem_cons.mpr ⟨lg_mem e1, List.forall_mem_cons.mpr ⟨lg_mem e2, List.forall_mem_cons.mpr ⟨lg_mem e3, fun _ h => absurd h List.not_mem_nil⟩⟩⟩⟩) (ih a0 x1 x2 x3 g fe)
    cases e
set_option maxRecDepth 100000 in
theorem m_X0_rodsTaken (N : Nat) {a0 : Nat} {x1 : Int32} {h : mH} {q : Int32 × mH} (hf : f_X0_rodsTaken N a0 x1 h = some q) : MM y_X0_rodsTaken 7 [.ref a0, .int x1] h (some (.int q.1)) q.2 := by
  refine MM.of (mFx (j := 28) rfl).2.2.2.1 (Nat.le_of_ble_eq_true rfl) (fun X => ?_)
  refine ev_ok (o := 0) (ini := false) (Cl := C_X0_rodsTaken N) (Rc := RcI) (B := B_X0_rodsTaken) (K := fun pc ls st g => kb pc 4 (lgr 0 ls fun a0 => lgi 1 ls fun x1 => lgi 2 ls fun x2 => lgi 3 ls fun x3 => pe st (L_X0_rodsTaken_4 N N a0 x1 x2 x3 g)) (none)) rfl (fun e => by cases e) (by decide) (rcI_ok rfl) ?_ (co_X0_rodsTaken N q) lb_X0_rodsTaken 3000 0 S_X0_rodsTaken_0 _ _ h ls_X0_rodsTaken_0 hf
  intro pc ls st g e
  rcases kb_s e with ⟨rfl, e⟩ | e
  · obtain ⟨a0, e0, f0⟩ := lgr_s e
    obtain ⟨x1, e1, f1⟩ := lgi_s f0
    obtain ⟨x2, e2, f2⟩ := lgi_s f1
    obtain ⟨x3, e3, f3⟩ := lgi_s f2
    obtain ⟨qe, fe⟩ := pe_s f3
    subst qe
    exact MW.sub (List.forall_mem_cons.mpr ⟨lg_mem e0, List.forall_mem_cons.mpr ⟨lg_mem e1, List.forall_mem_cons.mpr ⟨lg_mem e2, List.forall_mem_cons.mpr ⟨lg_mem e3, fun _ h => absurd h List.not_mem_nil⟩⟩⟩⟩) (t_X0_rodsTaken_4 N N a0 x1 x2 x3 g fe)
  cases e
def L_X0_leftOver_4 (N : Nat) : Nat → Nat → Int32 → Int32 → Int32 → mH → Option (Int32 × mH)
  | 0, _, _, _, _, _ => none
  | n + 1, a0, x1, x2, x3, h =>
    (gI h 0 a0 2).bind fun v1 =>
    if x3 < v1 then
      (gI h 0 a0 4).bind fun v2 =>
      (rcv h 0 a0).bind fun _ =>
      (f_X0_crossingsOf N a0 x3 h).bind fun p3 =>
      (rcv p3.2 0 a0).bind fun _ =>
      (f_X0_rodsFor N a0 x1 v2 p3.1 p3.2).bind fun p4 =>
      (gI p4.2 0 a0 4).bind fun v5 =>
      (rcv p4.2 0 a0).bind fun _ =>
      (f_X0_rodStep N a0 x1 v5 p4.2).bind fun p6 =>
      let w7 := (p4.1 - (jI 1)) * p6.1
      (rcv p6.2 0 a0).bind fun _ =>
      (f_X0_ofKind N a0 x1 (jI 0) p6.2).bind fun p8 =>
      (rcv p8.2 0 a0).bind fun _ =>
      (f_X0_crossingsOf N a0 x3 p8.2).bind fun p9 =>
      let w10 := (w7 + p8.1) - p9.1
      (rcv p9.2 0 a0).bind fun _ =>
      (f_X0_weaversOfKind N a0 x3 x1 p9.2).bind fun p11 =>
      let w12 := x2 + (p11.1 * w10)
      let w13 := x3 + jI 1
      L_X0_leftOver_4 N n a0 x1 w12 w13 p11.2
    else
      some (x2, h)
def f_X0_leftOver (N : Nat) (a0 : Nat) (x1 : Int32) (h : mH) : Option (Int32 × mH) :=
  L_X0_leftOver_4 N N a0 x1 (jI 0) (jI 0) h
def y_X0_leftOver : mM := (yX0_leftOver, cX0_leftOver, 6, (some .int))
def B_X0_leftOver : List (Nat × List mI) := [(75, [(.iload_n 2, 1, [2], []), (.ireturn, 1, [], [])])]
def S_X0_leftOver_0 : List mI := [(.iconst 0, 1, [], [0]), (.istore_n 2, 1, [2], []), (.iconst 0, 1, [], [0]), (.istore_n 3, 1, [3], [])]
def S_X0_leftOver_4 : List mI := [(.iload_n 3, 1, [3], []), (.aload_n 0, 1, [0], []), (.getfield 34, 3, [0, 2, 0, 7], []), (.if_icmp .ge 66, 3, [75], []), (.aload_n 0, 1, [0], []), (.iload_n 1, 1, [1], []), (.aload_n 0, 1, [0], []), (.getfield 21, 3, [0, 4, 0, 14], []), (.aload_n 0, 1, [0], []), (.iload_n 3, 1, [3], []), (.invokevirtual 61, 3, [0, 14, 1, 0, 56], []), (.invokevirtual 99, 3, [0, 25, 3, 0, 61], []), (.iconst 1, 1, [], [1]), (.isub, 1, [], []), (.aload_n 0, 1, [0], []), (.iload_n 1, 1, [1], []), (.aload_n 0, 1, [0], []), (.getfield 21, 3, [0, 4, 0, 14], []), (.invokevirtual 93, 3, [0, 24, 2, 0, 59], []), (.imul, 1, [], []), (.istore 4, 2, [4], []), (.iload 4, 2, [4], []), (.aload_n 0, 1, [0], []), (.iload_n 1, 1, [1], []), (.iconst 0, 1, [], [0]), (.invokevirtual 90, 3, [0, 8, 2, 0, 60], []), (.iadd, 1, [], []), (.aload_n 0, 1, [0], []), (.iload_n 3, 1, [3], []), (.invokevirtual 61, 3, [0, 14, 1, 0, 56], []), (.isub, 1, [], []), (.istore 5, 2, [5], []), (.iload_n 2, 1, [2], []), (.aload_n 0, 1, [0], []), (.iload_n 3, 1, [3], []), (.iload_n 1, 1, [1], []), (.invokevirtual 102, 3, [0, 27, 2, 0, 156], []), (.iload 5, 2, [5], []), (.imul, 1, [], []), (.iadd, 1, [], []), (.istore_n 2, 1, [2], []), (.iinc 3 1, 3, [3], [1]), (.goto (-68), 3, [4], [])]
theorem lb_X0_leftOver : B_X0_leftOver.all (fun b => lst y_X0_leftOver.2.1 0 y_X0_leftOver.2.2.1 false b.1 b.2) = true := by decide +kernel
theorem ls_X0_leftOver_0 : lst y_X0_leftOver.2.1 0 y_X0_leftOver.2.2.1 false 0 S_X0_leftOver_0 = true := by decide +kernel
theorem ls_X0_leftOver_4 : lst y_X0_leftOver.2.1 0 y_X0_leftOver.2.2.1 false 4 S_X0_leftOver_4 = true := by decide +kernel
def C_X0_leftOver (N : Nat) : Nat → List Value → mH → (Option Value → mH → Option (Int32 × mH)) → Option (Int32 × mH) := fun j as g k => kb j 14 (pr1 as fun b0 as => pp1 as fun b1 as => pe as ((f_X0_crossingsOf N b0 b1 g).bind fun p => k (some (.int p.1)) p.2)) (kb j 25 (pr1 as fun b0 as => pp1 as fun b1 as => pp1 as fun b2 as => pp1 as fun b3 as => pe as ((f_X0_rodsFor N b0 b1 b2 b3 g).bind fun p => k (some (.int p.1)) p.2)) (kb j 24 (pr1 as fun b0 as => pp1 as fun b1 as => pp1 as fun b2 as => pe as ((f_X0_rodStep N b0 b1 b2 g).bind fun p => k (some (.int p.1)) p.2)) (kb j 8 (pr1 as fun b0 as => pp1 as fun b1 as => pp1 as fun b2 as => pe as ((f_X0_ofKind N b0 b1 b2 g).bind fun p => k (some (.int p.1)) p.2)) (kb j 27 (pr1 as fun b0 as => pp1 as fun b1 as => pp1 as fun b2 as => pe as ((f_X0_weaversOfKind N b0 b1 b2 g).bind fun p => k (some (.int p.1)) p.2)) (none)))))
theorem co_X0_leftOver (N : Nat) (q : Int32 × mH) : clOK 7 q (C_X0_leftOver N) := by
  intro j as g k e
  rcases kb_s e with ⟨rfl, e⟩ | e
  · obtain ⟨b0, r0, q0, f0⟩ := pr1_s e
    obtain ⟨b1, r1, q1, f1⟩ := pp1_s f0
    obtain ⟨qe, fe⟩ := pe_s f1
    obtain ⟨p, e1, e2⟩ := bnd_s fe
    subst qe
    subst q1
    subst q0
    exact ⟨_, _, _, _, 5, rfl, (by decide), m_X0_crossingsOf N e1, e2⟩
  rcases kb_s e with ⟨rfl, e⟩ | e
  · obtain ⟨b0, r0, q0, f0⟩ := pr1_s e
    obtain ⟨b1, r1, q1, f1⟩ := pp1_s f0
    obtain ⟨b2, r2, q2, f2⟩ := pp1_s f1
    obtain ⟨b3, r3, q3, f3⟩ := pp1_s f2
    obtain ⟨qe, fe⟩ := pe_s f3
    obtain ⟨p, e1, e2⟩ := bnd_s fe
    subst qe
    subst q3
    subst q2
    subst q1
    subst q0
    exact ⟨_, _, _, _, 6, rfl, (by decide), m_X0_rodsFor N e1, e2⟩
  rcases kb_s e with ⟨rfl, e⟩ | e
  · obtain ⟨b0, r0, q0, f0⟩ := pr1_s e
    obtain ⟨b1, r1, q1, f1⟩ := pp1_s f0
    obtain ⟨b2, r2, q2, f2⟩ := pp1_s f1
    obtain ⟨qe, fe⟩ := pe_s f2
    obtain ⟨p, e1, e2⟩ := bnd_s fe
    subst qe
    subst q2
    subst q1
    subst q0
    exact ⟨_, _, _, _, 5, rfl, (by decide), m_X0_rodStep N e1, e2⟩
  rcases kb_s e with ⟨rfl, e⟩ | e
  · obtain ⟨b0, r0, q0, f0⟩ := pr1_s e
    obtain ⟨b1, r1, q1, f1⟩ := pp1_s f0
    obtain ⟨b2, r2, q2, f2⟩ := pp1_s f1
    obtain ⟨qe, fe⟩ := pe_s f2
    obtain ⟨p, e1, e2⟩ := bnd_s fe
    subst qe
    subst q2
    subst q1
    subst q0
    exact ⟨_, _, _, _, 4, rfl, (by decide), m_X0_ofKind N e1, e2⟩
  rcases kb_s e with ⟨rfl, e⟩ | e
  · obtain ⟨b0, r0, q0, f0⟩ := pr1_s e
    obtain ⟨b1, r1, q1, f1⟩ := pp1_s f0
    obtain ⟨b2, r2, q2, f2⟩ := pp1_s f1
    obtain ⟨qe, fe⟩ := pe_s f2
    obtain ⟨p, e1, e2⟩ := bnd_s fe
    subst qe
    subst q2
    subst q1
    subst q0
    exact ⟨_, _, _, _, 6, rfl, (by decide), m_X0_weaversOfKind N e1, e2⟩
  cases e
set_option maxRecDepth 100000 in
theorem t_X0_leftOver_4 {X : Nat × (Nat → Int32)} (N : Nat) {q : Int32 × mH} : ∀ (n : Nat) (a0 : Nat) (x1 : Int32) (x2 : Int32) (x3 : Int32) (h : mH), L_X0_leftOver_4 N n a0 x1 x2 x3 h = some q → MW X y_X0_leftOver 7 4 [(0, .ref a0), (1, .int x1), (2, .int x2), (3, .int x3)] [] h (some (.int q.1)) q.2 := by
  intro n
  induction n with
  | zero => intro a0 x1 x2 x3 h hf; cases hf
  | succ n ih =>
    intro a0 x1 x2 x3 h hf
    refine ev_ok (o := 0) (ini := false) (Cl := C_X0_leftOver N) (Rc := RcI) (B := B_X0_leftOver) (K := fun pc ls st g => kb pc 4 (lgr 0 ls fun a0 => lgi 1 ls fun x1 => lgi 2 ls fun x2 => lgi 3 ls fun x3 => pe st (L_X0_leftOver_4 N n a0 x1 x2 x3 g)) (none)) rfl (fun e => by cases e) (by decide) (rcI_ok rfl) ?_ (co_X0_leftOver N q) lb_X0_leftOver 3000 4 S_X0_leftOver_4 _ _ h ls_X0_leftOver_4 hf
    intro pc ls st g e
    rcases kb_s e with ⟨rfl, e⟩ | e
    · obtain ⟨a0, e0, f0⟩ := lgr_s e
      obtain ⟨x1, e1, f1⟩ := lgi_s f0
      obtain ⟨x2, e2, f2⟩ := lgi_s f1
      obtain ⟨x3, e3, f3⟩ := lgi_s f2
      obtain ⟨qe, fe⟩ := pe_s f3
      subst qe
      exact MW.sub (List.forall_mem_cons.mpr ⟨lg_mem e0, List.forall_mem_cons.mpr ⟨lg_mem e1, List.forall_mem_cons.mpr ⟨lg_mem e2, List.forall_mem_cons.mpr ⟨lg_mem e3, fun _ h => absurd h List.not_mem_nil⟩⟩⟩⟩) (ih a0 x1 x2 x3 g fe)
    cases e
set_option maxRecDepth 100000 in
theorem m_X0_leftOver (N : Nat) {a0 : Nat} {x1 : Int32} {h : mH} {q : Int32 × mH} (hf : f_X0_leftOver N a0 x1 h = some q) : MM y_X0_leftOver 7 [.ref a0, .int x1] h (some (.int q.1)) q.2 := by
  refine MM.of (mFx (j := 29) rfl).2.2.2.1 (Nat.le_of_ble_eq_true rfl) (fun X => ?_)
  refine ev_ok (o := 0) (ini := false) (Cl := C_X0_leftOver N) (Rc := RcI) (B := B_X0_leftOver) (K := fun pc ls st g => kb pc 4 (lgr 0 ls fun a0 => lgi 1 ls fun x1 => lgi 2 ls fun x2 => lgi 3 ls fun x3 => pe st (L_X0_leftOver_4 N N a0 x1 x2 x3 g)) (none)) rfl (fun e => by cases e) (by decide) (rcI_ok rfl) ?_ (co_X0_leftOver N q) lb_X0_leftOver 3000 0 S_X0_leftOver_0 _ _ h ls_X0_leftOver_0 hf
  intro pc ls st g e
  rcases kb_s e with ⟨rfl, e⟩ | e
  · obtain ⟨a0, e0, f0⟩ := lgr_s e
    obtain ⟨x1, e1, f1⟩ := lgi_s f0
    obtain ⟨x2, e2, f2⟩ := lgi_s f1
    obtain ⟨x3, e3, f3⟩ := lgi_s f2
    obtain ⟨qe, fe⟩ := pe_s f3
    subst qe
    exact MW.sub (List.forall_mem_cons.mpr ⟨lg_mem e0, List.forall_mem_cons.mpr ⟨lg_mem e1, List.forall_mem_cons.mpr ⟨lg_mem e2, List.forall_mem_cons.mpr ⟨lg_mem e3, fun _ h => absurd h List.not_mem_nil⟩⟩⟩⟩) (t_X0_leftOver_4 N N a0 x1 x2 x3 g fe)
  cases e
def L_X0_cheapestKind_7 (N : Nat) : Nat → Nat → Int32 → Int32 → Int32 → Int32 → mH → Option (Int32 × mH)
  | 0, _, _, _, _, _, _ => none
  | n + 1, a0, x1, x2, x3, x4, h =>
    (gI h 0 a0 1).bind fun v1 =>
    if x4 < v1 then
      (gI h 0 a0 4).bind fun v2 =>
      (rcv h 0 a0).bind fun _ =>
      (f_X0_crossingsOf N a0 x1 h).bind fun p3 =>
      (rcv p3.2 0 a0).bind fun _ =>
      (f_X0_rodsFor N a0 x4 v2 p3.1 p3.2).bind fun p4 =>
      (rcv p4.2 0 a0).bind fun _ =>
      (f_X0_ofKind N a0 x4 (jI 3) p4.2).bind fun p5 =>
      let w6 := p4.1 * p5.1
      if x4 = 0 then
        let w7 := x4 + jI 1
        L_X0_cheapestKind_7 N n a0 x1 x4 w6 w7 p5.2
      else
        if w6 < x3 then
          let w8 := x4 + jI 1
          L_X0_cheapestKind_7 N n a0 x1 x4 w6 w8 p5.2
        else
          let w9 := x4 + jI 1
          L_X0_cheapestKind_7 N n a0 x1 x2 x3 w9 p5.2
    else
      some (x2, h)
def f_X0_cheapestKind (N : Nat) (a0 : Nat) (x1 : Int32) (h : mH) : Option (Int32 × mH) :=
  L_X0_cheapestKind_7 N N a0 x1 (jI 0) (jI 0) (jI 0) h
def y_X0_cheapestKind : mM := (yX0_cheapestKind, cX0_cheapestKind, 6, (some .int))
def B_X0_cheapestKind : List (Nat × List mI) := [(52, [(.iload 4, 2, [4], []), (.istore_n 2, 1, [2], []), (.iload 5, 2, [5], []), (.istore_n 3, 1, [3], [])]), (58, [(.iinc 4 1, 3, [4], [1]), (.goto (-54), 3, [7], [])]), (64, [(.iload_n 2, 1, [2], []), (.ireturn, 1, [], [])])]
def S_X0_cheapestKind_0 : List mI := [(.iconst 0, 1, [], [0]), (.istore_n 2, 1, [2], []), (.iconst 0, 1, [], [0]), (.istore_n 3, 1, [3], []), (.iconst 0, 1, [], [0]), (.istore 4, 2, [4], [])]
def S_X0_cheapestKind_7 : List mI := [(.iload 4, 2, [4], []), (.aload_n 0, 1, [0], []), (.getfield 31, 3, [0, 1, 0, 4], []), (.if_icmp .ge 51, 3, [64], []), (.aload_n 0, 1, [0], []), (.iload 4, 2, [4], []), (.aload_n 0, 1, [0], []), (.getfield 21, 3, [0, 4, 0, 14], []), (.aload_n 0, 1, [0], []), (.iload_n 1, 1, [1], []), (.invokevirtual 61, 3, [0, 14, 1, 0, 56], []), (.invokevirtual 99, 3, [0, 25, 3, 0, 61], []), (.aload_n 0, 1, [0], []), (.iload 4, 2, [4], []), (.iconst 3, 1, [], [3]), (.invokevirtual 90, 3, [0, 8, 2, 0, 60], []), (.imul, 1, [], []), (.istore 5, 2, [5], []), (.iload 4, 2, [4], []), (.ifCond .eq 9, 3, [52], []), (.iload 5, 2, [5], []), (.iload_n 3, 1, [3], []), (.if_icmp .ge 9, 3, [58], [])]
theorem lb_X0_cheapestKind : B_X0_cheapestKind.all (fun b => lst y_X0_cheapestKind.2.1 0 y_X0_cheapestKind.2.2.1 false b.1 b.2) = true := by decide +kernel
theorem ls_X0_cheapestKind_0 : lst y_X0_cheapestKind.2.1 0 y_X0_cheapestKind.2.2.1 false 0 S_X0_cheapestKind_0 = true := by decide +kernel
theorem ls_X0_cheapestKind_7 : lst y_X0_cheapestKind.2.1 0 y_X0_cheapestKind.2.2.1 false 7 S_X0_cheapestKind_7 = true := by decide +kernel
def C_X0_cheapestKind (N : Nat) : Nat → List Value → mH → (Option Value → mH → Option (Int32 × mH)) → Option (Int32 × mH) := fun j as g k => kb j 14 (pr1 as fun b0 as => pp1 as fun b1 as => pe as ((f_X0_crossingsOf N b0 b1 g).bind fun p => k (some (.int p.1)) p.2)) (kb j 25 (pr1 as fun b0 as => pp1 as fun b1 as => pp1 as fun b2 as => pp1 as fun b3 as => pe as ((f_X0_rodsFor N b0 b1 b2 b3 g).bind fun p => k (some (.int p.1)) p.2)) (kb j 8 (pr1 as fun b0 as => pp1 as fun b1 as => pp1 as fun b2 as => pe as ((f_X0_ofKind N b0 b1 b2 g).bind fun p => k (some (.int p.1)) p.2)) (none)))
theorem co_X0_cheapestKind (N : Nat) (q : Int32 × mH) : clOK 7 q (C_X0_cheapestKind N) := by
  intro j as g k e
  rcases kb_s e with ⟨rfl, e⟩ | e
  · obtain ⟨b0, r0, q0, f0⟩ := pr1_s e
    obtain ⟨b1, r1, q1, f1⟩ := pp1_s f0
    obtain ⟨qe, fe⟩ := pe_s f1
    obtain ⟨p, e1, e2⟩ := bnd_s fe
    subst qe
    subst q1
    subst q0
    exact ⟨_, _, _, _, 5, rfl, (by decide), m_X0_crossingsOf N e1, e2⟩
  rcases kb_s e with ⟨rfl, e⟩ | e
  · obtain ⟨b0, r0, q0, f0⟩ := pr1_s e
    obtain ⟨b1, r1, q1, f1⟩ := pp1_s f0
    obtain ⟨b2, r2, q2, f2⟩ := pp1_s f1
    obtain ⟨b3, r3, q3, f3⟩ := pp1_s f2
    obtain ⟨qe, fe⟩ := pe_s f3
    obtain ⟨p, e1, e2⟩ := bnd_s fe
    subst qe
    subst q3
    subst q2
    subst q1
    subst q0
    exact ⟨_, _, _, _, 6, rfl, (by decide), m_X0_rodsFor N e1, e2⟩
  rcases kb_s e with ⟨rfl, e⟩ | e
  · obtain ⟨b0, r0, q0, f0⟩ := pr1_s e
    obtain ⟨b1, r1, q1, f1⟩ := pp1_s f0
    obtain ⟨b2, r2, q2, f2⟩ := pp1_s f1
    obtain ⟨qe, fe⟩ := pe_s f2
    obtain ⟨p, e1, e2⟩ := bnd_s fe
    subst qe
    subst q2
    subst q1
    subst q0
    exact ⟨_, _, _, _, 4, rfl, (by decide), m_X0_ofKind N e1, e2⟩
  cases e
set_option maxRecDepth 100000 in
theorem t_X0_cheapestKind_7 {X : Nat × (Nat → Int32)} (N : Nat) {q : Int32 × mH} : ∀ (n : Nat) (a0 : Nat) (x1 : Int32) (x2 : Int32) (x3 : Int32) (x4 : Int32) (h : mH), L_X0_cheapestKind_7 N n a0 x1 x2 x3 x4 h = some q → MW X y_X0_cheapestKind 7 7 [(0, .ref a0), (1, .int x1), (2, .int x2), (3, .int x3), (4, .int x4)] [] h (some (.int q.1)) q.2 := by
  intro n
  induction n with
  | zero => intro a0 x1 x2 x3 x4 h hf; cases hf
  | succ n ih =>
    intro a0 x1 x2 x3 x4 h hf
    refine ev_ok (o := 0) (ini := false) (Cl := C_X0_cheapestKind N) (Rc := RcI) (B := B_X0_cheapestKind) (K := fun pc ls st g => kb pc 7 (lgr 0 ls fun a0 => lgi 1 ls fun x1 => lgi 2 ls fun x2 => lgi 3 ls fun x3 => lgi 4 ls fun x4 => pe st (L_X0_cheapestKind_7 N n a0 x1 x2 x3 x4 g)) (none)) rfl (fun e => by cases e) (by decide) (rcI_ok rfl) ?_ (co_X0_cheapestKind N q) lb_X0_cheapestKind 3000 7 S_X0_cheapestKind_7 _ _ h ls_X0_cheapestKind_7 hf
    intro pc ls st g e
    rcases kb_s e with ⟨rfl, e⟩ | e
    · obtain ⟨a0, e0, f0⟩ := lgr_s e
      obtain ⟨x1, e1, f1⟩ := lgi_s f0
      obtain ⟨x2, e2, f2⟩ := lgi_s f1
      obtain ⟨x3, e3, f3⟩ := lgi_s f2
      obtain ⟨x4, e4, f4⟩ := lgi_s f3
      obtain ⟨qe, fe⟩ := pe_s f4
      subst qe
      exact MW.sub (List.forall_mem_cons.mpr ⟨lg_mem e0, List.forall_mem_cons.mpr ⟨lg_mem e1, List.forall_mem_cons.mpr ⟨lg_mem e2, List.forall_mem_cons.mpr ⟨lg_mem e3, List.forall_mem_cons.mpr ⟨lg_mem e4, fun _ h => absurd h List.not_mem_nil⟩⟩⟩⟩⟩) (ih a0 x1 x2 x3 x4 g fe)
    cases e
set_option maxRecDepth 100000 in
theorem m_X0_cheapestKind (N : Nat) {a0 : Nat} {x1 : Int32} {h : mH} {q : Int32 × mH} (hf : f_X0_cheapestKind N a0 x1 h = some q) : MM y_X0_cheapestKind 7 [.ref a0, .int x1] h (some (.int q.1)) q.2 := by
  refine MM.of (mFx (j := 30) rfl).2.2.2.1 (Nat.le_of_ble_eq_true rfl) (fun X => ?_)
  refine ev_ok (o := 0) (ini := false) (Cl := C_X0_cheapestKind N) (Rc := RcI) (B := B_X0_cheapestKind) (K := fun pc ls st g => kb pc 7 (lgr 0 ls fun a0 => lgi 1 ls fun x1 => lgi 2 ls fun x2 => lgi 3 ls fun x3 => lgi 4 ls fun x4 => pe st (L_X0_cheapestKind_7 N N a0 x1 x2 x3 x4 g)) (none)) rfl (fun e => by cases e) (by decide) (rcI_ok rfl) ?_ (co_X0_cheapestKind N q) lb_X0_cheapestKind 3000 0 S_X0_cheapestKind_0 _ _ h ls_X0_cheapestKind_0 hf
  intro pc ls st g e
  rcases kb_s e with ⟨rfl, e⟩ | e
  · obtain ⟨a0, e0, f0⟩ := lgr_s e
    obtain ⟨x1, e1, f1⟩ := lgi_s f0
    obtain ⟨x2, e2, f2⟩ := lgi_s f1
    obtain ⟨x3, e3, f3⟩ := lgi_s f2
    obtain ⟨x4, e4, f4⟩ := lgi_s f3
    obtain ⟨qe, fe⟩ := pe_s f4
    subst qe
    exact MW.sub (List.forall_mem_cons.mpr ⟨lg_mem e0, List.forall_mem_cons.mpr ⟨lg_mem e1, List.forall_mem_cons.mpr ⟨lg_mem e2, List.forall_mem_cons.mpr ⟨lg_mem e3, List.forall_mem_cons.mpr ⟨lg_mem e4, fun _ h => absurd h List.not_mem_nil⟩⟩⟩⟩⟩) (t_X0_cheapestKind_7 N N a0 x1 x2 x3 x4 g fe)
  cases e
def L_X0_longestRod_4 (N : Nat) : Nat → Nat → Int32 → Int32 → Int32 → mH → Option (Int32 × mH)
  | 0, _, _, _, _, _ => none
  | n + 1, a0, x1, x2, x3, h =>
    (rcv h 0 a0).bind fun _ =>
    (f_X0_ofBand N a0 x1 (jI 0) h).bind fun p1 =>
    if x3 < p1.1 then
      (rcv p1.2 0 a0).bind fun _ =>
      (f_X0_kindOf N a0 x1 x3 p1.2).bind fun p2 =>
      (rcv p2.2 0 a0).bind fun _ =>
      (f_X0_ofKind N a0 p2.1 (jI 0) p2.2).bind fun p3 =>
      let w4 := iMax x2 p3.1
      let w5 := x3 + jI 1
      L_X0_longestRod_4 N n a0 x1 w4 w5 p3.2
    else
      some (x2, p1.2)
def f_X0_longestRod (N : Nat) (a0 : Nat) (x1 : Int32) (h : mH) : Option (Int32 × mH) :=
  L_X0_longestRod_4 N N a0 x1 (jI 0) (jI 0) h
def y_X0_longestRod : mM := (yX0_longestRod, cX0_longestRod, 4, (some .int))
def B_X0_longestRod : List (Nat × List mI) := [(36, [(.iload_n 2, 1, [2], []), (.ireturn, 1, [], [])])]
def S_X0_longestRod_0 : List mI := [(.iconst 0, 1, [], [0]), (.istore_n 2, 1, [2], []), (.iconst 0, 1, [], [0]), (.istore_n 3, 1, [3], [])]
def S_X0_longestRod_4 : List mI := [(.iload_n 3, 1, [3], []), (.aload_n 0, 1, [0], []), (.iload_n 1, 1, [1], []), (.iconst 0, 1, [], [0]), (.invokevirtual 53, 3, [0, 9, 2, 0, 33], []), (.if_icmp .ge 25, 3, [36], []), (.iload_n 2, 1, [2], []), (.aload_n 0, 1, [0], []), (.aload_n 0, 1, [0], []), (.iload_n 1, 1, [1], []), (.iload_n 3, 1, [3], []), (.invokevirtual 96, 3, [0, 10, 2, 0, 58], []), (.iconst 0, 1, [], [0]), (.invokevirtual 90, 3, [0, 8, 2, 0, 60], []), (.invokestatic 65, 3, [6, 0, 0, 0, 16], []), (.istore_n 2, 1, [2], []), (.iinc 3 1, 3, [3], [1]), (.goto (-29), 3, [4], [])]
theorem lb_X0_longestRod : B_X0_longestRod.all (fun b => lst y_X0_longestRod.2.1 0 y_X0_longestRod.2.2.1 false b.1 b.2) = true := by decide +kernel
theorem ls_X0_longestRod_0 : lst y_X0_longestRod.2.1 0 y_X0_longestRod.2.2.1 false 0 S_X0_longestRod_0 = true := by decide +kernel
theorem ls_X0_longestRod_4 : lst y_X0_longestRod.2.1 0 y_X0_longestRod.2.2.1 false 4 S_X0_longestRod_4 = true := by decide +kernel
def C_X0_longestRod (N : Nat) : Nat → List Value → mH → (Option Value → mH → Option (Int32 × mH)) → Option (Int32 × mH) := fun j as g k => kb j 9 (pr1 as fun b0 as => pp1 as fun b1 as => pp1 as fun b2 as => pe as ((f_X0_ofBand N b0 b1 b2 g).bind fun p => k (some (.int p.1)) p.2)) (kb j 10 (pr1 as fun b0 as => pp1 as fun b1 as => pp1 as fun b2 as => pe as ((f_X0_kindOf N b0 b1 b2 g).bind fun p => k (some (.int p.1)) p.2)) (kb j 8 (pr1 as fun b0 as => pp1 as fun b1 as => pp1 as fun b2 as => pe as ((f_X0_ofKind N b0 b1 b2 g).bind fun p => k (some (.int p.1)) p.2)) (none)))
theorem co_X0_longestRod (N : Nat) (q : Int32 × mH) : clOK 6 q (C_X0_longestRod N) := by
  intro j as g k e
  rcases kb_s e with ⟨rfl, e⟩ | e
  · obtain ⟨b0, r0, q0, f0⟩ := pr1_s e
    obtain ⟨b1, r1, q1, f1⟩ := pp1_s f0
    obtain ⟨b2, r2, q2, f2⟩ := pp1_s f1
    obtain ⟨qe, fe⟩ := pe_s f2
    obtain ⟨p, e1, e2⟩ := bnd_s fe
    subst qe
    subst q2
    subst q1
    subst q0
    exact ⟨_, _, _, _, 4, rfl, (by decide), m_X0_ofBand N e1, e2⟩
  rcases kb_s e with ⟨rfl, e⟩ | e
  · obtain ⟨b0, r0, q0, f0⟩ := pr1_s e
    obtain ⟨b1, r1, q1, f1⟩ := pp1_s f0
    obtain ⟨b2, r2, q2, f2⟩ := pp1_s f1
    obtain ⟨qe, fe⟩ := pe_s f2
    obtain ⟨p, e1, e2⟩ := bnd_s fe
    subst qe
    subst q2
    subst q1
    subst q0
    exact ⟨_, _, _, _, 5, rfl, (by decide), m_X0_kindOf N e1, e2⟩
  rcases kb_s e with ⟨rfl, e⟩ | e
  · obtain ⟨b0, r0, q0, f0⟩ := pr1_s e
    obtain ⟨b1, r1, q1, f1⟩ := pp1_s f0
    obtain ⟨b2, r2, q2, f2⟩ := pp1_s f1
    obtain ⟨qe, fe⟩ := pe_s f2
    obtain ⟨p, e1, e2⟩ := bnd_s fe
    subst qe
    subst q2
    subst q1
    subst q0
    exact ⟨_, _, _, _, 4, rfl, (by decide), m_X0_ofKind N e1, e2⟩
  cases e
set_option maxRecDepth 100000 in
theorem t_X0_longestRod_4 {X : Nat × (Nat → Int32)} (N : Nat) {q : Int32 × mH} : ∀ (n : Nat) (a0 : Nat) (x1 : Int32) (x2 : Int32) (x3 : Int32) (h : mH), L_X0_longestRod_4 N n a0 x1 x2 x3 h = some q → MW X y_X0_longestRod 6 4 [(0, .ref a0), (1, .int x1), (2, .int x2), (3, .int x3)] [] h (some (.int q.1)) q.2 := by
  intro n
  induction n with
  | zero => intro a0 x1 x2 x3 h hf; cases hf
  | succ n ih =>
    intro a0 x1 x2 x3 h hf
    refine ev_ok (o := 0) (ini := false) (Cl := C_X0_longestRod N) (Rc := RcI) (B := B_X0_longestRod) (K := fun pc ls st g => kb pc 4 (lgr 0 ls fun a0 => lgi 1 ls fun x1 => lgi 2 ls fun x2 => lgi 3 ls fun x3 => pe st (L_X0_longestRod_4 N n a0 x1 x2 x3 g)) (none)) rfl (fun e => by cases e) (by decide) (rcI_ok rfl) ?_ (co_X0_longestRod N q) lb_X0_longestRod 3000 4 S_X0_longestRod_4 _ _ h ls_X0_longestRod_4 hf
    intro pc ls st g e
    rcases kb_s e with ⟨rfl, e⟩ | e
    · obtain ⟨a0, e0, f0⟩ := lgr_s e
      obtain ⟨x1, e1, f1⟩ := lgi_s f0
      obtain ⟨x2, e2, f2⟩ := lgi_s f1
      obtain ⟨x3, e3, f3⟩ := lgi_s f2
      obtain ⟨qe, fe⟩ := pe_s f3
      subst qe
      exact MW.sub (List.forall_mem_cons.mpr ⟨lg_mem e0, List.forall_mem_cons.mpr ⟨lg_mem e1, List.forall_mem_cons.mpr ⟨lg_mem e2, List.forall_mem_cons.mpr ⟨lg_mem e3, fun _ h => absurd h List.not_mem_nil⟩⟩⟩⟩) (ih a0 x1 x2 x3 g fe)
    cases e
set_option maxRecDepth 100000 in
theorem m_X0_longestRod (N : Nat) {a0 : Nat} {x1 : Int32} {h : mH} {q : Int32 × mH} (hf : f_X0_longestRod N a0 x1 h = some q) : MM y_X0_longestRod 6 [.ref a0, .int x1] h (some (.int q.1)) q.2 := by
  refine MM.of (mFx (j := 31) rfl).2.2.2.1 (Nat.le_of_ble_eq_true rfl) (fun X => ?_)
  refine ev_ok (o := 0) (ini := false) (Cl := C_X0_longestRod N) (Rc := RcI) (B := B_X0_longestRod) (K := fun pc ls st g => kb pc 4 (lgr 0 ls fun a0 => lgi 1 ls fun x1 => lgi 2 ls fun x2 => lgi 3 ls fun x3 => pe st (L_X0_longestRod_4 N N a0 x1 x2 x3 g)) (none)) rfl (fun e => by cases e) (by decide) (rcI_ok rfl) ?_ (co_X0_longestRod N q) lb_X0_longestRod 3000 0 S_X0_longestRod_0 _ _ h ls_X0_longestRod_0 hf
  intro pc ls st g e
  rcases kb_s e with ⟨rfl, e⟩ | e
  · obtain ⟨a0, e0, f0⟩ := lgr_s e
    obtain ⟨x1, e1, f1⟩ := lgi_s f0
    obtain ⟨x2, e2, f2⟩ := lgi_s f1
    obtain ⟨x3, e3, f3⟩ := lgi_s f2
    obtain ⟨qe, fe⟩ := pe_s f3
    subst qe
    exact MW.sub (List.forall_mem_cons.mpr ⟨lg_mem e0, List.forall_mem_cons.mpr ⟨lg_mem e1, List.forall_mem_cons.mpr ⟨lg_mem e2, List.forall_mem_cons.mpr ⟨lg_mem e3, fun _ h => absurd h List.not_mem_nil⟩⟩⟩⟩) (t_X0_longestRod_4 N N a0 x1 x2 x3 g fe)
  cases e
def f_X0_driesTo (N : Nat) (a0 : Nat) (x1 : Int32) (h : mH) : Option (Int32 × mH) :=
  (rcv h 0 a0).bind fun _ =>
  (f_X0_ofKind N a0 x1 (jI 2) h).bind fun p1 =>
  some ((jI 100) - p1.1, p1.2)
def y_X0_driesTo : mM := (yX0_driesTo, cX0_driesTo, 2, (some .int))
def B_X0_driesTo : List (Nat × List mI) := []
def S_X0_driesTo_0 : List mI := [(.bipush 100, 2, [], [100]), (.aload_n 0, 1, [0], []), (.iload_n 1, 1, [1], []), (.iconst 2, 1, [], [2]), (.invokevirtual 90, 3, [0, 8, 2, 0, 60], []), (.isub, 1, [], []), (.ireturn, 1, [], [])]
theorem lb_X0_driesTo : B_X0_driesTo.all (fun b => lst y_X0_driesTo.2.1 0 y_X0_driesTo.2.2.1 false b.1 b.2) = true := by decide +kernel
theorem ls_X0_driesTo_0 : lst y_X0_driesTo.2.1 0 y_X0_driesTo.2.2.1 false 0 S_X0_driesTo_0 = true := by decide +kernel
def C_X0_driesTo (N : Nat) : Nat → List Value → mH → (Option Value → mH → Option (Int32 × mH)) → Option (Int32 × mH) := fun j as g k => kb j 8 (pr1 as fun b0 as => pp1 as fun b1 as => pp1 as fun b2 as => pe as ((f_X0_ofKind N b0 b1 b2 g).bind fun p => k (some (.int p.1)) p.2)) (none)
theorem co_X0_driesTo (N : Nat) (q : Int32 × mH) : clOK 5 q (C_X0_driesTo N) := by
  intro j as g k e
  rcases kb_s e with ⟨rfl, e⟩ | e
  · obtain ⟨b0, r0, q0, f0⟩ := pr1_s e
    obtain ⟨b1, r1, q1, f1⟩ := pp1_s f0
    obtain ⟨b2, r2, q2, f2⟩ := pp1_s f1
    obtain ⟨qe, fe⟩ := pe_s f2
    obtain ⟨p, e1, e2⟩ := bnd_s fe
    subst qe
    subst q2
    subst q1
    subst q0
    exact ⟨_, _, _, _, 4, rfl, (by decide), m_X0_ofKind N e1, e2⟩
  cases e
set_option maxRecDepth 100000 in
theorem m_X0_driesTo (N : Nat) {a0 : Nat} {x1 : Int32} {h : mH} {q : Int32 × mH} (hf : f_X0_driesTo N a0 x1 h = some q) : MM y_X0_driesTo 5 [.ref a0, .int x1] h (some (.int q.1)) q.2 := by
  refine MM.of (mFx (j := 32) rfl).2.2.2.1 (Nat.le_of_ble_eq_true rfl) (fun X => ?_)
  refine ev_ok (o := 0) (ini := false) (Cl := C_X0_driesTo N) (Rc := RcI) (B := B_X0_driesTo) (K := fun pc ls st g => none) rfl (fun e => by cases e) (by decide) (rcI_ok rfl) ?_ (co_X0_driesTo N q) lb_X0_driesTo 3000 0 S_X0_driesTo_0 _ _ h ls_X0_driesTo_0 hf
  intro pc ls st g e
  cases e
def L_X0_heightOf_5 (N : Nat) : Nat → Nat → Int32 → Int32 → Int32 → Int32 → mH → Option (Int32 × mH)
  | 0, _, _, _, _, _, _ => none
  | n + 1, a0, x1, x2, x3, x4, h =>
    (rcv h 0 a0).bind fun _ =>
    (f_X0_ofBand N a0 x1 (jI 0) h).bind fun p1 =>
    if x4 < p1.1 then
      (rcv p1.2 0 a0).bind fun _ =>
      (f_X0_kindOf N a0 x1 x4 p1.2).bind fun p2 =>
      (rcv p2.2 0 a0).bind fun _ =>
      (f_X0_ofKind N a0 p2.1 (jI 1) p2.2).bind fun p3 =>
      if x2 = 0 then
        let w4 := x3 + (p3.1 * (jI 100))
        let w5 := x4 + jI 1
        L_X0_heightOf_5 N n a0 x1 x2 w4 w5 p3.2
      else
        (rcv p3.2 0 a0).bind fun _ =>
        (f_X0_driesTo N a0 p2.1 p3.2).bind fun p6 =>
        let w7 := x3 + (p3.1 * p6.1)
        let w8 := x4 + jI 1
        L_X0_heightOf_5 N n a0 x1 x2 w7 w8 p6.2
    else
      (rcv p1.2 0 a0).bind fun _ =>
      (f_X0_ofBand N a0 x1 (jI 3) p1.2).bind fun p9 =>
      some (x3 * p9.1, p9.2)
def f_X0_heightOf (N : Nat) (a0 : Nat) (x1 : Int32) (x2 : Int32) (h : mH) : Option (Int32 × mH) :=
  L_X0_heightOf_5 N N a0 x1 x2 (jI 0) (jI 0) h
def y_X0_heightOf : mM := (yX0_heightOf, cX0_heightOf, 6, (some .int))
def B_X0_heightOf : List (Nat × List mI) := [(46, [(.bipush 100, 2, [], [100])]), (48, [(.imul, 1, [], []), (.iadd, 1, [], []), (.istore_n 3, 1, [3], []), (.iinc 4 1, 3, [4], [1]), (.goto (-49), 3, [5], [])]), (57, [(.iload_n 3, 1, [3], []), (.aload_n 0, 1, [0], []), (.iload_n 1, 1, [1], []), (.iconst 3, 1, [], [3]), (.invokevirtual 53, 3, [0, 9, 2, 0, 33], []), (.imul, 1, [], []), (.ireturn, 1, [], [])])]
def S_X0_heightOf_0 : List mI := [(.iconst 0, 1, [], [0]), (.istore_n 3, 1, [3], []), (.iconst 0, 1, [], [0]), (.istore 4, 2, [4], [])]
def S_X0_heightOf_5 : List mI := [(.iload 4, 2, [4], []), (.aload_n 0, 1, [0], []), (.iload_n 1, 1, [1], []), (.iconst 0, 1, [], [0]), (.invokevirtual 53, 3, [0, 9, 2, 0, 33], []), (.if_icmp .ge 44, 3, [57], []), (.aload_n 0, 1, [0], []), (.iload_n 1, 1, [1], []), (.iload 4, 2, [4], []), (.invokevirtual 96, 3, [0, 10, 2, 0, 58], []), (.istore 5, 2, [5], []), (.iload_n 3, 1, [3], []), (.aload_n 0, 1, [0], []), (.iload 5, 2, [5], []), (.iconst 1, 1, [], [1]), (.invokevirtual 90, 3, [0, 8, 2, 0, 60], []), (.iload_n 2, 1, [2], []), (.ifCond .eq 12, 3, [46], []), (.aload_n 0, 1, [0], []), (.iload 5, 2, [5], []), (.invokevirtual 105, 3, [0, 32, 1, 0, 193], []), (.goto 5, 3, [48], [])]
theorem lb_X0_heightOf : B_X0_heightOf.all (fun b => lst y_X0_heightOf.2.1 0 y_X0_heightOf.2.2.1 false b.1 b.2) = true := by decide +kernel
theorem ls_X0_heightOf_0 : lst y_X0_heightOf.2.1 0 y_X0_heightOf.2.2.1 false 0 S_X0_heightOf_0 = true := by decide +kernel
theorem ls_X0_heightOf_5 : lst y_X0_heightOf.2.1 0 y_X0_heightOf.2.2.1 false 5 S_X0_heightOf_5 = true := by decide +kernel
def C_X0_heightOf (N : Nat) : Nat → List Value → mH → (Option Value → mH → Option (Int32 × mH)) → Option (Int32 × mH) := fun j as g k => kb j 9 (pr1 as fun b0 as => pp1 as fun b1 as => pp1 as fun b2 as => pe as ((f_X0_ofBand N b0 b1 b2 g).bind fun p => k (some (.int p.1)) p.2)) (kb j 10 (pr1 as fun b0 as => pp1 as fun b1 as => pp1 as fun b2 as => pe as ((f_X0_kindOf N b0 b1 b2 g).bind fun p => k (some (.int p.1)) p.2)) (kb j 8 (pr1 as fun b0 as => pp1 as fun b1 as => pp1 as fun b2 as => pe as ((f_X0_ofKind N b0 b1 b2 g).bind fun p => k (some (.int p.1)) p.2)) (kb j 32 (pr1 as fun b0 as => pp1 as fun b1 as => pe as ((f_X0_driesTo N b0 b1 g).bind fun p => k (some (.int p.1)) p.2)) (none))))
theorem co_X0_heightOf (N : Nat) (q : Int32 × mH) : clOK 6 q (C_X0_heightOf N) := by
  intro j as g k e
  rcases kb_s e with ⟨rfl, e⟩ | e
  · obtain ⟨b0, r0, q0, f0⟩ := pr1_s e
    obtain ⟨b1, r1, q1, f1⟩ := pp1_s f0
    obtain ⟨b2, r2, q2, f2⟩ := pp1_s f1
    obtain ⟨qe, fe⟩ := pe_s f2
    obtain ⟨p, e1, e2⟩ := bnd_s fe
    subst qe
    subst q2
    subst q1
    subst q0
    exact ⟨_, _, _, _, 4, rfl, (by decide), m_X0_ofBand N e1, e2⟩
  rcases kb_s e with ⟨rfl, e⟩ | e
  · obtain ⟨b0, r0, q0, f0⟩ := pr1_s e
    obtain ⟨b1, r1, q1, f1⟩ := pp1_s f0
    obtain ⟨b2, r2, q2, f2⟩ := pp1_s f1
    obtain ⟨qe, fe⟩ := pe_s f2
    obtain ⟨p, e1, e2⟩ := bnd_s fe
    subst qe
    subst q2
    subst q1
    subst q0
    exact ⟨_, _, _, _, 5, rfl, (by decide), m_X0_kindOf N e1, e2⟩
  rcases kb_s e with ⟨rfl, e⟩ | e
  · obtain ⟨b0, r0, q0, f0⟩ := pr1_s e
    obtain ⟨b1, r1, q1, f1⟩ := pp1_s f0
    obtain ⟨b2, r2, q2, f2⟩ := pp1_s f1
    obtain ⟨qe, fe⟩ := pe_s f2
    obtain ⟨p, e1, e2⟩ := bnd_s fe
    subst qe
    subst q2
    subst q1
    subst q0
    exact ⟨_, _, _, _, 4, rfl, (by decide), m_X0_ofKind N e1, e2⟩
  rcases kb_s e with ⟨rfl, e⟩ | e
  · obtain ⟨b0, r0, q0, f0⟩ := pr1_s e
    obtain ⟨b1, r1, q1, f1⟩ := pp1_s f0
    obtain ⟨qe, fe⟩ := pe_s f1
    obtain ⟨p, e1, e2⟩ := bnd_s fe
    subst qe
    subst q1
    subst q0
    exact ⟨_, _, _, _, 5, rfl, (by decide), m_X0_driesTo N e1, e2⟩
  cases e
set_option maxRecDepth 100000 in
theorem t_X0_heightOf_5 {X : Nat × (Nat → Int32)} (N : Nat) {q : Int32 × mH} : ∀ (n : Nat) (a0 : Nat) (x1 : Int32) (x2 : Int32) (x3 : Int32) (x4 : Int32) (h : mH), L_X0_heightOf_5 N n a0 x1 x2 x3 x4 h = some q → MW X y_X0_heightOf 6 5 [(0, .ref a0), (1, .int x1), (2, .int x2), (3, .int x3), (4, .int x4)] [] h (some (.int q.1)) q.2 := by
  intro n
  induction n with
  | zero => intro a0 x1 x2 x3 x4 h hf; cases hf
  | succ n ih =>
    intro a0 x1 x2 x3 x4 h hf
    refine ev_ok (o := 0) (ini := false) (Cl := C_X0_heightOf N) (Rc := RcI) (B := B_X0_heightOf) (K := fun pc ls st g => kb pc 5 (lgr 0 ls fun a0 => lgi 1 ls fun x1 => lgi 2 ls fun x2 => lgi 3 ls fun x3 => lgi 4 ls fun x4 => pe st (L_X0_heightOf_5 N n a0 x1 x2 x3 x4 g)) (none)) rfl (fun e => by cases e) (by decide) (rcI_ok rfl) ?_ (co_X0_heightOf N q) lb_X0_heightOf 3000 5 S_X0_heightOf_5 _ _ h ls_X0_heightOf_5 hf
    intro pc ls st g e
    rcases kb_s e with ⟨rfl, e⟩ | e
    · obtain ⟨a0, e0, f0⟩ := lgr_s e
      obtain ⟨x1, e1, f1⟩ := lgi_s f0
      obtain ⟨x2, e2, f2⟩ := lgi_s f1
      obtain ⟨x3, e3, f3⟩ := lgi_s f2
      obtain ⟨x4, e4, f4⟩ := lgi_s f3
      obtain ⟨qe, fe⟩ := pe_s f4
      subst qe
      exact MW.sub (List.forall_mem_cons.mpr ⟨lg_mem e0, List.forall_mem_cons.mpr ⟨lg_mem e1, List.forall_mem_cons.mpr ⟨lg_mem e2, List.forall_mem_cons.mpr ⟨lg_mem e3, List.forall_mem_cons.mpr ⟨lg_mem e4, fun _ h => absurd h List.not_mem_nil⟩⟩⟩⟩⟩) (ih a0 x1 x2 x3 x4 g fe)
    cases e
set_option maxRecDepth 100000 in
theorem m_X0_heightOf (N : Nat) {a0 : Nat} {x1 : Int32} {x2 : Int32} {h : mH} {q : Int32 × mH} (hf : f_X0_heightOf N a0 x1 x2 h = some q) : MM y_X0_heightOf 6 [.ref a0, .int x1, .int x2] h (some (.int q.1)) q.2 := by
  refine MM.of (mFx (j := 33) rfl).2.2.2.1 (Nat.le_of_ble_eq_true rfl) (fun X => ?_)
  refine ev_ok (o := 0) (ini := false) (Cl := C_X0_heightOf N) (Rc := RcI) (B := B_X0_heightOf) (K := fun pc ls st g => kb pc 5 (lgr 0 ls fun a0 => lgi 1 ls fun x1 => lgi 2 ls fun x2 => lgi 3 ls fun x3 => lgi 4 ls fun x4 => pe st (L_X0_heightOf_5 N N a0 x1 x2 x3 x4 g)) (none)) rfl (fun e => by cases e) (by decide) (rcI_ok rfl) ?_ (co_X0_heightOf N q) lb_X0_heightOf 3000 0 S_X0_heightOf_0 _ _ h ls_X0_heightOf_0 hf
  intro pc ls st g e
  rcases kb_s e with ⟨rfl, e⟩ | e
  · obtain ⟨a0, e0, f0⟩ := lgr_s e
    obtain ⟨x1, e1, f1⟩ := lgi_s f0
    obtain ⟨x2, e2, f2⟩ := lgi_s f1
    obtain ⟨x3, e3, f3⟩ := lgi_s f2
    obtain ⟨x4, e4, f4⟩ := lgi_s f3
    obtain ⟨qe, fe⟩ := pe_s f4
    subst qe
    exact MW.sub (List.forall_mem_cons.mpr ⟨lg_mem e0, List.forall_mem_cons.mpr ⟨lg_mem e1, List.forall_mem_cons.mpr ⟨lg_mem e2, List.forall_mem_cons.mpr ⟨lg_mem e3, List.forall_mem_cons.mpr ⟨lg_mem e4, fun _ h => absurd h List.not_mem_nil⟩⟩⟩⟩⟩) (t_X0_heightOf_5 N N a0 x1 x2 x3 x4 g fe)
  cases e
def L_X0_loosest_10 (N : Nat) : Nat → Nat → Int32 → Int64 → Int64 → Int32 → mH → Option (Int32 × mH)
  | 0, _, _, _, _, _, _ => none
  | n + 1, a0, x1, l2, l4, x6, h =>
    (gI h 0 a0 2).bind fun v1 =>
    if x6 < v1 then
      (rcv h 0 a0).bind fun _ =>
      (f_X0_heightOf N a0 x6 (jI 0) h).bind fun p2 =>
      (rcv p2.2 0 a0).bind fun _ =>
      (f_X0_heightOf N a0 x6 (jI 1) p2.2).bind fun p3 =>
      let w4 := p2.1.toInt64 - p3.1.toInt64
      if x1 = (jI (-1)) then
        let w5 := x6 + jI 1
        L_X0_loosest_10 N n a0 x6 w4 p2.1.toInt64 w5 p3.2
      else
        if (l2 * p2.1.toInt64) < (w4 * l4) then
          let w6 := x6 + jI 1
          L_X0_loosest_10 N n a0 x6 w4 p2.1.toInt64 w6 p3.2
        else
          let w7 := x6 + jI 1
          L_X0_loosest_10 N n a0 x1 l2 l4 w7 p3.2
    else
      some (x1, h)
def f_X0_loosest (N : Nat) (a0 : Nat) (h : mH) : Option (Int32 × mH) :=
  L_X0_loosest_10 N N a0 (jI (-1)) (jL 0) (jL 1) (jI 0) h
def y_X0_loosest : mM := (yX0_loosest, cX0_loosest, 11, (some .int))
def B_X0_loosest : List (Nat × List mI) := [(60, [(.iload 6, 2, [6], []), (.istore_n 1, 1, [1], []), (.lload 9, 2, [9], []), (.lstore_n 2, 1, [2], []), (.lload 7, 2, [7], []), (.lstore 4, 2, [4], [])]), (70, [(.iinc 6 1, 3, [6], [1]), (.goto (-63), 3, [10], [])]), (76, [(.iload_n 1, 1, [1], []), (.ireturn, 1, [], [])])]
def S_X0_loosest_0 : List mI := [(.iconst (-1), 1, [], [-1]), (.istore_n 1, 1, [1], []), (.lconst 0, 1, [], [0]), (.lstore_n 2, 1, [2], []), (.lconst 1, 1, [], [1]), (.lstore 4, 2, [4], []), (.iconst 0, 1, [], [0]), (.istore 6, 2, [6], [])]
def S_X0_loosest_10 : List mI := [(.iload 6, 2, [6], []), (.aload_n 0, 1, [0], []), (.getfield 34, 3, [0, 2, 0, 7], []), (.if_icmp .ge 60, 3, [76], []), (.aload_n 0, 1, [0], []), (.iload 6, 2, [6], []), (.iconst 0, 1, [], [0]), (.invokevirtual 108, 3, [0, 33, 2, 0, 196], []), (.i2l, 1, [], []), (.lstore 7, 2, [7], []), (.lload 7, 2, [7], []), (.aload_n 0, 1, [0], []), (.iload 6, 2, [6], []), (.iconst 1, 1, [], [1]), (.invokevirtual 108, 3, [0, 33, 2, 0, 196], []), (.i2l, 1, [], []), (.lsub, 1, [], []), (.lstore 9, 2, [9], []), (.iload_n 1, 1, [1], []), (.iconst (-1), 1, [], [-1]), (.if_icmp .eq 16, 3, [60], []), (.lload 9, 2, [9], []), (.lload 4, 2, [4], []), (.lmul, 1, [], []), (.lload_n 2, 1, [2], []), (.lload 7, 2, [7], []), (.lmul, 1, [], []), (.lcmp, 1, [], []), (.ifCond .le 13, 3, [70], [])]
theorem lb_X0_loosest : B_X0_loosest.all (fun b => lst y_X0_loosest.2.1 0 y_X0_loosest.2.2.1 false b.1 b.2) = true := by decide +kernel
theorem ls_X0_loosest_0 : lst y_X0_loosest.2.1 0 y_X0_loosest.2.2.1 false 0 S_X0_loosest_0 = true := by decide +kernel
theorem ls_X0_loosest_10 : lst y_X0_loosest.2.1 0 y_X0_loosest.2.2.1 false 10 S_X0_loosest_10 = true := by decide +kernel
def C_X0_loosest (N : Nat) : Nat → List Value → mH → (Option Value → mH → Option (Int32 × mH)) → Option (Int32 × mH) := fun j as g k => kb j 33 (pr1 as fun b0 as => pp1 as fun b1 as => pp1 as fun b2 as => pe as ((f_X0_heightOf N b0 b1 b2 g).bind fun p => k (some (.int p.1)) p.2)) (none)
theorem co_X0_loosest (N : Nat) (q : Int32 × mH) : clOK 7 q (C_X0_loosest N) := by
  intro j as g k e
  rcases kb_s e with ⟨rfl, e⟩ | e
  · obtain ⟨b0, r0, q0, f0⟩ := pr1_s e
    obtain ⟨b1, r1, q1, f1⟩ := pp1_s f0
    obtain ⟨b2, r2, q2, f2⟩ := pp1_s f1
    obtain ⟨qe, fe⟩ := pe_s f2
    obtain ⟨p, e1, e2⟩ := bnd_s fe
    subst qe
    subst q2
    subst q1
    subst q0
    exact ⟨_, _, _, _, 6, rfl, (by decide), m_X0_heightOf N e1, e2⟩
  cases e
set_option maxRecDepth 100000 in
theorem t_X0_loosest_10 {X : Nat × (Nat → Int32)} (N : Nat) {q : Int32 × mH} : ∀ (n : Nat) (a0 : Nat) (x1 : Int32) (l2 : Int64) (l4 : Int64) (x6 : Int32) (h : mH), L_X0_loosest_10 N n a0 x1 l2 l4 x6 h = some q → MW X y_X0_loosest 7 10 [(0, .ref a0), (1, .int x1), (2, .long l2), (4, .long l4), (6, .int x6)] [] h (some (.int q.1)) q.2 := by
  intro n
  induction n with
  | zero => intro a0 x1 l2 l4 x6 h hf; cases hf
  | succ n ih =>
    intro a0 x1 l2 l4 x6 h hf
    refine ev_ok (o := 0) (ini := false) (Cl := C_X0_loosest N) (Rc := RcI) (B := B_X0_loosest) (K := fun pc ls st g => kb pc 10 (lgr 0 ls fun a0 => lgi 1 ls fun x1 => lgl_ 2 ls fun l2 => lgl_ 4 ls fun l4 => lgi 6 ls fun x6 => pe st (L_X0_loosest_10 N n a0 x1 l2 l4 x6 g)) (none)) rfl (fun e => by cases e) (by decide) (rcI_ok rfl) ?_ (co_X0_loosest N q) lb_X0_loosest 3000 10 S_X0_loosest_10 _ _ h ls_X0_loosest_10 hf
    intro pc ls st g e
    rcases kb_s e with ⟨rfl, e⟩ | e
    · obtain ⟨a0, e0, f0⟩ := lgr_s e
      obtain ⟨x1, e1, f1⟩ := lgi_s f0
      obtain ⟨l2, e2, f2⟩ := lgl_s f1
      obtain ⟨l4, e3, f3⟩ := lgl_s f2
      obtain ⟨x6, e4, f4⟩ := lgi_s f3
      obtain ⟨qe, fe⟩ := pe_s f4
      subst qe
      exact MW.sub (List.forall_mem_cons.mpr ⟨lg_mem e0, List.forall_mem_cons.mpr ⟨lg_mem e1, List.forall_mem_cons.mpr ⟨lg_mem e2, List.forall_mem_cons.mpr ⟨lg_mem e3, List.forall_mem_cons.mpr ⟨lg_mem e4, fun _ h => absurd h List.not_mem_nil⟩⟩⟩⟩⟩) (ih a0 x1 l2 l4 x6 g fe)
    cases e
set_option maxRecDepth 100000 in
theorem m_X0_loosest (N : Nat) {a0 : Nat} {h : mH} {q : Int32 × mH} (hf : f_X0_loosest N a0 h = some q) : MM y_X0_loosest 7 [.ref a0] h (some (.int q.1)) q.2 := by
  refine MM.of (mFx (j := 34) rfl).2.2.2.1 (Nat.le_of_ble_eq_true rfl) (fun X => ?_)
  refine ev_ok (o := 0) (ini := false) (Cl := C_X0_loosest N) (Rc := RcI) (B := B_X0_loosest) (K := fun pc ls st g => kb pc 10 (lgr 0 ls fun a0 => lgi 1 ls fun x1 => lgl_ 2 ls fun l2 => lgl_ 4 ls fun l4 => lgi 6 ls fun x6 => pe st (L_X0_loosest_10 N N a0 x1 l2 l4 x6 g)) (none)) rfl (fun e => by cases e) (by decide) (rcI_ok rfl) ?_ (co_X0_loosest N q) lb_X0_loosest 3000 0 S_X0_loosest_0 _ _ h ls_X0_loosest_0 hf
  intro pc ls st g e
  rcases kb_s e with ⟨rfl, e⟩ | e
  · obtain ⟨a0, e0, f0⟩ := lgr_s e
    obtain ⟨x1, e1, f1⟩ := lgi_s f0
    obtain ⟨l2, e2, f2⟩ := lgl_s f1
    obtain ⟨l4, e3, f3⟩ := lgl_s f2
    obtain ⟨x6, e4, f4⟩ := lgi_s f3
    obtain ⟨qe, fe⟩ := pe_s f4
    subst qe
    exact MW.sub (List.forall_mem_cons.mpr ⟨lg_mem e0, List.forall_mem_cons.mpr ⟨lg_mem e1, List.forall_mem_cons.mpr ⟨lg_mem e2, List.forall_mem_cons.mpr ⟨lg_mem e3, List.forall_mem_cons.mpr ⟨lg_mem e4, fun _ h => absurd h List.not_mem_nil⟩⟩⟩⟩⟩) (t_X0_loosest_10 N N a0 x1 l2 l4 x6 g fe)
  cases e
def L_X0_widthBehind_7 (N : Nat) : Nat → Nat → Int32 → Int32 → Int32 → mH → Option (Int32 × mH)
  | 0, _, _, _, _, _ => none
  | n + 1, a0, x1, x2, x3, h =>
    if x1 < x3 then
      some (x2, h)
    else
      (gI h 0 a0 2).bind fun v1 =>
      if x3 < v1 then
        (rcv h 0 a0).bind fun _ =>
        (f_X0_ofBand N a0 x3 (jI 6) h).bind fun p2 =>
        (rcv p2.2 0 a0).bind fun _ =>
        (f_X0_ofBand N a0 x3 (jI 3) p2.2).bind fun p3 =>
        let w4 := iMax (jI 1) (x2 + (p2.1 * p3.1))
        let w5 := x3 + jI 1
        L_X0_widthBehind_7 N n a0 x1 w4 w5 p3.2
      else
        some (x2, h)
def f_X0_widthBehind (N : Nat) (a0 : Nat) (x1 : Int32) (h : mH) : Option (Int32 × mH) :=
  (gI h 0 a0 5).bind fun v1 =>
  L_X0_widthBehind_7 N N a0 x1 v1 (jI 0) h
def y_X0_widthBehind : mM := (yX0_widthBehind, cX0_widthBehind, 4, (some .int))
def B_X0_widthBehind : List (Nat × List mI) := [(47, [(.iload_n 2, 1, [2], []), (.ireturn, 1, [], [])])]
def S_X0_widthBehind_0 : List mI := [(.aload_n 0, 1, [0], []), (.getfield 25, 3, [0, 5, 0, 17], []), (.istore_n 2, 1, [2], []), (.iconst 0, 1, [], [0]), (.istore_n 3, 1, [3], [])]
def S_X0_widthBehind_7 : List mI := [(.iload_n 3, 1, [3], []), (.iload_n 1, 1, [1], []), (.if_icmp .gt 38, 3, [47], []), (.iload_n 3, 1, [3], []), (.aload_n 0, 1, [0], []), (.getfield 34, 3, [0, 2, 0, 7], []), (.if_icmp .ge 30, 3, [47], []), (.iconst 1, 1, [], [1]), (.iload_n 2, 1, [2], []), (.aload_n 0, 1, [0], []), (.iload_n 3, 1, [3], []), (.bipush 6, 2, [], [6]), (.invokevirtual 53, 3, [0, 9, 2, 0, 33], []), (.aload_n 0, 1, [0], []), (.iload_n 3, 1, [3], []), (.iconst 3, 1, [], [3]), (.invokevirtual 53, 3, [0, 9, 2, 0, 33], []), (.imul, 1, [], []), (.iadd, 1, [], []), (.invokestatic 65, 3, [6, 0, 0, 0, 16], []), (.istore_n 2, 1, [2], []), (.iinc 3 1, 3, [3], [1]), (.goto (-37), 3, [7], [])]
theorem lb_X0_widthBehind : B_X0_widthBehind.all (fun b => lst y_X0_widthBehind.2.1 0 y_X0_widthBehind.2.2.1 false b.1 b.2) = true := by decide +kernel
theorem ls_X0_widthBehind_0 : lst y_X0_widthBehind.2.1 0 y_X0_widthBehind.2.2.1 false 0 S_X0_widthBehind_0 = true := by decide +kernel
theorem ls_X0_widthBehind_7 : lst y_X0_widthBehind.2.1 0 y_X0_widthBehind.2.2.1 false 7 S_X0_widthBehind_7 = true := by decide +kernel
def C_X0_widthBehind (N : Nat) : Nat → List Value → mH → (Option Value → mH → Option (Int32 × mH)) → Option (Int32 × mH) := fun j as g k => kb j 9 (pr1 as fun b0 as => pp1 as fun b1 as => pp1 as fun b2 as => pe as ((f_X0_ofBand N b0 b1 b2 g).bind fun p => k (some (.int p.1)) p.2)) (none)
theorem co_X0_widthBehind (N : Nat) (q : Int32 × mH) : clOK 5 q (C_X0_widthBehind N) := by
  intro j as g k e
  rcases kb_s e with ⟨rfl, e⟩ | e
  · obtain ⟨b0, r0, q0, f0⟩ := pr1_s e
    obtain ⟨b1, r1, q1, f1⟩ := pp1_s f0
    obtain ⟨b2, r2, q2, f2⟩ := pp1_s f1
    obtain ⟨qe, fe⟩ := pe_s f2
    obtain ⟨p, e1, e2⟩ := bnd_s fe
    subst qe
    subst q2
    subst q1
    subst q0
    exact ⟨_, _, _, _, 4, rfl, (by decide), m_X0_ofBand N e1, e2⟩
  cases e
set_option maxRecDepth 100000 in
theorem t_X0_widthBehind_7 {X : Nat × (Nat → Int32)} (N : Nat) {q : Int32 × mH} : ∀ (n : Nat) (a0 : Nat) (x1 : Int32) (x2 : Int32) (x3 : Int32) (h : mH), L_X0_widthBehind_7 N n a0 x1 x2 x3 h = some q → MW X y_X0_widthBehind 5 7 [(0, .ref a0), (1, .int x1), (2, .int x2), (3, .int x3)] [] h (some (.int q.1)) q.2 := by
  intro n
  induction n with
  | zero => intro a0 x1 x2 x3 h hf; cases hf
  | succ n ih =>
    intro a0 x1 x2 x3 h hf
    refine ev_ok (o := 0) (ini := false) (Cl := C_X0_widthBehind N) (Rc := RcI) (B := B_X0_widthBehind) (K := fun pc ls st g => kb pc 7 (lgr 0 ls fun a0 => lgi 1 ls fun x1 => lgi 2 ls fun x2 => lgi 3 ls fun x3 => pe st (L_X0_widthBehind_7 N n a0 x1 x2 x3 g)) (none)) rfl (fun e => by cases e) (by decide) (rcI_ok rfl) ?_ (co_X0_widthBehind N q) lb_X0_widthBehind 3000 7 S_X0_widthBehind_7 _ _ h ls_X0_widthBehind_7 hf
    intro pc ls st g e
    rcases kb_s e with ⟨rfl, e⟩ | e
    · obtain ⟨a0, e0, f0⟩ := lgr_s e
      obtain ⟨x1, e1, f1⟩ := lgi_s f0
      obtain ⟨x2, e2, f2⟩ := lgi_s f1
      obtain ⟨x3, e3, f3⟩ := lgi_s f2
      obtain ⟨qe, fe⟩ := pe_s f3
      subst qe
      exact MW.sub (List.forall_mem_cons.mpr ⟨lg_mem e0, List.forall_mem_cons.mpr ⟨lg_mem e1, List.forall_mem_cons.mpr ⟨lg_mem e2, List.forall_mem_cons.mpr ⟨lg_mem e3, fun _ h => absurd h List.not_mem_nil⟩⟩⟩⟩) (ih a0 x1 x2 x3 g fe)
    cases e
set_option maxRecDepth 100000 in
theorem m_X0_widthBehind (N : Nat) {a0 : Nat} {x1 : Int32} {h : mH} {q : Int32 × mH} (hf : f_X0_widthBehind N a0 x1 h = some q) : MM y_X0_widthBehind 5 [.ref a0, .int x1] h (some (.int q.1)) q.2 := by
  refine MM.of (mFx (j := 35) rfl).2.2.2.1 (Nat.le_of_ble_eq_true rfl) (fun X => ?_)
  refine ev_ok (o := 0) (ini := false) (Cl := C_X0_widthBehind N) (Rc := RcI) (B := B_X0_widthBehind) (K := fun pc ls st g => kb pc 7 (lgr 0 ls fun a0 => lgi 1 ls fun x1 => lgi 2 ls fun x2 => lgi 3 ls fun x3 => pe st (L_X0_widthBehind_7 N N a0 x1 x2 x3 g)) (none)) rfl (fun e => by cases e) (by decide) (rcI_ok rfl) ?_ (co_X0_widthBehind N q) lb_X0_widthBehind 3000 0 S_X0_widthBehind_0 _ _ h ls_X0_widthBehind_0 hf
  intro pc ls st g e
  rcases kb_s e with ⟨rfl, e⟩ | e
  · obtain ⟨a0, e0, f0⟩ := lgr_s e
    obtain ⟨x1, e1, f1⟩ := lgi_s f0
    obtain ⟨x2, e2, f2⟩ := lgi_s f1
    obtain ⟨x3, e3, f3⟩ := lgi_s f2
    obtain ⟨qe, fe⟩ := pe_s f3
    subst qe
    exact MW.sub (List.forall_mem_cons.mpr ⟨lg_mem e0, List.forall_mem_cons.mpr ⟨lg_mem e1, List.forall_mem_cons.mpr ⟨lg_mem e2, List.forall_mem_cons.mpr ⟨lg_mem e3, fun _ h => absurd h List.not_mem_nil⟩⟩⟩⟩) (t_X0_widthBehind_7 N N a0 x1 x2 x3 g fe)
  cases e
def f_X11_drawn (N : Nat) (x0 : Int32) (h : mH) : Option (Int32 × mH) :=
  some (((jI 1103515245) * x0) + (jI 12345), h)
def y_X11_drawn : mM := (yX11_drawn, cX11_drawn, 1, (some .int))
def B_X11_drawn : List (Nat × List mI) := []
def S_X11_drawn_0 : List mI := [(.ldc_w 471, 3, [3], [1103515245]), (.iload_n 0, 1, [0], []), (.imul, 1, [], []), (.sipush 12345, 3, [], [12345]), (.iadd, 1, [], []), (.ireturn, 1, [], [])]
theorem lb_X11_drawn : B_X11_drawn.all (fun b => lst y_X11_drawn.2.1 11 y_X11_drawn.2.2.1 false b.1 b.2) = true := by decide +kernel
theorem ls_X11_drawn_0 : lst y_X11_drawn.2.1 11 y_X11_drawn.2.2.1 false 0 S_X11_drawn_0 = true := by decide +kernel
def C_X11_drawn (N : Nat) : Nat → List Value → mH → (Option Value → mH → Option (Int32 × mH)) → Option (Int32 × mH) := fun j as g k => none
theorem co_X11_drawn (N : Nat) (q : Int32 × mH) : clOK 4 q (C_X11_drawn N) := by
  intro j as g k e
  cases e
set_option maxRecDepth 100000 in
theorem m_X11_drawn (N : Nat) {x0 : Int32} {h : mH} {q : Int32 × mH} (hf : f_X11_drawn N x0 h = some q) : MM y_X11_drawn 4 [.int x0] h (some (.int q.1)) q.2 := by
  refine MM.of (mFx (j := 220) rfl).2.2.2.1 (Nat.le_of_ble_eq_true rfl) (fun X => ?_)
  refine ev_ok (o := 11) (ini := false) (Cl := C_X11_drawn N) (Rc := RcI) (B := B_X11_drawn) (K := fun pc ls st g => none) rfl (fun e => by cases e) (by decide) (rcI_ok rfl) ?_ (co_X11_drawn N q) lb_X11_drawn 3000 0 S_X11_drawn_0 _ _ h ls_X11_drawn_0 hf
  intro pc ls st g e
  cases e
def L_X0_wanderFrom_58 (N : Nat) (k46 : Nat → Int32 → Int32 → Int32 → Int32 → Int32 → Int32 → mH → Option (Int32 × mH)) : Nat → Nat → Int32 → Int32 → Int32 → Int32 → Int32 → Int32 → Int32 → mH → Option (Int32 × mH)
  | 0, _, _, _, _, _, _, _, _, _ => none
  | n + 1, a0, x2, x3, x4, x5, x6, x7, x8, h =>
    (rcv h 0 a0).bind fun _ =>
    (f_X0_ofBand N a0 x7 (jI 3) h).bind fun p1 =>
    if x8 < p1.1 then
      (f_X11_drawn N x3 p1.2).bind fun p2 =>
      (rcv p2.2 0 a0).bind fun _ =>
      (f_X0_ofBand N a0 x7 (jI 6) p2.2).bind fun p3 =>
      if (jI 3) = 0 then none else
      let w4 := iMax (jI 1) (((x4 + p3.1) + (iRem (iUsr p2.1 (jI 16)) (jI 3))) - (jI 1))
      let w5 := iMin x5 w4
      let w6 := iMax x6 w4
      let w7 := x8 + jI 1
      L_X0_wanderFrom_58 N k46 n a0 x2 p2.1 w4 w5 w6 x7 w7 p3.2
    else
      let w8 := x7 + jI 1
      k46 a0 x2 x3 x4 x5 x6 w8 p1.2
def L_X0_wanderFrom_46 (N : Nat) : Nat → Nat → Int32 → Int32 → Int32 → Int32 → Int32 → Int32 → mH → Option (Int32 × mH)
  | 0, _, _, _, _, _, _, _, _ => none
  | n + 1, a0, x2, x3, x4, x5, x6, x7, h =>
    (gI h 0 a0 2).bind fun v1 =>
    if x7 < v1 then
      L_X0_wanderFrom_58 N (L_X0_wanderFrom_46 N n) N a0 x2 x3 x4 x5 x6 x7 (jI 0) h
    else
      if x2 = jI 0 then
        some (x4, h)
      else
      if x2 = jI 1 then
        some (x5, h)
      else
      some (x6, h)
def J_X0_wanderFrom_24 (N : Nat) (a0 : Nat) (x2 : Int32) (x3 : Int32) (x4 : Int32) (s_0 : Int32) (h : mH) : Option (Int32 × mH) :=
  (gI h 0 a0 2).bind fun v1 =>
  if v1 = 0 then
    (gI h 0 a0 5).bind fun v2 =>
    L_X0_wanderFrom_46 N N a0 x2 x3 x4 s_0 v2 (jI 0) h
  else
    L_X0_wanderFrom_46 N N a0 x2 x3 x4 s_0 (jI 0) (jI 0) h
def f_X0_wanderFrom (N : Nat) (a0 : Nat) (x1 : Int32) (x2 : Int32) (h : mH) : Option (Int32 × mH) :=
  (gI h 0 a0 5).bind fun v1 =>
  (gI h 0 a0 2).bind fun v2 =>
  if v2 = 0 then
    (gI h 0 a0 5).bind fun v3 =>
    J_X0_wanderFrom_24 N a0 x2 x1 v1 v3 h
  else
    J_X0_wanderFrom_24 N a0 x2 x1 v1 (jI 2147483647) h
def y_X0_wanderFrom : mM := (yX0_wanderFrom, cX0_wanderFrom, 9, (some .int))
def B_X0_wanderFrom : List (Nat × List mI) := [(22, [(.ldc 112, 2, [0, 7], [2147483647])]), (40, [(.iconst 0, 1, [], [0])]), (41, [(.istore 6, 2, [6], []), (.iconst 0, 1, [], [0]), (.istore 7, 2, [7], [])]), (125, [(.iinc 7 1, 3, [7], [1]), (.goto (-82), 3, [46], [])]), (131, [(.iload_n 2, 1, [2], []), (.lookupswitch 34 #[(0, 28), (1, 31)], 28, [166, 160, 163], [0, 1])]), (160, [(.iload 4, 2, [4], []), (.ireturn, 1, [], [])]), (163, [(.iload 5, 2, [5], []), (.ireturn, 1, [], [])]), (166, [(.iload 6, 2, [6], []), (.ireturn, 1, [], [])])]
def S_X0_wanderFrom_0 : List mI := [(.iload_n 1, 1, [1], []), (.istore_n 3, 1, [3], []), (.aload_n 0, 1, [0], []), (.getfield 25, 3, [0, 5, 0, 17], []), (.istore 4, 2, [4], []), (.aload_n 0, 1, [0], []), (.getfield 34, 3, [0, 2, 0, 7], []), (.ifCond .ne 10, 3, [22], []), (.aload_n 0, 1, [0], []), (.getfield 25, 3, [0, 5, 0, 17], []), (.goto 5, 3, [24], [])]
def S_X0_wanderFrom_24 : List mI := [(.istore 5, 2, [5], []), (.aload_n 0, 1, [0], []), (.getfield 34, 3, [0, 2, 0, 7], []), (.ifCond .ne 10, 3, [40], []), (.aload_n 0, 1, [0], []), (.getfield 25, 3, [0, 5, 0, 17], []), (.goto 4, 3, [41], [])]
def S_X0_wanderFrom_46 : List mI := [(.iload 7, 2, [7], []), (.aload_n 0, 1, [0], []), (.getfield 34, 3, [0, 2, 0, 7], []), (.if_icmp .ge 79, 3, [131], []), (.iconst 0, 1, [], [0]), (.istore 8, 2, [8], [])]
def S_X0_wanderFrom_58 : List mI := [(.iload 8, 2, [8], []), (.aload_n 0, 1, [0], []), (.iload 7, 2, [7], []), (.iconst 3, 1, [], [3]), (.invokevirtual 53, 3, [0, 9, 2, 0, 33], []), (.if_icmp .ge 58, 3, [125], []), (.iload_n 3, 1, [3], []), (.invokestatic 113, 3, [3, 220, 1, 0, 15], []), (.istore_n 3, 1, [3], []), (.iconst 1, 1, [], [1]), (.iload 4, 2, [4], []), (.aload_n 0, 1, [0], []), (.iload 7, 2, [7], []), (.bipush 6, 2, [], [6]), (.invokevirtual 53, 3, [0, 9, 2, 0, 33], []), (.iadd, 1, [], []), (.iload_n 3, 1, [3], []), (.bipush 16, 2, [], [16]), (.iushr, 1, [], []), (.iconst 3, 1, [], [3]), (.irem, 1, [], []), (.iadd, 1, [], []), (.iconst 1, 1, [], [1]), (.isub, 1, [], []), (.invokestatic 65, 3, [6, 0, 0, 0, 16], []), (.istore 4, 2, [4], []), (.iload 5, 2, [5], []), (.iload 4, 2, [4], []), (.invokestatic 87, 3, [7, 0, 0, 0, 17], []), (.istore 5, 2, [5], []), (.iload 6, 2, [6], []), (.iload 4, 2, [4], []), (.invokestatic 65, 3, [6, 0, 0, 0, 16], []), (.istore 6, 2, [6], []), (.iinc 8 1, 3, [8], [1]), (.goto (-64), 3, [58], [])]
theorem lb_X0_wanderFrom : B_X0_wanderFrom.all (fun b => lst y_X0_wanderFrom.2.1 0 y_X0_wanderFrom.2.2.1 false b.1 b.2) = true := by decide +kernel
theorem ls_X0_wanderFrom_0 : lst y_X0_wanderFrom.2.1 0 y_X0_wanderFrom.2.2.1 false 0 S_X0_wanderFrom_0 = true := by decide +kernel
theorem ls_X0_wanderFrom_24 : lst y_X0_wanderFrom.2.1 0 y_X0_wanderFrom.2.2.1 false 24 S_X0_wanderFrom_24 = true := by decide +kernel
theorem ls_X0_wanderFrom_46 : lst y_X0_wanderFrom.2.1 0 y_X0_wanderFrom.2.2.1 false 46 S_X0_wanderFrom_46 = true := by decide +kernel
theorem ls_X0_wanderFrom_58 : lst y_X0_wanderFrom.2.1 0 y_X0_wanderFrom.2.2.1 false 58 S_X0_wanderFrom_58 = true := by decide +kernel
def C_X0_wanderFrom (N : Nat) : Nat → List Value → mH → (Option Value → mH → Option (Int32 × mH)) → Option (Int32 × mH) := fun j as g k => kb j 9 (pr1 as fun b0 as => pp1 as fun b1 as => pp1 as fun b2 as => pe as ((f_X0_ofBand N b0 b1 b2 g).bind fun p => k (some (.int p.1)) p.2)) (kb j 220 (pp1 as fun b0 as => pe as ((f_X11_drawn N b0 g).bind fun p => k (some (.int p.1)) p.2)) (none))
theorem co_X0_wanderFrom (N : Nat) (q : Int32 × mH) : clOK 5 q (C_X0_wanderFrom N) := by
  intro j as g k e
  rcases kb_s e with ⟨rfl, e⟩ | e
  · obtain ⟨b0, r0, q0, f0⟩ := pr1_s e
    obtain ⟨b1, r1, q1, f1⟩ := pp1_s f0
    obtain ⟨b2, r2, q2, f2⟩ := pp1_s f1
    obtain ⟨qe, fe⟩ := pe_s f2
    obtain ⟨p, e1, e2⟩ := bnd_s fe
    subst qe
    subst q2
    subst q1
    subst q0
    exact ⟨_, _, _, _, 4, rfl, (by decide), m_X0_ofBand N e1, e2⟩
  rcases kb_s e with ⟨rfl, e⟩ | e
  · obtain ⟨b0, r0, q0, f0⟩ := pp1_s e
    obtain ⟨qe, fe⟩ := pe_s f0
    obtain ⟨p, e1, e2⟩ := bnd_s fe
    subst qe
    subst q0
    exact ⟨_, _, _, _, 4, rfl, (by decide), m_X11_drawn N e1, e2⟩
  cases e
set_option maxRecDepth 100000 in
theorem t_X0_wanderFrom_58 {X : Nat × (Nat → Int32)} (N : Nat) {q : Int32 × mH} {k46 : Nat → Int32 → Int32 → Int32 → Int32 → Int32 → Int32 → mH → Option (Int32 × mH)} (hk46 : ∀ (a0 : Nat) (x2 : Int32) (x3 : Int32) (x4 : Int32) (x5 : Int32) (x6 : Int32) (x7 : Int32) g, k46 a0 x2 x3 x4 x5 x6 x7 g = some q → MW X y_X0_wanderFrom 5 46 [(0, .ref a0), (2, .int x2), (3, .int x3), (4, .int x4), (5, .int x5), (6, .int x6), (7, .int x7)] [] g (some (.int q.1)) q.2) : ∀ (n : Nat) (a0 : Nat) (x2 : Int32) (x3 : Int32) (x4 : Int32) (x5 : Int32) (x6 : Int32) (x7 : Int32) (x8 : Int32) (h : mH), L_X0_wanderFrom_58 N k46 n a0 x2 x3 x4 x5 x6 x7 x8 h = some q → MW X y_X0_wanderFrom 5 58 [(0, .ref a0), (2, .int x2), (3, .int x3), (4, .int x4), (5, .int x5), (6, .int x6), (7, .int x7), (8, .int x8)] [] h (some (.int q.1)) q.2 := by
  intro n
  induction n with
  | zero => intro a0 x2 x3 x4 x5 x6 x7 x8 h hf; cases hf
  | succ n ih =>
    intro a0 x2 x3 x4 x5 x6 x7 x8 h hf
    refine ev_ok (o := 0) (ini := false) (Cl := C_X0_wanderFrom N) (Rc := RcI) (B := B_X0_wanderFrom) (K := fun pc ls st g => kb pc 46 (lgr 0 ls fun a0 => lgi 2 ls fun x2 => lgi 3 ls fun x3 => lgi 4 ls fun x4 => lgi 5 ls fun x5 => lgi 6 ls fun x6 => lgi 7 ls fun x7 => pe st (k46 a0 x2 x3 x4 x5 x6 x7 g)) (kb pc 58 (lgr 0 ls fun a0 => lgi 2 ls fun x2 => lgi 3 ls fun x3 => lgi 4 ls fun x4 => lgi 5 ls fun x5 => lgi 6 ls fun x6 => lgi 7 ls fun x7 => lgi 8 ls fun x8 => pe st (L_X0_wanderFrom_58 N k46 n a0 x2 x3 x4 x5 x6 x7 x8 g)) (none))) rfl (fun e => by cases e) (by decide) (rcI_ok rfl) ?_ (co_X0_wanderFrom N q) lb_X0_wanderFrom 3000 58 S_X0_wanderFrom_58 _ _ h ls_X0_wanderFrom_58 hf
    intro pc ls st g e
    rcases kb_s e with ⟨rfl, e⟩ | e
    · obtain ⟨a0, e0, f0⟩ := lgr_s e
      obtain ⟨x2, e1, f1⟩ := lgi_s f0
      obtain ⟨x3, e2, f2⟩ := lgi_s f1
      obtain ⟨x4, e3, f3⟩ := lgi_s f2
      obtain ⟨x5, e4, f4⟩ := lgi_s f3
      obtain ⟨x6, e5, f5⟩ := lgi_s f4
      obtain ⟨x7, e6, f6⟩ := lgi_s f5
      obtain ⟨qe, fe⟩ := pe_s f6
      subst qe
      exact MW.sub (List.forall_mem_cons.mpr ⟨lg_mem e0, List.forall_mem_cons.mpr ⟨lg_mem e1, List.forall_mem_cons.mpr ⟨lg_mem e2, List.forall_mem_cons.mpr ⟨lg_mem e3, List.forall_mem_cons.mpr ⟨lg_mem e4, List.forall_mem_cons.mpr ⟨lg_mem e5, List.forall_mem_cons.mpr ⟨lg_mem e6, fun _ h => absurd h List.not_mem_nil⟩⟩⟩⟩⟩⟩⟩) (hk46 a0 x2 x3 x4 x5 x6 x7 g fe)
    rcases kb_s e with ⟨rfl, e⟩ | e
    · obtain ⟨a0, e0, f0⟩ := lgr_s e
      obtain ⟨x2, e1, f1⟩ := lgi_s f0
      obtain ⟨x3, e2, f2⟩ := lgi_s f1
      obtain ⟨x4, e3, f3⟩ := lgi_s f2
      obtain ⟨x5, e4, f4⟩ := lgi_s f3
      obtain ⟨x6, e5, f5⟩ := lgi_s f4
      obtain ⟨x7, e6, f6⟩ := lgi_s f5
      obtain ⟨x8, e7, f7⟩ := lgi_s f6
      obtain ⟨qe, fe⟩ := pe_s f7
      subst qe
      exact MW.sub (List.forall_mem_cons.mpr ⟨lg_mem e0, List.forall_mem_cons.mpr ⟨lg_mem e1, List.forall_mem_cons.mpr ⟨lg_mem e2, List.forall_mem_cons.mpr ⟨lg_mem e3, List.forall_mem_cons.mpr ⟨lg_mem e4, List.forall_mem_cons.mpr ⟨lg_mem e5, List.forall_mem_cons.mpr ⟨lg_mem e6, List.forall_mem_cons.mpr ⟨lg_mem e7, fun _ h => absurd h List.not_mem_nil⟩⟩⟩⟩⟩⟩⟩⟩) (ih a0 x2 x3 x4 x5 x6 x7 x8 g fe)
    cases e
set_option maxRecDepth 100000 in
theorem t_X0_wanderFrom_46 {X : Nat × (Nat → Int32)} (N : Nat) {q : Int32 × mH} : ∀ (n : Nat) (a0 : Nat) (x2 : Int32) (x3 : Int32) (x4 : Int32) (x5 : Int32) (x6 : Int32) (x7 : Int32) (h : mH), L_X0_wanderFrom_46 N n a0 x2 x3 x4 x5 x6 x7 h = some q → MW X y_X0_wanderFrom 5 46 [(0, .ref a0), (2, .int x2), (3, .int x3), (4, .int x4), (5, .int x5), (6, .int x6), (7, .int x7)] [] h (some (.int q.1)) q.2 := by
  intro n
  induction n with
  | zero => intro a0 x2 x3 x4 x5 x6 x7 h hf; cases hf
  | succ n ih =>
    intro a0 x2 x3 x4 x5 x6 x7 h hf
    refine ev_ok (o := 0) (ini := false) (Cl := C_X0_wanderFrom N) (Rc := RcI) (B := B_X0_wanderFrom) (K := fun pc ls st g => kb pc 58 (lgr 0 ls fun a0 => lgi 2 ls fun x2 => lgi 3 ls fun x3 => lgi 4 ls fun x4 => lgi 5 ls fun x5 => lgi 6 ls fun x6 => lgi 7 ls fun x7 => lgi 8 ls fun x8 => pe st (L_X0_wanderFrom_58 N (L_X0_wanderFrom_46 N n) N a0 x2 x3 x4 x5 x6 x7 x8 g)) (none)) rfl (fun e => by cases e) (by decide) (rcI_ok rfl) ?_ (co_X0_wanderFrom N q) lb_X0_wanderFrom 3000 46 S_X0_wanderFrom_46 _ _ h ls_X0_wanderFrom_46 hf
    intro pc ls st g e
    rcases kb_s e with ⟨rfl, e⟩ | e
    · obtain ⟨a0, e0, f0⟩ := lgr_s e
      obtain ⟨x2, e1, f1⟩ := lgi_s f0
      obtain ⟨x3, e2, f2⟩ := lgi_s f1
      obtain ⟨x4, e3, f3⟩ := lgi_s f2
      obtain ⟨x5, e4, f4⟩ := lgi_s f3
      obtain ⟨x6, e5, f5⟩ := lgi_s f4
      obtain ⟨x7, e6, f6⟩ := lgi_s f5
      obtain ⟨x8, e7, f7⟩ := lgi_s f6
      obtain ⟨qe, fe⟩ := pe_s f7
      subst qe
      exact MW.sub (List.forall_mem_cons.mpr ⟨lg_mem e0, List.forall_mem_cons.mpr ⟨lg_mem e1, List.forall_mem_cons.mpr ⟨lg_mem e2, List.forall_mem_cons.mpr ⟨lg_mem e3, List.forall_mem_cons.mpr ⟨lg_mem e4, List.forall_mem_cons.mpr ⟨lg_mem e5, List.forall_mem_cons.mpr ⟨lg_mem e6, List.forall_mem_cons.mpr ⟨lg_mem e7, fun _ h => absurd h List.not_mem_nil⟩⟩⟩⟩⟩⟩⟩⟩) (t_X0_wanderFrom_58 N (fun a0 x2 x3 x4 x5 x6 x7 g e => ih a0 x2 x3 x4 x5 x6 x7 g e) N a0 x2 x3 x4 x5 x6 x7 x8 g fe)
    cases e
set_option maxRecDepth 100000 in
theorem t_X0_wanderFrom_24 {X : Nat × (Nat → Int32)} (N : Nat) {q : Int32 × mH} (a0 : Nat) (x2 : Int32) (x3 : Int32) (x4 : Int32) (s_0 : Int32) (h : mH) (hf : J_X0_wanderFrom_24 N a0 x2 x3 x4 s_0 h = some q) : MW X y_X0_wanderFrom 5 24 [(0, .ref a0), (2, .int x2), (3, .int x3), (4, .int x4)] [.int s_0] h (some (.int q.1)) q.2 := by
  refine ev_ok (o := 0) (ini := false) (Cl := C_X0_wanderFrom N) (Rc := RcI) (B := B_X0_wanderFrom) (K := fun pc ls st g => kb pc 46 (lgr 0 ls fun a0 => lgi 2 ls fun x2 => lgi 3 ls fun x3 => lgi 4 ls fun x4 => lgi 5 ls fun x5 => lgi 6 ls fun x6 => lgi 7 ls fun x7 => pe st (L_X0_wanderFrom_46 N N a0 x2 x3 x4 x5 x6 x7 g)) (none)) rfl (fun e => by cases e) (by decide) (rcI_ok rfl) ?_ (co_X0_wanderFrom N q) lb_X0_wanderFrom 3000 24 S_X0_wanderFrom_24 _ _ h ls_X0_wanderFrom_24 hf
  intro pc ls st g e
  rcases kb_s e with ⟨rfl, e⟩ | e
  · obtain ⟨a0, e0, f0⟩ := lgr_s e
    obtain ⟨x2, e1, f1⟩ := lgi_s f0
    obtain ⟨x3, e2, f2⟩ := lgi_s f1
    obtain ⟨x4, e3, f3⟩ := lgi_s f2
    obtain ⟨x5, e4, f4⟩ := lgi_s f3
    obtain ⟨x6, e5, f5⟩ := lgi_s f4
    obtain ⟨x7, e6, f6⟩ := lgi_s f5
    obtain ⟨qe, fe⟩ := pe_s f6
    subst qe
    exact MW.sub (List.forall_mem_cons.mpr ⟨lg_mem e0, List.forall_mem_cons.mpr ⟨lg_mem e1, List.forall_mem_cons.mpr ⟨lg_mem e2, List.forall_mem_cons.mpr ⟨lg_mem e3, List.forall_mem_cons.mpr ⟨lg_mem e4, List.forall_mem_cons.mpr ⟨lg_mem e5, List.forall_mem_cons.mpr ⟨lg_mem e6, fun _ h => absurd h List.not_mem_nil⟩⟩⟩⟩⟩⟩⟩) (t_X0_wanderFrom_46 N N a0 x2 x3 x4 x5 x6 x7 g fe)
  cases e
set_option maxRecDepth 100000 in
theorem m_X0_wanderFrom (N : Nat) {a0 : Nat} {x1 : Int32} {x2 : Int32} {h : mH} {q : Int32 × mH} (hf : f_X0_wanderFrom N a0 x1 x2 h = some q) : MM y_X0_wanderFrom 5 [.ref a0, .int x1, .int x2] h (some (.int q.1)) q.2 := by
  refine MM.of (mFx (j := 36) rfl).2.2.2.1 (Nat.le_of_ble_eq_true rfl) (fun X => ?_)
  refine ev_ok (o := 0) (ini := false) (Cl := C_X0_wanderFrom N) (Rc := RcI) (B := B_X0_wanderFrom) (K := fun pc ls st g => kb pc 24 (lgr 0 ls fun a0 => lgi 2 ls fun x2 => lgi 3 ls fun x3 => lgi 4 ls fun x4 => pp1 st fun s_0 st => pe st (J_X0_wanderFrom_24 N a0 x2 x3 x4 s_0 g)) (none)) rfl (fun e => by cases e) (by decide) (rcI_ok rfl) ?_ (co_X0_wanderFrom N q) lb_X0_wanderFrom 3000 0 S_X0_wanderFrom_0 _ _ h ls_X0_wanderFrom_0 hf
  intro pc ls st g e
  rcases kb_s e with ⟨rfl, e⟩ | e
  · obtain ⟨a0, e0, f0⟩ := lgr_s e
    obtain ⟨x2, e1, f1⟩ := lgi_s f0
    obtain ⟨x3, e2, f2⟩ := lgi_s f1
    obtain ⟨x4, e3, f3⟩ := lgi_s f2
    obtain ⟨s_0, r0, q0, g0⟩ := pp1_s f3
    obtain ⟨qe, fe⟩ := pe_s g0
    subst qe
    subst q0
    exact MW.sub (List.forall_mem_cons.mpr ⟨lg_mem e0, List.forall_mem_cons.mpr ⟨lg_mem e1, List.forall_mem_cons.mpr ⟨lg_mem e2, List.forall_mem_cons.mpr ⟨lg_mem e3, fun _ h => absurd h List.not_mem_nil⟩⟩⟩⟩) (t_X0_wanderFrom_24 N a0 x2 x3 x4 s_0 g fe)
  cases e
def f_X1_init (N : Nat) (a0 : Nat) (h : mH) : Option (mH) :=
  (nwA h 0 (jI 8)).bind fun h1 =>
  (pV h1 1 a0 4 (.ref h.1)).bind fun h2 =>
  (nwA h2 0 (jI 8)).bind fun h3 =>
  (pV h3 1 a0 5 (.ref h2.1)).bind fun h4 =>
  (nwA h4 0 (jI 8)).bind fun h5 =>
  (pV h5 1 a0 6 (.ref h4.1)).bind fun h6 =>
  (nwA h6 0 (jI 8)).bind fun h7 =>
  (pV h7 1 a0 7 (.ref h6.1)).bind fun h8 =>
  (nwA h8 0 (jI 8)).bind fun h9 =>
  (pV h9 1 a0 8 (.ref h8.1)).bind fun h10 =>
  (nwA h10 0 (jI 8)).bind fun h11 =>
  (pV h11 1 a0 9 (.ref h10.1)).bind fun h12 =>
  (nwA h12 0 (jI 19)).bind fun h13 =>
  (pV h13 1 a0 10 (.ref h12.1)).bind fun h14 =>
  (nwA h14 0 (jI 19)).bind fun h15 =>
  (pV h15 1 a0 11 (.ref h14.1)).bind fun h16 =>
  (nwA h16 0 (jI 19)).bind fun h17 =>
  (pV h17 1 a0 12 (.ref h16.1)).bind fun h18 =>
  (nwA h18 0 (jI 19)).bind fun h19 =>
  (pV h19 1 a0 13 (.ref h18.1)).bind fun h20 =>
  (nwA h20 1 (jI 0)).bind fun h21 =>
  (pV h21 1 a0 14 (.ref h20.1)).bind fun h22 =>
  (nwA h22 1 (jI 0)).bind fun h23 =>
  (pV h23 1 a0 15 (.ref h22.1)).bind fun h24 =>
  some h24
def y_X1_init : mM := (yX1_init, cX1_init, 1, none)
def B_X1_init : List (Nat × List mI) := []
def S_X1_init_0 : List mI := [(.aload_n 0, 1, [0], []), (.invokespecial 5, 3, [5, 0, 0, 0, 10], []), (.aload_n 0, 1, [0], []), (.bipush 8, 2, [], [8]), (.newarray .int, 2, [0], []), (.putfield 13, 3, [1, 4, 2, 94], []), (.aload_n 0, 1, [0], []), (.bipush 8, 2, [], [8]), (.newarray .int, 2, [0], []), (.putfield 17, 3, [1, 5, 2, 95], []), (.aload_n 0, 1, [0], []), (.bipush 8, 2, [], [8]), (.newarray .int, 2, [0], []), (.putfield 20, 3, [1, 6, 2, 96], []), (.aload_n 0, 1, [0], []), (.bipush 8, 2, [], [8]), (.newarray .int, 2, [0], []), (.putfield 23, 3, [1, 7, 2, 97], []), (.aload_n 0, 1, [0], []), (.bipush 8, 2, [], [8]), (.newarray .int, 2, [0], []), (.putfield 26, 3, [1, 8, 2, 98], []), (.aload_n 0, 1, [0], []), (.bipush 8, 2, [], [8]), (.newarray .int, 2, [0], []), (.putfield 29, 3, [1, 9, 2, 99], []), (.aload_n 0, 1, [0], []), (.bipush 19, 2, [], [19]), (.newarray .int, 2, [0], []), (.putfield 32, 3, [1, 10, 2, 100], []), (.aload_n 0, 1, [0], []), (.bipush 19, 2, [], [19]), (.newarray .int, 2, [0], []), (.putfield 35, 3, [1, 11, 2, 101], []), (.aload_n 0, 1, [0], []), (.bipush 19, 2, [], [19]), (.newarray .int, 2, [0], []), (.putfield 38, 3, [1, 12, 2, 102], []), (.aload_n 0, 1, [0], []), (.bipush 19, 2, [], [19]), (.newarray .int, 2, [0], []), (.putfield 41, 3, [1, 13, 2, 103], []), (.aload_n 0, 1, [0], []), (.iconst 0, 1, [], [0]), (.newarray .long, 2, [1], []), (.putfield 44, 3, [1, 14, 2, 104], []), (.aload_n 0, 1, [0], []), (.iconst 0, 1, [], [0]), (.newarray .long, 2, [1], []), (.putfield 48, 3, [1, 15, 2, 105], []), (.return_, 1, [], [])]
theorem lb_X1_init : B_X1_init.all (fun b => lst y_X1_init.2.1 1 y_X1_init.2.2.1 true b.1 b.2) = true := by decide +kernel
theorem ls_X1_init_0 : lst y_X1_init.2.1 1 y_X1_init.2.2.1 true 0 S_X1_init_0 = true := by decide +kernel
def C_X1_init (N : Nat) : Nat → List Value → mH → (Option Value → mH → Option (mH)) → Option (mH) := fun j as g k => none
theorem co_X1_init (N : Nat) (q : mH) : clOK 4 q (C_X1_init N) := by
  intro j as g k e
  cases e
set_option maxRecDepth 100000 in
theorem m_X1_init (N : Nat) {a0 : Nat} {h : mH} {q : mH} (hf : f_X1_init N a0 h = some q) : MM y_X1_init 4 [.ref a0] h none q := by
  refine MM.of (mFx (j := 37) rfl).2.2.2.1 (Nat.le_of_ble_eq_true rfl) (fun X => ?_)
  refine ev_ok (o := 1) (ini := true) (Cl := C_X1_init N) (Rc := RcV) (B := B_X1_init) (K := fun pc ls st g => none) rfl (fun _ => rfl) (by decide) (rcV_ok rfl) ?_ (co_X1_init N q) lb_X1_init 3000 0 S_X1_init_0 _ _ h ls_X1_init_0 hf
  intro pc ls st g e
  cases e
end
