-- ===== PART A: goes FIRST, ahead of the names: the tables' words, and 'selects' of the private methods out of them =====
/-- a private method of a class that the tables say can be made, by its rows of tables_1 -/
def lw_okq (q : MethodName × Nat) : Prop := (q.1.cls ≠ "java/lang/invoke/MethodHandle" ∧ q.1.cls ≠ "java/lang/invoke/VarHandle") ∧ Cond.instantiable q.1.cls q.2 ∈ tables_1 ∧ Cond.privateMethod q.1 ∈ tables_1 ∧ Cond.instanceMethod q.1 ∈ tables_1
theorem lw_p0 : lw_okq (⟨"FactShares", "isShare", "(I)Z"⟩, 9) := ⟨⟨by decide +kernel, by decide +kernel⟩, List.mem_of_getElem? (i := 12) (by decide +kernel), List.mem_of_getElem? (i := 273) (by decide +kernel), List.mem_of_getElem? (i := 274) (by decide +kernel)⟩
theorem lw_p1 : lw_okq (⟨"FactShares", "playRound", "(I)I"⟩, 9) := ⟨⟨by decide +kernel, by decide +kernel⟩, List.mem_of_getElem? (i := 12) (by decide +kernel), List.mem_of_getElem? (i := 331) (by decide +kernel), List.mem_of_getElem? (i := 332) (by decide +kernel)⟩
theorem lw_p2 : lw_okq (⟨"FactShares", "beginRound", "()V"⟩, 9) := ⟨⟨by decide +kernel, by decide +kernel⟩, List.mem_of_getElem? (i := 12) (by decide +kernel), List.mem_of_getElem? (i := 335) (by decide +kernel), List.mem_of_getElem? (i := 336) (by decide +kernel)⟩
theorem lw_p3 : lw_okq (⟨"FactShares", "playTurn", "()V"⟩, 9) := ⟨⟨by decide +kernel, by decide +kernel⟩, List.mem_of_getElem? (i := 12) (by decide +kernel), List.mem_of_getElem? (i := 346) (by decide +kernel), List.mem_of_getElem? (i := 347) (by decide +kernel)⟩
theorem lw_p4 : lw_okq (⟨"FactShares$Crew", "leftAt", "(I)LFactShares$Worker;"⟩, 5) := ⟨⟨by decide +kernel, by decide +kernel⟩, List.mem_of_getElem? (i := 63) (by decide +kernel), List.mem_of_getElem? (i := 355) (by decide +kernel), List.mem_of_getElem? (i := 356) (by decide +kernel)⟩
theorem lw_p5 : lw_okq (⟨"FactShares", "loseNow", "(LFactShares$Worker;)V"⟩, 9) := ⟨⟨by decide +kernel, by decide +kernel⟩, List.mem_of_getElem? (i := 12) (by decide +kernel), List.mem_of_getElem? (i := 363) (by decide +kernel), List.mem_of_getElem? (i := 364) (by decide +kernel)⟩
theorem lw_p6 : lw_okq (⟨"FactShares", "takeShare", "(LFactShares$Worker;)V"⟩, 9) := ⟨⟨by decide +kernel, by decide +kernel⟩, List.mem_of_getElem? (i := 12) (by decide +kernel), List.mem_of_getElem? (i := 375) (by decide +kernel), List.mem_of_getElem? (i := 376) (by decide +kernel)⟩
theorem lw_p7 : lw_okq (⟨"FactShares", "finish", "(LFactShares$Worker;LFactShares$Share;I)V"⟩, 9) := ⟨⟨by decide +kernel, by decide +kernel⟩, List.mem_of_getElem? (i := 12) (by decide +kernel), List.mem_of_getElem? (i := 391) (by decide +kernel), List.mem_of_getElem? (i := 392) (by decide +kernel)⟩
theorem lw_p8 : lw_okq (⟨"FactShares", "doNextAct", "(LFactShares$Worker;LFactShares$Share;)V"⟩, 9) := ⟨⟨by decide +kernel, by decide +kernel⟩, List.mem_of_getElem? (i := 12) (by decide +kernel), List.mem_of_getElem? (i := 399) (by decide +kernel), List.mem_of_getElem? (i := 400) (by decide +kernel)⟩
theorem lw_p9 : lw_okq (⟨"FactShares$Bench", "push", "(II)I"⟩, 6) := ⟨⟨by decide +kernel, by decide +kernel⟩, List.mem_of_getElem? (i := 77) (by decide +kernel), List.mem_of_getElem? (i := 407) (by decide +kernel), List.mem_of_getElem? (i := 408) (by decide +kernel)⟩
theorem lw_p10 : lw_okq (⟨"FactShares$Bench", "pushFact", "(ILFactShares$Facts;)I"⟩, 6) := ⟨⟨by decide +kernel, by decide +kernel⟩, List.mem_of_getElem? (i := 77) (by decide +kernel), List.mem_of_getElem? (i := 411) (by decide +kernel), List.mem_of_getElem? (i := 412) (by decide +kernel)⟩
theorem lw_p11 : lw_okq (⟨"FactShares$Bench", "joinUpperTwo", "(I)I"⟩, 6) := ⟨⟨by decide +kernel, by decide +kernel⟩, List.mem_of_getElem? (i := 77) (by decide +kernel), List.mem_of_getElem? (i := 416) (by decide +kernel), List.mem_of_getElem? (i := 417) (by decide +kernel)⟩
theorem lw_p12 : lw_okq (⟨"FactShares$Bench", "divideUpper", "(I)I"⟩, 6) := ⟨⟨by decide +kernel, by decide +kernel⟩, List.mem_of_getElem? (i := 77) (by decide +kernel), List.mem_of_getElem? (i := 427) (by decide +kernel), List.mem_of_getElem? (i := 428) (by decide +kernel)⟩
theorem lw_p13 : lw_okq (⟨"FactShares$Bench", "testPoint", "()I"⟩, 6) := ⟨⟨by decide +kernel, by decide +kernel⟩, List.mem_of_getElem? (i := 77) (by decide +kernel), List.mem_of_getElem? (i := 431) (by decide +kernel), List.mem_of_getElem? (i := 432) (by decide +kernel)⟩
theorem lw_p14 : lw_okq (⟨"FactShares$Bench", "keepUpper", "(I)I"⟩, 6) := ⟨⟨by decide +kernel, by decide +kernel⟩, List.mem_of_getElem? (i := 77) (by decide +kernel), List.mem_of_getElem? (i := 435) (by decide +kernel), List.mem_of_getElem? (i := 436) (by decide +kernel)⟩
theorem lw_p15 : lw_okq (⟨"FactShares$Bench", "takeItem", "(I)I"⟩, 6) := ⟨⟨by decide +kernel, by decide +kernel⟩, List.mem_of_getElem? (i := 77) (by decide +kernel), List.mem_of_getElem? (i := 442) (by decide +kernel), List.mem_of_getElem? (i := 443) (by decide +kernel)⟩
def lw_privs_1 : List (MethodName × Nat) := [(⟨"FactShares", "isShare", "(I)Z"⟩, 9), (⟨"FactShares", "playRound", "(I)I"⟩, 9), (⟨"FactShares", "beginRound", "()V"⟩, 9), (⟨"FactShares", "playTurn", "()V"⟩, 9), (⟨"FactShares$Crew", "leftAt", "(I)LFactShares$Worker;"⟩, 5), (⟨"FactShares", "loseNow", "(LFactShares$Worker;)V"⟩, 9), (⟨"FactShares", "takeShare", "(LFactShares$Worker;)V"⟩, 9), (⟨"FactShares", "finish", "(LFactShares$Worker;LFactShares$Share;I)V"⟩, 9), (⟨"FactShares", "doNextAct", "(LFactShares$Worker;LFactShares$Share;)V"⟩, 9), (⟨"FactShares$Bench", "push", "(II)I"⟩, 6), (⟨"FactShares$Bench", "pushFact", "(ILFactShares$Facts;)I"⟩, 6), (⟨"FactShares$Bench", "joinUpperTwo", "(I)I"⟩, 6), (⟨"FactShares$Bench", "divideUpper", "(I)I"⟩, 6), (⟨"FactShares$Bench", "testPoint", "()I"⟩, 6), (⟨"FactShares$Bench", "keepUpper", "(I)I"⟩, 6), (⟨"FactShares$Bench", "takeItem", "(I)I"⟩, 6)]
theorem lw_r1 : ∀ q ∈ lw_privs_1, lw_okq q := List.forall_mem_cons.mpr ⟨lw_p0, List.forall_mem_cons.mpr ⟨lw_p1, List.forall_mem_cons.mpr ⟨lw_p2, List.forall_mem_cons.mpr ⟨lw_p3, List.forall_mem_cons.mpr ⟨lw_p4, List.forall_mem_cons.mpr ⟨lw_p5, List.forall_mem_cons.mpr ⟨lw_p6, List.forall_mem_cons.mpr ⟨lw_p7, List.forall_mem_cons.mpr ⟨lw_p8, List.forall_mem_cons.mpr ⟨lw_p9, List.forall_mem_cons.mpr ⟨lw_p10, List.forall_mem_cons.mpr ⟨lw_p11, List.forall_mem_cons.mpr ⟨lw_p12, List.forall_mem_cons.mpr ⟨lw_p13, List.forall_mem_cons.mpr ⟨lw_p14, List.forall_mem_cons.mpr ⟨lw_p15, fun _ h => absurd h List.not_mem_nil⟩⟩⟩⟩⟩⟩⟩⟩⟩⟩⟩⟩⟩⟩⟩⟩
theorem lw_p16 : lw_okq (⟨"FactShares", "leastSpoilt", "()I"⟩, 9) := ⟨⟨by decide +kernel, by decide +kernel⟩, List.mem_of_getElem? (i := 12) (by decide +kernel), List.mem_of_getElem? (i := 446) (by decide +kernel), List.mem_of_getElem? (i := 447) (by decide +kernel)⟩
theorem lw_p17 : lw_okq (⟨"FactShares", "actsOfAllShares", "()I"⟩, 9) := ⟨⟨by decide +kernel, by decide +kernel⟩, List.mem_of_getElem? (i := 12) (by decide +kernel), List.mem_of_getElem? (i := 450) (by decide +kernel), List.mem_of_getElem? (i := 451) (by decide +kernel)⟩
theorem lw_p18 : lw_okq (⟨"FactShares", "joinAnswers", "(Z)Z"⟩, 9) := ⟨⟨by decide +kernel, by decide +kernel⟩, List.mem_of_getElem? (i := 12) (by decide +kernel), List.mem_of_getElem? (i := 454) (by decide +kernel), List.mem_of_getElem? (i := 455) (by decide +kernel)⟩
theorem lw_p19 : lw_okq (⟨"FactSharesModel", "isShare", "(I)Z"⟩, 34) := ⟨⟨by decide +kernel, by decide +kernel⟩, List.mem_of_getElem? (i := 489) (by decide +kernel), List.mem_of_getElem? (i := 612) (by decide +kernel), List.mem_of_getElem? (i := 613) (by decide +kernel)⟩
theorem lw_p20 : lw_okq (⟨"FactSharesModel", "workersLeft", "()I"⟩, 34) := ⟨⟨by decide +kernel, by decide +kernel⟩, List.mem_of_getElem? (i := 489) (by decide +kernel), List.mem_of_getElem? (i := 634) (by decide +kernel), List.mem_of_getElem? (i := 635) (by decide +kernel)⟩
theorem lw_p21 : lw_okq (⟨"FactSharesModel", "round", "()Z"⟩, 34) := ⟨⟨by decide +kernel, by decide +kernel⟩, List.mem_of_getElem? (i := 489) (by decide +kernel), List.mem_of_getElem? (i := 655) (by decide +kernel), List.mem_of_getElem? (i := 656) (by decide +kernel)⟩
theorem lw_p22 : lw_okq (⟨"FactSharesModel", "areDone", "()Z"⟩, 34) := ⟨⟨by decide +kernel, by decide +kernel⟩, List.mem_of_getElem? (i := 489) (by decide +kernel), List.mem_of_getElem? (i := 659) (by decide +kernel), List.mem_of_getElem? (i := 660) (by decide +kernel)⟩
theorem lw_p23 : lw_okq (⟨"FactSharesModel", "turn", "()V"⟩, 34) := ⟨⟨by decide +kernel, by decide +kernel⟩, List.mem_of_getElem? (i := 489) (by decide +kernel), List.mem_of_getElem? (i := 663) (by decide +kernel), List.mem_of_getElem? (i := 664) (by decide +kernel)⟩
theorem lw_p24 : lw_okq (⟨"FactSharesModel", "workerAt", "(I)I"⟩, 34) := ⟨⟨by decide +kernel, by decide +kernel⟩, List.mem_of_getElem? (i := 489) (by decide +kernel), List.mem_of_getElem? (i := 668) (by decide +kernel), List.mem_of_getElem? (i := 669) (by decide +kernel)⟩
theorem lw_p25 : lw_okq (⟨"FactSharesModel", "begin", "(I)V"⟩, 34) := ⟨⟨by decide +kernel, by decide +kernel⟩, List.mem_of_getElem? (i := 489) (by decide +kernel), List.mem_of_getElem? (i := 672) (by decide +kernel), List.mem_of_getElem? (i := 673) (by decide +kernel)⟩
theorem lw_p26 : lw_okq (⟨"FactSharesModel", "done", "(II)V"⟩, 34) := ⟨⟨by decide +kernel, by decide +kernel⟩, List.mem_of_getElem? (i := 489) (by decide +kernel), List.mem_of_getElem? (i := 676) (by decide +kernel), List.mem_of_getElem? (i := 677) (by decide +kernel)⟩
theorem lw_p27 : lw_okq (⟨"FactSharesModel", "work", "(II)I"⟩, 34) := ⟨⟨by decide +kernel, by decide +kernel⟩, List.mem_of_getElem? (i := 489) (by decide +kernel), List.mem_of_getElem? (i := 680) (by decide +kernel), List.mem_of_getElem? (i := 681) (by decide +kernel)⟩
theorem lw_p28 : lw_okq (⟨"FactSharesModel", "push", "(III)I"⟩, 34) := ⟨⟨by decide +kernel, by decide +kernel⟩, List.mem_of_getElem? (i := 489) (by decide +kernel), List.mem_of_getElem? (i := 684) (by decide +kernel), List.mem_of_getElem? (i := 685) (by decide +kernel)⟩
theorem lw_p29 : lw_okq (⟨"FactSharesModel", "by", "(IIII)I"⟩, 34) := ⟨⟨by decide +kernel, by decide +kernel⟩, List.mem_of_getElem? (i := 489) (by decide +kernel), List.mem_of_getElem? (i := 688) (by decide +kernel), List.mem_of_getElem? (i := 689) (by decide +kernel)⟩
theorem lw_p30 : lw_okq (⟨"FactSharesModel", "both", "(IIII)I"⟩, 34) := ⟨⟨by decide +kernel, by decide +kernel⟩, List.mem_of_getElem? (i := 489) (by decide +kernel), List.mem_of_getElem? (i := 697) (by decide +kernel), List.mem_of_getElem? (i := 698) (by decide +kernel)⟩
theorem lw_p31 : lw_okq (⟨"FactSharesModel", "join", "(IZ)Z"⟩, 34) := ⟨⟨by decide +kernel, by decide +kernel⟩, List.mem_of_getElem? (i := 489) (by decide +kernel), List.mem_of_getElem? (i := 701) (by decide +kernel), List.mem_of_getElem? (i := 702) (by decide +kernel)⟩
def lw_privs_2 : List (MethodName × Nat) := [(⟨"FactShares", "leastSpoilt", "()I"⟩, 9), (⟨"FactShares", "actsOfAllShares", "()I"⟩, 9), (⟨"FactShares", "joinAnswers", "(Z)Z"⟩, 9), (⟨"FactSharesModel", "isShare", "(I)Z"⟩, 34), (⟨"FactSharesModel", "workersLeft", "()I"⟩, 34), (⟨"FactSharesModel", "round", "()Z"⟩, 34), (⟨"FactSharesModel", "areDone", "()Z"⟩, 34), (⟨"FactSharesModel", "turn", "()V"⟩, 34), (⟨"FactSharesModel", "workerAt", "(I)I"⟩, 34), (⟨"FactSharesModel", "begin", "(I)V"⟩, 34), (⟨"FactSharesModel", "done", "(II)V"⟩, 34), (⟨"FactSharesModel", "work", "(II)I"⟩, 34), (⟨"FactSharesModel", "push", "(III)I"⟩, 34), (⟨"FactSharesModel", "by", "(IIII)I"⟩, 34), (⟨"FactSharesModel", "both", "(IIII)I"⟩, 34), (⟨"FactSharesModel", "join", "(IZ)Z"⟩, 34)]
theorem lw_r2 : ∀ q ∈ lw_privs_2, lw_okq q := List.forall_mem_cons.mpr ⟨lw_p16, List.forall_mem_cons.mpr ⟨lw_p17, List.forall_mem_cons.mpr ⟨lw_p18, List.forall_mem_cons.mpr ⟨lw_p19, List.forall_mem_cons.mpr ⟨lw_p20, List.forall_mem_cons.mpr ⟨lw_p21, List.forall_mem_cons.mpr ⟨lw_p22, List.forall_mem_cons.mpr ⟨lw_p23, List.forall_mem_cons.mpr ⟨lw_p24, List.forall_mem_cons.mpr ⟨lw_p25, List.forall_mem_cons.mpr ⟨lw_p26, List.forall_mem_cons.mpr ⟨lw_p27, List.forall_mem_cons.mpr ⟨lw_p28, List.forall_mem_cons.mpr ⟨lw_p29, List.forall_mem_cons.mpr ⟨lw_p30, List.forall_mem_cons.mpr ⟨lw_p31, fun _ h => absurd h List.not_mem_nil⟩⟩⟩⟩⟩⟩⟩⟩⟩⟩⟩⟩⟩⟩⟩⟩
def lw_privs : List (MethodName × Nat) := lw_privs_1 ++ (lw_privs_2)
def lw_tbl : List Cond := k2_sels lw_privs ++ tables_1
theorem lw_privs_ok : ∀ q ∈ lw_privs, lw_okq q := by
  show ∀ q ∈ lw_privs_1 ++ (lw_privs_2), lw_okq q
  exact List.forall_mem_append.mpr ⟨lw_r1, lw_r2⟩
/-! ===== BEGIN words of one list among another's, by their places ===== -/
theorem goodIn_r {big : List Cond} (ws : List Cond) (ps : List Nat) (hp : ws = ps.filterMap (fun i => big[i]?)) (h : ws.all goodWord = true) : GoodIn big ws := by
  intro w hw
  have h1 := List.all_eq_true.mp h w hw
  rw [hp] at hw
  obtain ⟨i, -, hi⟩ := List.mem_filterMap.mp hw
  have hm : w ∈ big := by first | exact List.mem_of_getElem? hi | exact List.getElem?_mem hi
  exact ⟨hm, good_of_word h1⟩
theorem goodIn_app {big a b : List Cond} (ha : GoodIn big a) (hb : GoodIn big b) : GoodIn big (a ++ b) := fun w h => (List.mem_append.mp h).elim (ha w) (hb w)
theorem goodIn_ca {big a b : List Cond} {c : Cond} (ha : GoodIn big (c :: a)) (hb : GoodIn big b) : GoodIn big (c :: (a ++ b)) := fun w h => (List.mem_cons.mp h).elim (fun e => ha w (List.mem_cons.mpr (Or.inl e))) (fun h => (List.mem_append.mp h).elim (fun h => ha w (List.mem_cons.mpr (Or.inr h))) (hb w))
theorem goodIn_sub {big ws : List Cond} (hm : ∀ w ∈ ws, w ∈ big) (h : ws.all goodWord = true) : GoodIn big ws := fun w hw => ⟨hm w hw, good_of_word (List.all_eq_true.mp h w hw)⟩
/-! ===== END ===== -/

/-! ===== BEGIN printed: names, fields, word lists, decode rows ===== -/
def RX0 : String := "FactShares$Bench"
def TX0 : u_T := fun k => match k with
  | 0 => ("FactShares$Bench", "low", "[I", true)
  | 1 => ("FactShares$Bench", "high", "[I", true)
  | 2 => ("FactShares$Bench", "height", "I", false)
  | 3 => ("FactShares$Bench", "rowKnown", "[Z", true)
  | 4 => ("FactShares$Bench", "rowLow", "[I", true)
  | _ => ("FactShares$Bench", "rowHigh", "[I", true)
def tyX0 : Nat → FieldType := fun k => match k with
  | 0 => .array .int
  | 1 => .array .int
  | 2 => .int
  | 3 => .array .boolean
  | 4 => .array .int
  | _ => .array .int
abbrev wsX00 : List Cond := u_ws RX0 TX0 6
theorem nmX0 : ∀ a, a < 6 → ∀ b, b < 6 → a ≠ b → (TX0 a).2.1 ≠ (TX0 b).2.1 := by decide +kernel
theorem tyX0_ok : ∀ k, k < 6 → parseFieldDescriptor (TX0 k).2.2.1 = some (tyX0 k) := by decide +kernel
abbrev cX0_init : ByteArray := prog_2_method_1_code
def yX0_init : MethodName := ⟨RX0, "<init>", "()V"⟩
abbrev cX0_empty : ByteArray := prog_2_method_2_code
def yX0_empty : MethodName := ⟨RX0, "empty", "()V"⟩
abbrev cX0_doAct : ByteArray := prog_2_method_3_code
def yX0_doAct : MethodName := ⟨RX0, "doAct", "(IIILFactShares$Facts;)I"⟩
abbrev cX0_giveAnswer : ByteArray := prog_2_method_4_code
def yX0_giveAnswer : MethodName := ⟨RX0, "giveAnswer", "(LFactShares$Share;)I"⟩
abbrev cX0_push : ByteArray := prog_2_method_5_code
def yX0_push : MethodName := ⟨RX0, "push", "(II)I"⟩
abbrev cX0_pushFact : ByteArray := prog_2_method_6_code
def yX0_pushFact : MethodName := ⟨RX0, "pushFact", "(ILFactShares$Facts;)I"⟩
abbrev cX0_joinUpperTwo : ByteArray := prog_2_method_7_code
def yX0_joinUpperTwo : MethodName := ⟨RX0, "joinUpperTwo", "(I)I"⟩
abbrev cX0_divideUpper : ByteArray := prog_2_method_8_code
def yX0_divideUpper : MethodName := ⟨RX0, "divideUpper", "(I)I"⟩
abbrev cX0_testPoint : ByteArray := prog_2_method_9_code
def yX0_testPoint : MethodName := ⟨RX0, "testPoint", "()I"⟩
abbrev cX0_keepUpper : ByteArray := prog_2_method_10_code
def yX0_keepUpper : MethodName := ⟨RX0, "keepUpper", "(I)I"⟩
abbrev cX0_takeItem : ByteArray := prog_2_method_11_code
def yX0_takeItem : MethodName := ⟨RX0, "takeItem", "(I)I"⟩
abbrev cX0_isItem : ByteArray := prog_2_method_12_code
def yX0_isItem : MethodName := ⟨RX0, "isItem", "(I)Z"⟩
def RX1 : String := "FactShares$Crew"
def TX1 : u_T := fun k => match k with
  | 0 => ("FactShares$Crew", "all", "[LFactShares$Worker;", true)
  | 1 => ("FactShares$Crew", "left", "I", false)
  | 2 => ("FactShares$Crew", "x", "I", false)
  | 3 => ("FactShares$Crew", "turns", "I", false)
  | _ => ("FactShares$Crew", "latest", "I", false)
def tyX1 : Nat → FieldType := fun k => match k with
  | 0 => .array (.object "FactShares$Worker")
  | 1 => .int
  | 2 => .int
  | 3 => .int
  | _ => .int
abbrev wsX10 : List Cond := u_ws RX1 TX1 5
theorem nmX1 : ∀ a, a < 5 → ∀ b, b < 5 → a ≠ b → (TX1 a).2.1 ≠ (TX1 b).2.1 := by decide +kernel
theorem tyX1_ok : ∀ k, k < 5 → parseFieldDescriptor (TX1 k).2.2.1 = some (tyX1 k) := by decide +kernel
abbrev cX1_init : ByteArray := prog_3_method_1_code
def yX1_init : MethodName := ⟨RX1, "<init>", "()V"⟩
abbrev cX1_hire : ByteArray := prog_3_method_2_code
def yX1_hire : MethodName := ⟨RX1, "hire", "(I)V"⟩
abbrev cX1_isHere : ByteArray := prog_3_method_3_code
def yX1_isHere : MethodName := ⟨RX1, "isHere", "(I)Z"⟩
abbrev cX1_remove : ByteArray := prog_3_method_4_code
def yX1_remove : MethodName := ⟨RX1, "remove", "(LFactShares$Worker;)V"⟩
abbrev cX1_nextToMove : ByteArray := prog_3_method_5_code
def yX1_nextToMove : MethodName := ⟨RX1, "nextToMove", "()LFactShares$Worker;"⟩
abbrev cX1_leftAt : ByteArray := prog_3_method_6_code
def yX1_leftAt : MethodName := ⟨RX1, "leftAt", "(I)LFactShares$Worker;"⟩
def RX2 : String := "FactShares$Facts"
def TX2 : u_T := fun k => match k with
  | 0 => ("FactShares$Facts", "known", "[Z", true)
  | 1 => ("FactShares$Facts", "low", "[I", true)
  | _ => ("FactShares$Facts", "high", "[I", true)
def tyX2 : Nat → FieldType := fun k => match k with
  | 0 => .array .boolean
  | 1 => .array .int
  | _ => .array .int
abbrev wsX20 : List Cond := u_ws RX2 TX2 3
theorem nmX2 : ∀ a, a < 3 → ∀ b, b < 3 → a ≠ b → (TX2 a).2.1 ≠ (TX2 b).2.1 := by decide +kernel
theorem tyX2_ok : ∀ k, k < 3 → parseFieldDescriptor (TX2 k).2.2.1 = some (tyX2 k) := by decide +kernel
abbrev cX2_init : ByteArray := prog_4_method_1_code
def yX2_init : MethodName := ⟨RX2, "<init>", "()V"⟩
abbrev cX2_put : ByteArray := prog_4_method_2_code
def yX2_put : MethodName := ⟨RX2, "put", "(III)V"⟩
abbrev cX2_join : ByteArray := prog_4_method_3_code
def yX2_join : MethodName := ⟨RX2, "join", "(LFactShares$Share;Z)Z"⟩
abbrev cX2_forgetAll : ByteArray := prog_4_method_4_code
def yX2_forgetAll : MethodName := ⟨RX2, "forgetAll", "()I"⟩
abbrev cX2_boundBelow : ByteArray := prog_4_method_5_code
def yX2_boundBelow : MethodName := ⟨RX2, "boundBelow", "(I)I"⟩
abbrev cX2_boundAbove : ByteArray := prog_4_method_6_code
def yX2_boundAbove : MethodName := ⟨RX2, "boundAbove", "(I)I"⟩
def RX3 : String := "FactShares$Line"
def TX3 : u_T := fun k => match k with
  | 0 => ("FactShares$Line", "waiting", "[LFactShares$Share;", true)
  | 1 => ("FactShares$Line", "first", "I", false)
  | _ => ("FactShares$Line", "behindLast", "I", false)
def tyX3 : Nat → FieldType := fun k => match k with
  | 0 => .array (.object "FactShares$Share")
  | 1 => .int
  | _ => .int
abbrev wsX30 : List Cond := u_ws RX3 TX3 3
theorem nmX3 : ∀ a, a < 3 → ∀ b, b < 3 → a ≠ b → (TX3 a).2.1 ≠ (TX3 b).2.1 := by decide +kernel
theorem tyX3_ok : ∀ k, k < 3 → parseFieldDescriptor (TX3 k).2.2.1 = some (tyX3 k) := by decide +kernel
abbrev cX3_init : ByteArray := prog_5_method_1_code
def yX3_init : MethodName := ⟨RX3, "<init>", "()V"⟩
abbrev cX3_fill : ByteArray := prog_5_method_2_code
def yX3_fill : MethodName := ⟨RX3, "fill", "([LFactShares$Share;I)V"⟩
abbrev cX3_takeFirst : ByteArray := prog_5_method_3_code
def yX3_takeFirst : MethodName := ⟨RX3, "takeFirst", "()LFactShares$Share;"⟩
abbrev cX3_putInFront : ByteArray := prog_5_method_4_code
def yX3_putInFront : MethodName := ⟨RX3, "putInFront", "(LFactShares$Share;)V"⟩
def RX4 : String := "FactShares$Share"
def TX4 : u_T := fun k => match k with
  | 0 => ("FactShares$Share", "sort", "[I", true)
  | 1 => ("FactShares$Share", "a", "[I", true)
  | 2 => ("FactShares$Share", "b", "[I", true)
  | 3 => ("FactShares$Share", "aim", "I", false)
  | 4 => ("FactShares$Share", "actCount", "I", false)
  | 5 => ("FactShares$Share", "doneBy", "I", false)
  | 6 => ("FactShares$Share", "refusal", "I", false)
  | 7 => ("FactShares$Share", "answerLow", "I", false)
  | _ => ("FactShares$Share", "answerHigh", "I", false)
def tyX4 : Nat → FieldType := fun k => match k with
  | 0 => .array .int
  | 1 => .array .int
  | 2 => .array .int
  | 3 => .int
  | 4 => .int
  | 5 => .int
  | 6 => .int
  | 7 => .int
  | _ => .int
abbrev wsX40 : List Cond := u_ws RX4 TX4 9
theorem nmX4 : ∀ a, a < 9 → ∀ b, b < 9 → a ≠ b → (TX4 a).2.1 ≠ (TX4 b).2.1 := by decide +kernel
theorem tyX4_ok : ∀ k, k < 9 → parseFieldDescriptor (TX4 k).2.2.1 = some (tyX4 k) := by decide +kernel
abbrev cX4_init : ByteArray := prog_6_method_1_code
def yX4_init : MethodName := ⟨RX4, "<init>", "()V"⟩
abbrev cX4_addAct : ByteArray := prog_6_method_2_code
def yX4_addAct : MethodName := ⟨RX4, "addAct", "(III)Z"⟩
def RX5 : String := "FactShares$Tally"
def TX5 : u_T := fun k => match k with
  | 0 => ("FactShares$Tally", "rounds", "I", false)
  | 1 => ("FactShares$Tally", "spoilt", "I", false)
  | 2 => ("FactShares$Tally", "refusal", "I", false)
  | 3 => ("FactShares$Tally", "acts", "I", false)
  | 4 => ("FactShares$Tally", "taken", "I", false)
  | _ => ("FactShares$Tally", "left", "I", false)
def tyX5 : Nat → FieldType := fun k => match k with
  | 0 => .int
  | 1 => .int
  | 2 => .int
  | 3 => .int
  | 4 => .int
  | _ => .int
abbrev wsX50 : List Cond := u_ws RX5 TX5 6
theorem nmX5 : ∀ a, a < 6 → ∀ b, b < 6 → a ≠ b → (TX5 a).2.1 ≠ (TX5 b).2.1 := by decide +kernel
theorem tyX5_ok : ∀ k, k < 6 → parseFieldDescriptor (TX5 k).2.2.1 = some (tyX5 k) := by decide +kernel
abbrev cX5_init : ByteArray := prog_7_method_1_code
def yX5_init : MethodName := ⟨RX5, "<init>", "()V"⟩
abbrev cX5_beginRun : ByteArray := prog_7_method_2_code
def yX5_beginRun : MethodName := ⟨RX5, "beginRun", "()V"⟩
def RX6 : String := "FactShares$Worker"
def TX6 : u_T := fun k => match k with
  | 0 => ("FactShares$Worker", "number", "I", true)
  | 1 => ("FactShares$Worker", "bench", "LFactShares$Bench;", true)
  | 2 => ("FactShares$Worker", "here", "Z", false)
  | 3 => ("FactShares$Worker", "loseFrom", "I", false)
  | 4 => ("FactShares$Worker", "share", "LFactShares$Share;", false)
  | _ => ("FactShares$Worker", "nextAct", "I", false)
def tyX6 : Nat → FieldType := fun k => match k with
  | 0 => .int
  | 1 => .object "FactShares$Bench"
  | 2 => .boolean
  | 3 => .int
  | 4 => .object "FactShares$Share"
  | _ => .int
abbrev wsX60 : List Cond := u_ws RX6 TX6 6
theorem nmX6 : ∀ a, a < 6 → ∀ b, b < 6 → a ≠ b → (TX6 a).2.1 ≠ (TX6 b).2.1 := by decide +kernel
theorem tyX6_ok : ∀ k, k < 6 → parseFieldDescriptor (TX6 k).2.2.1 = some (tyX6 k) := by decide +kernel
abbrev cX6_init : ByteArray := prog_8_method_1_code
def yX6_init : MethodName := ⟨RX6, "<init>", "(I)V"⟩
abbrev cX6_isToBeLost : ByteArray := prog_8_method_2_code
def yX6_isToBeLost : MethodName := ⟨RX6, "isToBeLost", "(I)Z"⟩
abbrev cX6_begin : ByteArray := prog_8_method_3_code
def yX6_begin : MethodName := ⟨RX6, "begin", "(LFactShares$Share;)V"⟩
def RX7 : String := "FactShares"
def TX7 : u_T := fun k => match k with
  | 0 => ("FactShares", "facts", "LFactShares$Facts;", true)
  | 1 => ("FactShares", "shares", "[LFactShares$Share;", true)
  | 2 => ("FactShares", "line", "LFactShares$Line;", true)
  | 3 => ("FactShares", "crew", "LFactShares$Crew;", true)
  | 4 => ("FactShares", "tally", "LFactShares$Tally;", true)
  | 5 => ("FactShares", "shareCount", "I", false)
  | 6 => ("FactShares", "undone", "I", false)
  | 7 => ("FactShares", "widenFrom", "I", false)
  | _ => ("FactShares", "budget", "I", false)
def tyX7 : Nat → FieldType := fun k => match k with
  | 0 => .object "FactShares$Facts"
  | 1 => .array (.object "FactShares$Share")
  | 2 => .object "FactShares$Line"
  | 3 => .object "FactShares$Crew"
  | 4 => .object "FactShares$Tally"
  | 5 => .int
  | 6 => .int
  | 7 => .int
  | _ => .int
abbrev wsX70 : List Cond := u_ws RX7 TX7 9
theorem nmX7 : ∀ a, a < 9 → ∀ b, b < 9 → a ≠ b → (TX7 a).2.1 ≠ (TX7 b).2.1 := by decide +kernel
theorem tyX7_ok : ∀ k, k < 9 → parseFieldDescriptor (TX7 k).2.2.1 = some (tyX7 k) := by decide +kernel
abbrev cX7_init : ByteArray := prog_1_method_1_code
def yX7_init : MethodName := ⟨RX7, "<init>", "()V"⟩
abbrev cX7_share : ByteArray := prog_1_method_2_code
def yX7_share : MethodName := ⟨RX7, "share", "(I)I"⟩
abbrev cX7_act : ByteArray := prog_1_method_3_code
def yX7_act : MethodName := ⟨RX7, "act", "(IIII)I"⟩
abbrev cX7_fact : ByteArray := prog_1_method_4_code
def yX7_fact : MethodName := ⟨RX7, "fact", "(III)I"⟩
abbrev cX7_end : ByteArray := prog_1_method_5_code
def yX7_end : MethodName := ⟨RX7, "end", "(II)I"⟩
abbrev cX7_workers : ByteArray := prog_1_method_6_code
def yX7_workers : MethodName := ⟨RX7, "workers", "(I)I"⟩
abbrev cX7_lose : ByteArray := prog_1_method_7_code
def yX7_lose : MethodName := ⟨RX7, "lose", "(II)I"⟩
abbrev cX7_seed : ByteArray := prog_1_method_8_code
def yX7_seed : MethodName := ⟨RX7, "seed", "(I)I"⟩
abbrev cX7_set : ByteArray := prog_1_method_9_code
def yX7_set : MethodName := ⟨RX7, "set", "(II)I"⟩
abbrev cX7_run : ByteArray := prog_1_method_10_code
def yX7_run : MethodName := ⟨RX7, "run", "(I)I"⟩
abbrev cX7_told : ByteArray := prog_1_method_11_code
def yX7_told : MethodName := ⟨RX7, "told", "(I)I"⟩
abbrev cX7_doer : ByteArray := prog_1_method_12_code
def yX7_doer : MethodName := ⟨RX7, "doer", "(I)I"⟩
abbrev cX7_clear : ByteArray := prog_1_method_13_code
def yX7_clear : MethodName := ⟨RX7, "clear", "()I"⟩
abbrev cX7_isFact : ByteArray := prog_1_method_14_code
def yX7_isFact : MethodName := ⟨RX7, "isFact", "(I)Z"⟩
abbrev cX7_isEnd : ByteArray := prog_1_method_15_code
def yX7_isEnd : MethodName := ⟨RX7, "isEnd", "(I)Z"⟩
abbrev cX7_nearestEnd : ByteArray := prog_1_method_16_code
def yX7_nearestEnd : MethodName := ⟨RX7, "nearestEnd", "(I)I"⟩
abbrev cX7_isShare : ByteArray := prog_1_method_17_code
def yX7_isShare : MethodName := ⟨RX7, "isShare", "(I)Z"⟩
abbrev cX7_playRound : ByteArray := prog_1_method_18_code
def yX7_playRound : MethodName := ⟨RX7, "playRound", "(I)I"⟩
abbrev cX7_beginRound : ByteArray := prog_1_method_19_code
def yX7_beginRound : MethodName := ⟨RX7, "beginRound", "()V"⟩
abbrev cX7_playTurn : ByteArray := prog_1_method_20_code
def yX7_playTurn : MethodName := ⟨RX7, "playTurn", "()V"⟩
abbrev cX7_loseNow : ByteArray := prog_1_method_21_code
def yX7_loseNow : MethodName := ⟨RX7, "loseNow", "(LFactShares$Worker;)V"⟩
abbrev cX7_takeShare : ByteArray := prog_1_method_22_code
def yX7_takeShare : MethodName := ⟨RX7, "takeShare", "(LFactShares$Worker;)V"⟩
abbrev cX7_doNextAct : ByteArray := prog_1_method_23_code
def yX7_doNextAct : MethodName := ⟨RX7, "doNextAct", "(LFactShares$Worker;LFactShares$Share;)V"⟩
abbrev cX7_finish : ByteArray := prog_1_method_24_code
def yX7_finish : MethodName := ⟨RX7, "finish", "(LFactShares$Worker;LFactShares$Share;I)V"⟩
abbrev cX7_leastSpoilt : ByteArray := prog_1_method_25_code
def yX7_leastSpoilt : MethodName := ⟨RX7, "leastSpoilt", "()I"⟩
abbrev cX7_actsOfAllShares : ByteArray := prog_1_method_26_code
def yX7_actsOfAllShares : MethodName := ⟨RX7, "actsOfAllShares", "()I"⟩
abbrev cX7_joinAnswers : ByteArray := prog_1_method_27_code
def yX7_joinAnswers : MethodName := ⟨RX7, "joinAnswers", "(Z)Z"⟩
def RX8 : String := "FactSharesModel"
def TX8 : u_T := fun k => match k with
  | 0 => ("FactSharesModel", "low", "[I", true)
  | 1 => ("FactSharesModel", "high", "[I", true)
  | 2 => ("FactSharesModel", "shares", "I", false)
  | 3 => ("FactSharesModel", "aim", "[I", true)
  | 4 => ("FactSharesModel", "acts", "[I", true)
  | 5 => ("FactSharesModel", "sort", "[I", true)
  | 6 => ("FactSharesModel", "one", "[I", true)
  | 7 => ("FactSharesModel", "two", "[I", true)
  | 8 => ("FactSharesModel", "next", "[I", true)
  | 9 => ("FactSharesModel", "depth", "[I", true)
  | 10 => ("FactSharesModel", "stackLow", "[I", true)
  | 11 => ("FactSharesModel", "stackHigh", "[I", true)
  | 12 => ("FactSharesModel", "rowLow", "[I", true)
  | 13 => ("FactSharesModel", "rowHigh", "[I", true)
  | 14 => ("FactSharesModel", "spoilt", "[I", true)
  | 15 => ("FactSharesModel", "doneBy", "[I", true)
  | 16 => ("FactSharesModel", "isDone", "[Z", true)
  | 17 => ("FactSharesModel", "line", "[I", true)
  | 18 => ("FactSharesModel", "head", "I", false)
  | 19 => ("FactSharesModel", "tail", "I", false)
  | 20 => ("FactSharesModel", "isThere", "[Z", true)
  | 21 => ("FactSharesModel", "lostFrom", "[I", true)
  | 22 => ("FactSharesModel", "has", "[I", true)
  | 23 => ("FactSharesModel", "turns", "I", false)
  | 24 => ("FactSharesModel", "x", "I", false)
  | 25 => ("FactSharesModel", "latest", "I", false)
  | 26 => ("FactSharesModel", "widen", "I", false)
  | 27 => ("FactSharesModel", "budget", "I", false)
  | 28 => ("FactSharesModel", "rounds", "I", false)
  | 29 => ("FactSharesModel", "badShare", "I", false)
  | 30 => ("FactSharesModel", "badKind", "I", false)
  | 31 => ("FactSharesModel", "counted", "I", false)
  | 32 => ("FactSharesModel", "taken", "I", false)
  | _ => ("FactSharesModel", "left", "I", false)
def tyX8 : Nat → FieldType := fun k => match k with
  | 0 => .array .int
  | 1 => .array .int
  | 2 => .int
  | 3 => .array .int
  | 4 => .array .int
  | 5 => .array .int
  | 6 => .array .int
  | 7 => .array .int
  | 8 => .array .int
  | 9 => .array .int
  | 10 => .array .int
  | 11 => .array .int
  | 12 => .array .int
  | 13 => .array .int
  | 14 => .array .int
  | 15 => .array .int
  | 16 => .array .boolean
  | 17 => .array .int
  | 18 => .int
  | 19 => .int
  | 20 => .array .boolean
  | 21 => .array .int
  | 22 => .array .int
  | 23 => .int
  | 24 => .int
  | 25 => .int
  | 26 => .int
  | 27 => .int
  | 28 => .int
  | 29 => .int
  | 30 => .int
  | 31 => .int
  | 32 => .int
  | _ => .int
abbrev wsX80 : List Cond := u_ws RX8 TX8 34
theorem nmX8 : ∀ a, a < 34 → ∀ b, b < 34 → a ≠ b → (TX8 a).2.1 ≠ (TX8 b).2.1 := by decide +kernel
theorem tyX8_ok : ∀ k, k < 34 → parseFieldDescriptor (TX8 k).2.2.1 = some (tyX8 k) := by decide +kernel
abbrev cX8_init : ByteArray := prog_10_method_1_code
def yX8_init : MethodName := ⟨RX8, "<init>", "()V"⟩
abbrev cX8_isFact : ByteArray := prog_10_method_3_code
def yX8_isFact : MethodName := ⟨RX8, "isFact", "(I)Z"⟩
abbrev cX8_isEnd : ByteArray := prog_10_method_4_code
def yX8_isEnd : MethodName := ⟨RX8, "isEnd", "(I)Z"⟩
abbrev cX8_isShare : ByteArray := prog_10_method_5_code
def yX8_isShare : MethodName := ⟨RX8, "isShare", "(I)Z"⟩
abbrev cX8_share : ByteArray := prog_10_method_6_code
def yX8_share : MethodName := ⟨RX8, "share", "(I)I"⟩
abbrev cX8_act : ByteArray := prog_10_method_7_code
def yX8_act : MethodName := ⟨RX8, "act", "(IIII)I"⟩
abbrev cX8_fact : ByteArray := prog_10_method_8_code
def yX8_fact : MethodName := ⟨RX8, "fact", "(III)I"⟩
abbrev cX8_end : ByteArray := prog_10_method_9_code
def yX8_end : MethodName := ⟨RX8, "end", "(II)I"⟩
abbrev cX8_workersLeft : ByteArray := prog_10_method_10_code
def yX8_workersLeft : MethodName := ⟨RX8, "workersLeft", "()I"⟩
abbrev cX8_workers : ByteArray := prog_10_method_11_code
def yX8_workers : MethodName := ⟨RX8, "workers", "(I)I"⟩
abbrev cX8_lose : ByteArray := prog_10_method_12_code
def yX8_lose : MethodName := ⟨RX8, "lose", "(II)I"⟩
abbrev cX8_seed : ByteArray := prog_10_method_13_code
def yX8_seed : MethodName := ⟨RX8, "seed", "(I)I"⟩
abbrev cX8_set : ByteArray := prog_10_method_14_code
def yX8_set : MethodName := ⟨RX8, "set", "(II)I"⟩
abbrev cX8_nearest : ByteArray := prog_10_method_15_code
def yX8_nearest : MethodName := ⟨RX8, "nearest", "(J)I"⟩
abbrev cX8_begin : ByteArray := prog_10_method_16_code
def yX8_begin : MethodName := ⟨RX8, "begin", "(I)V"⟩
abbrev cX8_push : ByteArray := prog_10_method_17_code
def yX8_push : MethodName := ⟨RX8, "push", "(III)I"⟩
abbrev cX8_work : ByteArray := prog_10_method_18_code
def yX8_work : MethodName := ⟨RX8, "work", "(II)I"⟩
abbrev cX8_by : ByteArray := prog_10_method_19_code
def yX8_by : MethodName := ⟨RX8, "by", "(IIII)I"⟩
abbrev cX8_both : ByteArray := prog_10_method_20_code
def yX8_both : MethodName := ⟨RX8, "both", "(IIII)I"⟩
abbrev cX8_workerAt : ByteArray := prog_10_method_21_code
def yX8_workerAt : MethodName := ⟨RX8, "workerAt", "(I)I"⟩
abbrev cX8_done : ByteArray := prog_10_method_22_code
def yX8_done : MethodName := ⟨RX8, "done", "(II)V"⟩
abbrev cX8_turn : ByteArray := prog_10_method_23_code
def yX8_turn : MethodName := ⟨RX8, "turn", "()V"⟩
abbrev cX8_round : ByteArray := prog_10_method_24_code
def yX8_round : MethodName := ⟨RX8, "round", "()Z"⟩
abbrev cX8_areDone : ByteArray := prog_10_method_25_code
def yX8_areDone : MethodName := ⟨RX8, "areDone", "()Z"⟩
abbrev cX8_bound : ByteArray := prog_10_method_26_code
def yX8_bound : MethodName := ⟨RX8, "bound", "(I)I"⟩
abbrev cX8_join : ByteArray := prog_10_method_27_code
def yX8_join : MethodName := ⟨RX8, "join", "(IZ)Z"⟩
abbrev cX8_run : ByteArray := prog_10_method_28_code
def yX8_run : MethodName := ⟨RX8, "run", "(I)I"⟩
abbrev cX8_told : ByteArray := prog_10_method_29_code
def yX8_told : MethodName := ⟨RX8, "told", "(I)I"⟩
abbrev cX8_doer : ByteArray := prog_10_method_30_code
def yX8_doer : MethodName := ⟨RX8, "doer", "(I)I"⟩
abbrev cX8_clear : ByteArray := prog_10_method_31_code
def yX8_clear : MethodName := ⟨RX8, "clear", "()I"⟩
def RJ9 : String := "java/lang/Math"
def TJ9 : u_T := fun k => match k with
  | _ => ("", "", "", false)
def tyJ9 : Nat → FieldType := fun k => match k with
  | _ => .int
abbrev wsJ90 : List Cond := u_ws RJ9 TJ9 0
theorem nmJ9 : ∀ a, a < 0 → ∀ b, b < 0 → a ≠ b → (TJ9 a).2.1 ≠ (TJ9 b).2.1 := by decide +kernel
theorem tyJ9_ok : ∀ k, k < 0 → parseFieldDescriptor (TJ9 k).2.2.1 = some (tyJ9 k) := by decide +kernel
abbrev cJ9_max_7cf53 : ByteArray := prog_11_method_65_code
def yJ9_max_7cf53 : MethodName := ⟨RJ9, "max", "(II)I"⟩
abbrev cJ9_min_7cf53 : ByteArray := prog_11_method_69_code
def yJ9_min_7cf53 : MethodName := ⟨RJ9, "min", "(II)I"⟩
def RL : String := "FactSharesLaw"
abbrev cL_law : ByteArray := code
def yL_law : MethodName := ⟨RL, "law", "([I)Z"⟩
def wsL_law_r1 : List Cond := [Cond.classLink RL 7 RX7, Cond.instantiable RX7 9, Cond.initialized RX7, Cond.classLink RL 10 RX8, Cond.instantiable RX8 34, Cond.initialized RX8, Cond.methodLink RL 9 yX7_init, Cond.instanceMethod yX7_init, Cond.code yX7_init cX7_init 2 none, Cond.methodLink RX7 1 objectInit, Cond.instanceMethod objectInit, Cond.code objectInit ⟨#[0xb1]⟩ 1 none, Cond.classLink RX7 7 RX2, Cond.instantiable RX2 3, Cond.initialized RX2, Cond.fieldLink RX7 10 "FactShares" "facts" "LFactShares$Facts;", Cond.classLink RX7 16 RX4, Cond.fieldLink RX7 18 "FactShares" "shares" "[LFactShares$Share;", Cond.classLink RX7 22 RX3, Cond.instantiable RX3 3, Cond.initialized RX3, Cond.fieldLink RX7 25 "FactShares" "line" "LFactShares$Line;", Cond.classLink RX7 29 RX1, Cond.instantiable RX1 5]
def wsL_law_r2 : List Cond := [Cond.initialized RX1, Cond.fieldLink RX7 32 "FactShares" "crew" "LFactShares$Crew;", Cond.classLink RX7 36 RX5, Cond.instantiable RX5 6, Cond.initialized RX5, Cond.fieldLink RX7 39 "FactShares" "tally" "LFactShares$Tally;", Cond.fieldLink RX7 43 "FactShares" "shareCount" "I", Cond.fieldLink RX7 47 "FactShares" "undone" "I", Cond.fieldLink RX7 50 "FactShares" "widenFrom" "I", Cond.fieldLink RX7 53 "FactShares" "budget" "I", Cond.instantiable RX4 9, Cond.initialized RX4, Cond.instanceMethod yX2_init, Cond.code yX2_init cX2_init 1 none, Cond.methodLink RX2 3 objectInit, Cond.arrayClass .boolean, Cond.fieldLink RX2 9 "FactShares$Facts" "known" "[Z", Cond.arrayClass .int, Cond.fieldLink RX2 15 "FactShares$Facts" "low" "[I", Cond.fieldLink RX2 19 "FactShares$Facts" "high" "[I", Cond.instanceMethod yX3_init, Cond.code yX3_init cX3_init 1 none, Cond.methodLink RX3 3 objectInit, Cond.classLink RX3 9 RX4]
def wsL_law_r3 : List Cond := [Cond.fieldLink RX3 11 "FactShares$Line" "waiting" "[LFactShares$Share;", Cond.fieldLink RX3 17 "FactShares$Line" "first" "I", Cond.fieldLink RX3 21 "FactShares$Line" "behindLast" "I", Cond.methodLink RX7 31 yX1_init, Cond.instanceMethod yX1_init, Cond.code yX1_init cX1_init 2 none, Cond.methodLink RX1 3 objectInit, Cond.classLink RX1 11 RX6, Cond.fieldLink RX1 13 "FactShares$Crew" "all" "[LFactShares$Worker;", Cond.fieldLink RX1 17 "FactShares$Crew" "left" "I", Cond.fieldLink RX1 21 "FactShares$Crew" "x" "I", Cond.fieldLink RX1 24 "FactShares$Crew" "turns" "I", Cond.constant RX1 27 (-2000000), Cond.fieldLink RX1 28 "FactShares$Crew" "latest" "I", Cond.instantiable RX6 6, Cond.initialized RX6, Cond.methodLink RX1 31 yX6_init, Cond.instanceMethod yX6_init, Cond.code yX6_init cX6_init 2 none, Cond.methodLink RX6 1 objectInit, Cond.classLink RX6 7 RX0, Cond.instantiable RX0 6, Cond.initialized RX0, Cond.fieldLink RX6 10 "FactShares$Worker" "bench" "LFactShares$Bench;"]
def wsL_law_r4 : List Cond := [Cond.fieldLink RX6 16 "FactShares$Worker" "here" "Z", Cond.fieldLink RX6 20 "FactShares$Worker" "loseFrom" "I", Cond.fieldLink RX6 24 "FactShares$Worker" "share" "LFactShares$Share;", Cond.fieldLink RX6 28 "FactShares$Worker" "nextAct" "I", Cond.fieldLink RX6 31 "FactShares$Worker" "number" "I", Cond.instanceMethod yX0_init, Cond.code yX0_init cX0_init 1 none, Cond.methodLink RX0 1 objectInit, Cond.fieldLink RX0 9 "FactShares$Bench" "low" "[I", Cond.fieldLink RX0 13 "FactShares$Bench" "high" "[I", Cond.fieldLink RX0 16 "FactShares$Bench" "height" "I", Cond.fieldLink RX0 20 "FactShares$Bench" "rowKnown" "[Z", Cond.fieldLink RX0 24 "FactShares$Bench" "rowLow" "[I", Cond.fieldLink RX0 27 "FactShares$Bench" "rowHigh" "[I", Cond.methodLink RX1 34 yX1_hire, Cond.instanceMethod yX1_hire, Cond.selects RX1 yX1_hire yX1_hire, Cond.code yX1_hire cX1_hire 3 none, Cond.fieldLink RX1 37 "FactShares$Worker" "here" "Z", Cond.fieldLink RX1 41 "FactShares$Worker" "loseFrom" "I", Cond.instanceMethod yX5_init, Cond.code yX5_init cX5_init 1 none, Cond.methodLink RX5 3 objectInit, Cond.fieldLink RX5 9 "FactShares$Tally" "rounds" "I"]
def wsL_law_r5 : List Cond := [Cond.constant RX5 15 (-2000000), Cond.fieldLink RX5 16 "FactShares$Tally" "spoilt" "I", Cond.fieldLink RX5 21 "FactShares$Tally" "refusal" "I", Cond.fieldLink RX5 24 "FactShares$Tally" "acts" "I", Cond.fieldLink RX5 27 "FactShares$Tally" "taken" "I", Cond.fieldLink RX5 30 "FactShares$Tally" "left" "I", Cond.instanceMethod yX4_init, Cond.code yX4_init cX4_init 1 none, Cond.methodLink RX4 3 objectInit, Cond.fieldLink RX4 11 "FactShares$Share" "sort" "[I", Cond.fieldLink RX4 15 "FactShares$Share" "a" "[I", Cond.fieldLink RX4 18 "FactShares$Share" "b" "[I", Cond.fieldLink RX4 21 "FactShares$Share" "aim" "I", Cond.fieldLink RX4 25 "FactShares$Share" "actCount" "I", Cond.constant RX4 28 (-2000000), Cond.fieldLink RX4 29 "FactShares$Share" "doneBy" "I", Cond.fieldLink RX4 34 "FactShares$Share" "refusal" "I", Cond.fieldLink RX4 37 "FactShares$Share" "answerLow" "I", Cond.fieldLink RX4 40 "FactShares$Share" "answerHigh" "I", Cond.methodLink RL 12 yX8_init, Cond.instanceMethod yX8_init, Cond.code yX8_init cX8_init 2 none, Cond.methodLink RX8 1 objectInit, Cond.fieldLink RX8 7 "FactSharesModel" "low" "[I"]
def wsL_law_r6 : List Cond := [Cond.fieldLink RX8 13 "FactSharesModel" "high" "[I", Cond.fieldLink RX8 16 "FactSharesModel" "aim" "[I", Cond.fieldLink RX8 19 "FactSharesModel" "acts" "[I", Cond.fieldLink RX8 22 "FactSharesModel" "sort" "[I", Cond.fieldLink RX8 25 "FactSharesModel" "one" "[I", Cond.fieldLink RX8 28 "FactSharesModel" "two" "[I", Cond.fieldLink RX8 31 "FactSharesModel" "next" "[I", Cond.fieldLink RX8 34 "FactSharesModel" "depth" "[I", Cond.fieldLink RX8 37 "FactSharesModel" "stackLow" "[I", Cond.fieldLink RX8 40 "FactSharesModel" "stackHigh" "[I", Cond.fieldLink RX8 43 "FactSharesModel" "rowLow" "[I", Cond.fieldLink RX8 46 "FactSharesModel" "rowHigh" "[I", Cond.fieldLink RX8 49 "FactSharesModel" "spoilt" "[I", Cond.fieldLink RX8 52 "FactSharesModel" "doneBy" "[I", Cond.fieldLink RX8 55 "FactSharesModel" "isDone" "[Z", Cond.fieldLink RX8 59 "FactSharesModel" "line" "[I", Cond.fieldLink RX8 62 "FactSharesModel" "isThere" "[Z", Cond.fieldLink RX8 65 "FactSharesModel" "lostFrom" "[I", Cond.fieldLink RX8 68 "FactSharesModel" "has" "[I", Cond.constant RX8 71 (-2000000), Cond.fieldLink RX8 72 "FactSharesModel" "latest" "I", Cond.fieldLink RX8 76 "FactSharesModel" "widen" "I", Cond.fieldLink RX8 79 "FactSharesModel" "budget" "I", Cond.fieldLink RX8 82 "FactSharesModel" "badShare" "I"]
def wsL_law_r7 : List Cond := [Cond.methodLink RL 13 yX7_share, Cond.instanceMethod yX7_share, Cond.selects RX7 yX7_share yX7_share, Cond.code yX7_share cX7_share 2 (some .int), Cond.constant RX7 61 (-2000001), Cond.constant RX7 62 (-2000003), Cond.fieldLink RX7 63 "FactShares$Share" "aim" "I", Cond.methodLink RX7 57 yX7_isFact, Cond.static yX7_isFact, Cond.code yX7_isFact cX7_isFact 1 (some .boolean), Cond.methodLink RL 17 yX8_share, Cond.instanceMethod yX8_share, Cond.selects RX8 yX8_share yX8_share, Cond.code yX8_share cX8_share 2 (some .int), Cond.constant RX8 94 (-2000001), Cond.fieldLink RX8 87 "FactSharesModel" "shares" "I", Cond.constant RX8 95 (-2000003), Cond.methodLink RX8 90 yX8_isFact, Cond.static yX8_isFact, Cond.code yX8_isFact cX8_isFact 1 (some .boolean), Cond.methodLink RL 18 yX7_act, Cond.instanceMethod yX7_act, Cond.selects RX7 yX7_act yX7_act, Cond.code yX7_act cX7_act 5 (some .int)]
def wsL_law_r8 : List Cond := [Cond.constant RX7 71 (-2000002), Cond.fieldLink RX7 79 "FactShares$Share" "actCount" "I", Cond.methodLink RX7 66 yX7_isShare, Cond.instanceMethod yX7_isShare, Cond.selects RX7 yX7_isShare yX7_isShare, Cond.code yX7_isShare cX7_isShare 2 (some .boolean), Cond.methodLink RX7 72 yX7_isEnd, Cond.static yX7_isEnd, Cond.code yX7_isEnd cX7_isEnd 1 (some .boolean), Cond.constant RX7 157 (-1000000), Cond.constant RX7 158 (1000000), Cond.methodLink RX7 75 yX4_addAct, Cond.instanceMethod yX4_addAct, Cond.selects RX4 yX4_addAct yX4_addAct, Cond.code yX4_addAct cX4_addAct 4 (some .boolean), Cond.methodLink RL 22 yX8_act, Cond.instanceMethod yX8_act, Cond.selects RX8 yX8_act yX8_act, Cond.code yX8_act cX8_act 5 (some .int), Cond.constant RX8 102 (-2000002), Cond.methodLink RX8 96 yX8_isShare, Cond.instanceMethod yX8_isShare, Cond.selects RX8 yX8_isShare yX8_isShare, Cond.code yX8_isShare cX8_isShare 2 (some .boolean)]
def wsL_law_r9 : List Cond := [Cond.methodLink RX8 99 yX8_isEnd, Cond.static yX8_isEnd, Cond.code yX8_isEnd cX8_isEnd 1 (some .boolean), Cond.constant RX8 85 (-1000000), Cond.constant RX8 86 (1000000), Cond.methodLink RL 23 yX7_fact, Cond.instanceMethod yX7_fact, Cond.selects RX7 yX7_fact yX7_fact, Cond.code yX7_fact cX7_fact 4 (some .int), Cond.methodLink RX7 82 yX2_put, Cond.instanceMethod yX2_put, Cond.selects RX2 yX2_put yX2_put, Cond.code yX2_put cX2_put 4 none, Cond.methodLink RL 27 yX8_fact, Cond.instanceMethod yX8_fact, Cond.selects RX8 yX8_fact yX8_fact, Cond.code yX8_fact cX8_fact 4 (some .int), Cond.methodLink RL 28 yX7_end, Cond.instanceMethod yX7_end, Cond.selects RX7 yX7_end yX7_end, Cond.code yX7_end cX7_end 3 (some .int), Cond.fieldLink RX7 86 "FactShares$Facts" "known" "[Z", Cond.constant RX7 90 (-2000000), Cond.fieldLink RX7 91 "FactShares$Facts" "low" "[I"]
def wsL_law_r10 : List Cond := [Cond.fieldLink RX7 95 "FactShares$Facts" "high" "[I", Cond.methodLink RL 32 yX8_end, Cond.instanceMethod yX8_end, Cond.selects RX8 yX8_end yX8_end, Cond.code yX8_end cX8_end 3 (some .int), Cond.methodLink RL 33 yX7_workers, Cond.instanceMethod yX7_workers, Cond.selects RX7 yX7_workers yX7_workers, Cond.code yX7_workers cX7_workers 3 (some .int), Cond.fieldLink RX7 98 "FactShares$Crew" "left" "I", Cond.methodLink RX7 101 yX1_hire, Cond.methodLink RL 36 yX8_workers, Cond.instanceMethod yX8_workers, Cond.selects RX8 yX8_workers yX8_workers, Cond.code yX8_workers cX8_workers 4 (some .int), Cond.methodLink RX8 103 yX8_workersLeft, Cond.instanceMethod yX8_workersLeft, Cond.selects RX8 yX8_workersLeft yX8_workersLeft, Cond.code yX8_workersLeft cX8_workersLeft 3 (some .int), Cond.methodLink RL 37 yX7_lose, Cond.instanceMethod yX7_lose, Cond.selects RX7 yX7_lose yX7_lose, Cond.code yX7_lose cX7_lose 3 (some .int), Cond.constant RX7 108 (100000)]
def wsL_law_r11 : List Cond := [Cond.fieldLink RX7 109 "FactShares$Crew" "all" "[LFactShares$Worker;", Cond.fieldLink RX7 113 "FactShares$Worker" "loseFrom" "I", Cond.methodLink RX7 105 yX1_isHere, Cond.instanceMethod yX1_isHere, Cond.selects RX1 yX1_isHere yX1_isHere, Cond.code yX1_isHere cX1_isHere 2 (some .boolean), Cond.methodLink RL 40 yX8_lose, Cond.instanceMethod yX8_lose, Cond.selects RX8 yX8_lose yX8_lose, Cond.code yX8_lose cX8_lose 3 (some .int), Cond.constant RX8 107 (100000), Cond.methodLink RL 41 yX7_seed, Cond.instanceMethod yX7_seed, Cond.selects RX7 yX7_seed yX7_seed, Cond.code yX7_seed cX7_seed 3 (some .int), Cond.fieldLink RX7 118 "FactShares$Crew" "x" "I", Cond.methodLink RL 44 yX8_seed, Cond.instanceMethod yX8_seed, Cond.selects RX8 yX8_seed yX8_seed, Cond.code yX8_seed cX8_seed 3 (some .int), Cond.fieldLink RX8 108 "FactSharesModel" "x" "I", Cond.methodLink RL 45 yX7_set, Cond.instanceMethod yX7_set, Cond.selects RX7 yX7_set yX7_set]
def wsL_law_r12 : List Cond := [Cond.code yX7_set cX7_set 4 (some .int), Cond.methodLink RL 48 yX8_set, Cond.instanceMethod yX8_set, Cond.selects RX8 yX8_set yX8_set, Cond.code yX8_set cX8_set 4 (some .int), Cond.methodLink RL 49 yX7_run, Cond.instanceMethod yX7_run, Cond.selects RX7 yX7_run yX7_run, Cond.code yX7_run cX7_run 4 (some .int), Cond.methodLink RX7 121 yX5_beginRun, Cond.instanceMethod yX5_beginRun, Cond.selects RX5 yX5_beginRun yX5_beginRun, Cond.code yX5_beginRun cX5_beginRun 1 none, Cond.methodLink RX7 124 yX7_playRound, Cond.instanceMethod yX7_playRound, Cond.selects RX7 yX7_playRound yX7_playRound, Cond.code yX7_playRound cX7_playRound 4 (some .int), Cond.fieldLink RX7 131 "FactShares$Tally" "spoilt" "I", Cond.fieldLink RX7 168 "FactShares$Share" "refusal" "I", Cond.fieldLink RX7 134 "FactShares$Tally" "refusal" "I", Cond.fieldLink RX7 137 "FactShares$Tally" "acts" "I", Cond.fieldLink RX7 128 "FactShares$Tally" "rounds" "I", Cond.methodLink RX7 159 yX7_beginRound, Cond.instanceMethod yX7_beginRound]
def wsL_law_r13 : List Cond := [Cond.selects RX7 yX7_beginRound yX7_beginRound, Cond.code yX7_beginRound cX7_beginRound 2 none, Cond.fieldLink RX7 150 "FactShares$Share" "doneBy" "I", Cond.methodLink RX7 176 yX3_fill, Cond.instanceMethod yX3_fill, Cond.selects RX3 yX3_fill yX3_fill, Cond.code yX3_fill cX3_fill 4 none, Cond.methodLink RX3 24 Lib.Math.min.name, Cond.static Lib.Math.min.name, Cond.initialized "java/lang/Math", Cond.code Lib.Math.min.name Lib.Math.min.code 2 (some .int), Cond.methodLink RX7 162 yX7_playTurn, Cond.instanceMethod yX7_playTurn, Cond.selects RX7 yX7_playTurn yX7_playTurn, Cond.code yX7_playTurn cX7_playTurn 2 none, Cond.fieldLink RX7 144 "FactShares$Crew" "turns" "I", Cond.fieldLink RX7 191 "FactShares$Worker" "share" "LFactShares$Share;", Cond.methodLink RX7 180 yX1_nextToMove, Cond.instanceMethod yX1_nextToMove, Cond.selects RX1 yX1_nextToMove yX1_nextToMove, Cond.code yX1_nextToMove cX1_nextToMove 2 (some (.object "FactShares$Worker")), Cond.constant RX1 44 (1103515245), Cond.fieldLink RX1 49 "FactShares$Worker" "number" "I", Cond.methodLink RX1 45 yX1_leftAt]
def wsL_law_r14 : List Cond := [Cond.instanceMethod yX1_leftAt, Cond.selects RX1 yX1_leftAt yX1_leftAt, Cond.code yX1_leftAt cX1_leftAt 4 (some (.object "FactShares$Worker")), Cond.methodLink RX7 184 yX6_isToBeLost, Cond.instanceMethod yX6_isToBeLost, Cond.selects RX6 yX6_isToBeLost yX6_isToBeLost, Cond.code yX6_isToBeLost cX6_isToBeLost 2 (some .boolean), Cond.methodLink RX7 187 yX7_loseNow, Cond.instanceMethod yX7_loseNow, Cond.selects RX7 yX7_loseNow yX7_loseNow, Cond.code yX7_loseNow cX7_loseNow 2 none, Cond.fieldLink RX7 143 "FactShares$Tally" "left" "I", Cond.methodLink RX7 202 yX3_putInFront, Cond.instanceMethod yX3_putInFront, Cond.selects RX3 yX3_putInFront yX3_putInFront, Cond.code yX3_putInFront cX3_putInFront 2 none, Cond.methodLink RX7 206 yX1_remove, Cond.instanceMethod yX1_remove, Cond.selects RX1 yX1_remove yX1_remove, Cond.code yX1_remove cX1_remove 2 none, Cond.methodLink RX7 195 yX7_takeShare, Cond.instanceMethod yX7_takeShare, Cond.selects RX7 yX7_takeShare yX7_takeShare, Cond.code yX7_takeShare cX7_takeShare 3 none]
def wsL_law_r15 : List Cond := [Cond.fieldLink RX7 140 "FactShares$Tally" "taken" "I", Cond.methodLink RX7 209 yX3_takeFirst, Cond.instanceMethod yX3_takeFirst, Cond.selects RX3 yX3_takeFirst yX3_takeFirst, Cond.code yX3_takeFirst cX3_takeFirst 1 (some (.object "FactShares$Share")), Cond.methodLink RX7 213 yX6_begin, Cond.instanceMethod yX6_begin, Cond.selects RX6 yX6_begin yX6_begin, Cond.code yX6_begin cX6_begin 2 none, Cond.methodLink RX6 34 yX0_empty, Cond.instanceMethod yX0_empty, Cond.selects RX0 yX0_empty yX0_empty, Cond.code yX0_empty cX0_empty 2 none, Cond.methodLink RX7 216 yX7_finish, Cond.instanceMethod yX7_finish, Cond.selects RX7 yX7_finish yX7_finish, Cond.code yX7_finish cX7_finish 4 none, Cond.fieldLink RX7 223 "FactShares$Worker" "bench" "LFactShares$Bench;", Cond.fieldLink RX7 244 "FactShares$Worker" "number" "I", Cond.methodLink RX7 240 yX0_giveAnswer, Cond.instanceMethod yX0_giveAnswer, Cond.selects RX0 yX0_giveAnswer yX0_giveAnswer, Cond.code yX0_giveAnswer cX0_giveAnswer 2 (some .int), Cond.fieldLink RX0 55 "FactShares$Share" "answerLow" "I"]
def wsL_law_r16 : List Cond := [Cond.fieldLink RX0 60 "FactShares$Share" "answerHigh" "I", Cond.methodLink RX7 198 yX7_doNextAct, Cond.instanceMethod yX7_doNextAct, Cond.selects RX7 yX7_doNextAct yX7_doNextAct, Cond.code yX7_doNextAct cX7_doNextAct 5 none, Cond.fieldLink RX7 220 "FactShares$Worker" "nextAct" "I", Cond.fieldLink RX7 227 "FactShares$Share" "sort" "[I", Cond.fieldLink RX7 230 "FactShares$Share" "a" "[I", Cond.fieldLink RX7 233 "FactShares$Share" "b" "[I", Cond.methodLink RX7 236 yX0_doAct, Cond.instanceMethod yX0_doAct, Cond.selects RX0 yX0_doAct yX0_doAct, Cond.code yX0_doAct cX0_doAct 5 (some .int), Cond.methodLink RX0 30 yX0_push, Cond.instanceMethod yX0_push, Cond.selects RX0 yX0_push yX0_push, Cond.code yX0_push cX0_push 3 (some .int), Cond.methodLink RX0 34 yX0_pushFact, Cond.instanceMethod yX0_pushFact, Cond.selects RX0 yX0_pushFact yX0_pushFact, Cond.code yX0_pushFact cX0_pushFact 3 (some .int), Cond.fieldLink RX0 69 "FactShares$Facts" "known" "[Z", Cond.fieldLink RX0 74 "FactShares$Facts" "low" "[I", Cond.fieldLink RX0 75 "FactShares$Facts" "high" "[I"]
def wsL_law_r17 : List Cond := [Cond.methodLink RX0 38 yX0_joinUpperTwo, Cond.instanceMethod yX0_joinUpperTwo, Cond.selects RX0 yX0_joinUpperTwo yX0_joinUpperTwo, Cond.code yX0_joinUpperTwo cX0_joinUpperTwo 4 (some .int), Cond.methodLink RX0 79 Lib.Math.max.name, Cond.static Lib.Math.max.name, Cond.code Lib.Math.max.name Lib.Math.max.code 2 (some .int), Cond.methodLink RX0 84 Lib.Math.min.name, Cond.static yX7_nearestEnd, Cond.code yX7_nearestEnd cX7_nearestEnd 1 (some .int), Cond.methodLink RX0 42 yX0_divideUpper, Cond.instanceMethod yX0_divideUpper, Cond.selects RX0 yX0_divideUpper yX0_divideUpper, Cond.code yX0_divideUpper cX0_divideUpper 5 (some .int), Cond.methodLink RX0 45 yX0_testPoint, Cond.instanceMethod yX0_testPoint, Cond.selects RX0 yX0_testPoint yX0_testPoint, Cond.code yX0_testPoint cX0_testPoint 1 (some .int), Cond.methodLink RX0 49 yX0_keepUpper, Cond.instanceMethod yX0_keepUpper, Cond.selects RX0 yX0_keepUpper yX0_keepUpper, Cond.code yX0_keepUpper cX0_keepUpper 2 (some .int), Cond.methodLink RX0 87 yX0_isItem, Cond.static yX0_isItem]
def wsL_law_r18 : List Cond := [Cond.code yX0_isItem cX0_isItem 1 (some .boolean), Cond.methodLink RX0 52 yX0_takeItem, Cond.instanceMethod yX0_takeItem, Cond.selects RX0 yX0_takeItem yX0_takeItem, Cond.code yX0_takeItem cX0_takeItem 2 (some .int), Cond.methodLink RX7 165 yX7_leastSpoilt, Cond.instanceMethod yX7_leastSpoilt, Cond.selects RX7 yX7_leastSpoilt yX7_leastSpoilt, Cond.code yX7_leastSpoilt cX7_leastSpoilt 2 (some .int), Cond.methodLink RX7 169 yX7_actsOfAllShares, Cond.instanceMethod yX7_actsOfAllShares, Cond.selects RX7 yX7_actsOfAllShares yX7_actsOfAllShares, Cond.code yX7_actsOfAllShares cX7_actsOfAllShares 3 (some .int), Cond.methodLink RX7 172 yX7_joinAnswers, Cond.instanceMethod yX7_joinAnswers, Cond.selects RX7 yX7_joinAnswers yX7_joinAnswers, Cond.code yX7_joinAnswers cX7_joinAnswers 4 (some .boolean), Cond.methodLink RX7 247 yX2_join, Cond.instanceMethod yX2_join, Cond.selects RX2 yX2_join yX2_join, Cond.code yX2_join cX2_join 6 (some .boolean), Cond.fieldLink RX2 26 "FactShares$Share" "aim" "I", Cond.fieldLink RX2 32 "FactShares$Share" "answerLow" "I", Cond.fieldLink RX2 35 "FactShares$Share" "answerHigh" "I"]
def wsL_law_r19 : List Cond := [Cond.methodLink RX2 38 yX2_put, Cond.methodLink RX2 42 yX2_boundBelow, Cond.static yX2_boundBelow, Cond.code yX2_boundBelow cX2_boundBelow 2 (some .int), Cond.fieldLink RX2 49 "FactShares$Facts" "BOUNDS" "[I", Cond.constant RX2 52 (-1000000), Cond.methodLink RX2 46 yX2_boundAbove, Cond.static yX2_boundAbove, Cond.code yX2_boundAbove cX2_boundAbove 2 (some .int), Cond.constant RX2 53 (1000000), Cond.methodLink RL 52 yX8_run, Cond.instanceMethod yX8_run, Cond.selects RX8 yX8_run yX8_run, Cond.code yX8_run cX8_run 6 (some .int), Cond.fieldLink RX8 172 "FactSharesModel" "rounds" "I", Cond.fieldLink RX8 175 "FactSharesModel" "badKind" "I", Cond.fieldLink RX8 178 "FactSharesModel" "counted" "I", Cond.fieldLink RX8 147 "FactSharesModel" "taken" "I", Cond.fieldLink RX8 130 "FactSharesModel" "left" "I", Cond.methodLink RX8 181 yX8_round, Cond.instanceMethod yX8_round, Cond.selects RX8 yX8_round yX8_round, Cond.code yX8_round cX8_round 2 (some .boolean), Cond.fieldLink RX8 141 "FactSharesModel" "head" "I"]
def wsL_law_r20 : List Cond := [Cond.fieldLink RX8 144 "FactSharesModel" "tail" "I", Cond.methodLink RX8 162 yX8_areDone, Cond.instanceMethod yX8_areDone, Cond.selects RX8 yX8_areDone yX8_areDone, Cond.code yX8_areDone cX8_areDone 2 (some .boolean), Cond.methodLink RX8 166 yX8_turn, Cond.instanceMethod yX8_turn, Cond.selects RX8 yX8_turn yX8_turn, Cond.code yX8_turn cX8_turn 3 none, Cond.fieldLink RX8 133 "FactSharesModel" "turns" "I", Cond.constant RX8 136 (1103515245), Cond.methodLink RX8 137 yX8_workerAt, Cond.instanceMethod yX8_workerAt, Cond.selects RX8 yX8_workerAt yX8_workerAt, Cond.code yX8_workerAt cX8_workerAt 4 (some .int), Cond.methodLink RX8 150 yX8_begin, Cond.instanceMethod yX8_begin, Cond.selects RX8 yX8_begin yX8_begin, Cond.code yX8_begin cX8_begin 3 none, Cond.methodLink RX8 154 yX8_done, Cond.instanceMethod yX8_done, Cond.selects RX8 yX8_done yX8_done, Cond.code yX8_done cX8_done 3 none, Cond.methodLink RX8 158 yX8_work]
def wsL_law_r21 : List Cond := [Cond.instanceMethod yX8_work, Cond.selects RX8 yX8_work yX8_work, Cond.code yX8_work cX8_work 8 (some .int), Cond.methodLink RX8 115 yX8_push, Cond.instanceMethod yX8_push, Cond.selects RX8 yX8_push yX8_push, Cond.code yX8_push cX8_push 4 (some .int), Cond.methodLink RX8 119 yX8_by, Cond.instanceMethod yX8_by, Cond.selects RX8 yX8_by yX8_by, Cond.code yX8_by cX8_by 7 (some .int), Cond.methodLink RX8 126 yX8_nearest, Cond.static yX8_nearest, Cond.code yX8_nearest cX8_nearest 2 (some .int), Cond.constantLong RX8 111 (-1000000), Cond.constantLong RX8 113 (1000000), Cond.methodLink RX8 123 yX8_both, Cond.instanceMethod yX8_both, Cond.selects RX8 yX8_both yX8_both, Cond.code yX8_both cX8_both 9 (some .int), Cond.methodLink RX8 184 yX8_join, Cond.instanceMethod yX8_join, Cond.selects RX8 yX8_join yX8_join, Cond.code yX8_join cX8_join 8 (some .boolean)]
def wsL_law_r22 : List Cond := [Cond.methodLink RX8 169 yX8_bound, Cond.static yX8_bound, Cond.code yX8_bound cX8_bound 1 (some .int), Cond.methodLink RL 53 yX7_told, Cond.instanceMethod yX7_told, Cond.selects RX7 yX7_told yX7_told, Cond.code yX7_told cX7_told 2 (some .int), Cond.fieldLink RX7 147 "FactShares$Crew" "latest" "I", Cond.methodLink RL 56 yX8_told, Cond.instanceMethod yX8_told, Cond.selects RX8 yX8_told yX8_told, Cond.code yX8_told cX8_told 2 (some .int), Cond.methodLink RL 57 yX7_doer, Cond.instanceMethod yX7_doer, Cond.selects RX7 yX7_doer yX7_doer, Cond.code yX7_doer cX7_doer 2 (some .int), Cond.methodLink RL 60 yX8_doer, Cond.instanceMethod yX8_doer, Cond.selects RX8 yX8_doer yX8_doer, Cond.code yX8_doer cX8_doer 2 (some .int), Cond.methodLink RL 61 yX7_clear, Cond.instanceMethod yX7_clear, Cond.selects RX7 yX7_clear yX7_clear, Cond.code yX7_clear cX7_clear 1 (some .int)]
def wsL_law_r23 : List Cond := [Cond.methodLink RX7 153 yX2_forgetAll, Cond.instanceMethod yX2_forgetAll, Cond.selects RX2 yX2_forgetAll yX2_forgetAll, Cond.code yX2_forgetAll cX2_forgetAll 3 (some .int), Cond.methodLink RL 65 yX8_clear, Cond.instanceMethod yX8_clear, Cond.selects RX8 yX8_clear yX8_clear, Cond.code yX8_clear cX8_clear 3 (some .int)]
def wsL_law : List Cond := (wsL_law_r1 ++ (wsL_law_r2 ++ (wsL_law_r3 ++ (wsL_law_r4 ++ (wsL_law_r5 ++ (wsL_law_r6 ++ (wsL_law_r7 ++ (wsL_law_r8 ++ (wsL_law_r9 ++ (wsL_law_r10 ++ (wsL_law_r11 ++ (wsL_law_r12 ++ (wsL_law_r13 ++ (wsL_law_r14 ++ (wsL_law_r15 ++ (wsL_law_r16 ++ (wsL_law_r17 ++ (wsL_law_r18 ++ (wsL_law_r19 ++ (wsL_law_r20 ++ (wsL_law_r21 ++ (wsL_law_r22 ++ wsL_law_r23)))))))))))))))))))))) ++ wsX70 ++ wsX80 ++ wsX20 ++ wsX30 ++ wsX10 ++ wsX50 ++ wsX40 ++ wsX60 ++ wsX00 ++ ([] : List Cond)
theorem inlX0 : ∀ w ∈ wsX00, w ∈ wsL_law := fun _ h => List.mem_append_left _ (List.mem_append_right _ h)
theorem inlX1 : ∀ w ∈ wsX10, w ∈ wsL_law := fun _ h => List.mem_append_left _ (List.mem_append_left _ (List.mem_append_left _ (List.mem_append_left _ (List.mem_append_left _ (List.mem_append_right _ h)))))
theorem inlX2 : ∀ w ∈ wsX20, w ∈ wsL_law := fun _ h => List.mem_append_left _ (List.mem_append_left _ (List.mem_append_left _ (List.mem_append_left _ (List.mem_append_left _ (List.mem_append_left _ (List.mem_append_left _ (List.mem_append_right _ h)))))))
theorem inlX3 : ∀ w ∈ wsX30, w ∈ wsL_law := fun _ h => List.mem_append_left _ (List.mem_append_left _ (List.mem_append_left _ (List.mem_append_left _ (List.mem_append_left _ (List.mem_append_left _ (List.mem_append_right _ h))))))
theorem inlX4 : ∀ w ∈ wsX40, w ∈ wsL_law := fun _ h => List.mem_append_left _ (List.mem_append_left _ (List.mem_append_left _ (List.mem_append_right _ h)))
theorem inlX5 : ∀ w ∈ wsX50, w ∈ wsL_law := fun _ h => List.mem_append_left _ (List.mem_append_left _ (List.mem_append_left _ (List.mem_append_left _ (List.mem_append_right _ h))))
theorem inlX6 : ∀ w ∈ wsX60, w ∈ wsL_law := fun _ h => List.mem_append_left _ (List.mem_append_left _ (List.mem_append_right _ h))
theorem inlX7 : ∀ w ∈ wsX70, w ∈ wsL_law := fun _ h => List.mem_append_left _ (List.mem_append_left _ (List.mem_append_left _ (List.mem_append_left _ (List.mem_append_left _ (List.mem_append_left _ (List.mem_append_left _ (List.mem_append_left _ (List.mem_append_left _ (List.mem_append_right _ h)))))))))
theorem inlX8 : ∀ w ∈ wsX80, w ∈ wsL_law := fun _ h => List.mem_append_left _ (List.mem_append_left _ (List.mem_append_left _ (List.mem_append_left _ (List.mem_append_left _ (List.mem_append_left _ (List.mem_append_left _ (List.mem_append_left _ (List.mem_append_right _ h))))))))
abbrev vwCl : List vw_C := [(RX0, TX0, 6), (RX1, TX1, 5), (RX2, TX2, 3), (RX3, TX3, 3), (RX4, TX4, 9), (RX5, TX5, 6), (RX6, TX6, 6), (RX7, TX7, 9), (RX8, TX8, 34)]
