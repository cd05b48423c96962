section
-- ===== PART A: goes FIRST, ahead of the names: the tables' words, and 'selects' of the private methods out of them =====
/-- a private method of a class that the tables say can be made, by its rows of tables_1 -/
def lw_okq (q : MethodName × Nat) : Prop := (q.1.cls ≠ "java/lang/invoke/MethodHandle" ∧ q.1.cls ≠ "java/lang/invoke/VarHandle") ∧ Cond.instantiable q.1.cls q.2 ∈ tables_1 ∧ Cond.privateMethod q.1 ∈ tables_1 ∧ Cond.instanceMethod q.1 ∈ tables_1
theorem lw_p0 : lw_okq (⟨"FactShares", "isShare", "(I)Z"⟩, 9) := ⟨⟨by decide +kernel, by decide +kernel⟩, List.mem_of_getElem? (i := 12) (by decide +kernel), List.mem_of_getElem? (i := 273) (by decide +kernel), List.mem_of_getElem? (i := 274) (by decide +kernel)⟩
theorem lw_p1 : lw_okq (⟨"FactShares", "playRound", "(I)I"⟩, 9) := ⟨⟨by decide +kernel, by decide +kernel⟩, List.mem_of_getElem? (i := 12) (by decide +kernel), List.mem_of_getElem? (i := 331) (by decide +kernel), List.mem_of_getElem? (i := 332) (by decide +kernel)⟩
theorem lw_p2 : lw_okq (⟨"FactShares", "beginRound", "()V"⟩, 9) := ⟨⟨by decide +kernel, by decide +kernel⟩, List.mem_of_getElem? (i := 12) (by decide +kernel), List.mem_of_getElem? (i := 335) (by decide +kernel), List.mem_of_getElem? (i := 336) (by decide +kernel)⟩
theorem lw_p3 : lw_okq (⟨"FactShares", "playTurn", "()V"⟩, 9) := ⟨⟨by decide +kernel, by decide +kernel⟩, List.mem_of_getElem? (i := 12) (by decide +kernel), List.mem_of_getElem? (i := 346) (by decide +kernel), List.mem_of_getElem? (i := 347) (by decide +kernel)⟩
theorem lw_p4 : lw_okq (⟨"FactShares$Crew", "leftAt", "(I)LFactShares$Worker;"⟩, 5) := ⟨⟨by decide +kernel, by decide +kernel⟩, List.mem_of_getElem? (i := 63) (by decide +kernel), List.mem_of_getElem? (i := 355) (by decide +kernel), List.mem_of_getElem? (i := 356) (by decide +kernel)⟩
theorem lw_p5 : lw_okq (⟨"FactShares", "loseNow", "(LFactShares$Worker;)V"⟩, 9) := ⟨⟨by decide +kernel, by decide +kernel⟩, List.mem_of_getElem? (i := 12) (by decide +kernel), List.mem_of_getElem? (i := 363) (by decide +kernel), List.mem_of_getElem? (i := 364) (by decide +kernel)⟩
theorem lw_p6 : lw_okq (⟨"FactShares", "takeShare", "(LFactShares$Worker;)V"⟩, 9) := ⟨⟨by decide +kernel, by decide +kernel⟩, List.mem_of_getElem? (i := 12) (by decide +kernel), List.mem_of_getElem? (i := 375) (by decide +kernel), List.mem_of_getElem? (i := 376) (by decide +kernel)⟩
theorem lw_p7 : lw_okq (⟨"FactShares", "finish", "(LFactShares$Worker;LFactShares$Share;I)V"⟩, 9) := ⟨⟨by decide +kernel, by decide +kernel⟩, List.mem_of_getElem? (i := 12) (by decide +kernel), List.mem_of_getElem? (i := 391) (by decide +kernel), List.mem_of_getElem? (i := 392) (by decide +kernel)⟩
theorem lw_p8 : lw_okq (⟨"FactShares", "doNextAct", "(LFactShares$Worker;LFactShares$Share;)V"⟩, 9) := ⟨⟨by decide +kernel, by decide +kernel⟩, List.mem_of_getElem? (i := 12) (by decide +kernel), List.mem_of_getElem? (i := 399) (by decide +kernel), List.mem_of_getElem? (i := 400) (by decide +kernel)⟩
theorem lw_p9 : lw_okq (⟨"FactShares$Bench", "push", "(II)I"⟩, 6) := ⟨⟨by decide +kernel, by decide +kernel⟩, List.mem_of_getElem? (i := 77) (by decide +kernel), List.mem_of_getElem? (i := 407) (by decide +kernel), List.mem_of_getElem? (i := 408) (by decide +kernel)⟩
theorem lw_p10 : lw_okq (⟨"FactShares$Bench", "pushFact", "(ILFactShares$Facts;)I"⟩, 6) := ⟨⟨by decide +kernel, by decide +kernel⟩, List.mem_of_getElem? (i := 77) (by decide +kernel), List.mem_of_getElem? (i := 411) (by decide +kernel), List.mem_of_getElem? (i := 412) (by decide +kernel)⟩
theorem lw_p11 : lw_okq (⟨"FactShares$Bench", "joinUpperTwo", "(I)I"⟩, 6) := ⟨⟨by decide +kernel, by decide +kernel⟩, List.mem_of_getElem? (i := 77) (by decide +kernel), List.mem_of_getElem? (i := 416) (by decide +kernel), List.mem_of_getElem? (i := 417) (by decide +kernel)⟩
theorem lw_p12 : lw_okq (⟨"FactShares$Bench", "divideUpper", "(I)I"⟩, 6) := ⟨⟨by decide +kernel, by decide +kernel⟩, List.mem_of_getElem? (i := 77) (by decide +kernel), List.mem_of_getElem? (i := 427) (by decide +kernel), List.mem_of_getElem? (i := 428) (by decide +kernel)⟩
theorem lw_p13 : lw_okq (⟨"FactShares$Bench", "testPoint", "()I"⟩, 6) := ⟨⟨by decide +kernel, by decide +kernel⟩, List.mem_of_getElem? (i := 77) (by decide +kernel), List.mem_of_getElem? (i := 431) (by decide +kernel), List.mem_of_getElem? (i := 432) (by decide +kernel)⟩
theorem lw_p14 : lw_okq (⟨"FactShares$Bench", "keepUpper", "(I)I"⟩, 6) := ⟨⟨by decide +kernel, by decide +kernel⟩, List.mem_of_getElem? (i := 77) (by decide +kernel), List.mem_of_getElem? (i := 435) (by decide +kernel), List.mem_of_getElem? (i := 436) (by decide +kernel)⟩
theorem lw_p15 : lw_okq (⟨"FactShares$Bench", "takeItem", "(I)I"⟩, 6) := ⟨⟨by decide +kernel, by decide +kernel⟩, List.mem_of_getElem? (i := 77) (by decide +kernel), List.mem_of_getElem? (i := 442) (by decide +kernel), List.mem_of_getElem? (i := 443) (by decide +kernel)⟩
def lw_privs_1 : List (MethodName × Nat) := [(⟨"FactShares", "isShare", "(I)Z"⟩, 9), (⟨"FactShares", "playRound", "(I)I"⟩, 9), (⟨"FactShares", "beginRound", "()V"⟩, 9), (⟨"FactShares", "playTurn", "()V"⟩, 9), (⟨"FactShares$Crew", "leftAt", "(I)LFactShares$Worker;"⟩, 5), (⟨"FactShares", "loseNow", "(LFactShares$Worker;)V"⟩, 9), (⟨"FactShares", "takeShare", "(LFactShares$Worker;)V"⟩, 9), (⟨"FactShares", "finish", "(LFactShares$Worker;LFactShares$Share;I)V"⟩, 9), (⟨"FactShares", "doNextAct", "(LFactShares$Worker;LFactShares$Share;)V"⟩, 9), (⟨"FactShares$Bench", "push", "(II)I"⟩, 6), (⟨"FactShares$Bench", "pushFact", "(ILFactShares$Facts;)I"⟩, 6), (⟨"FactShares$Bench", "joinUpperTwo", "(I)I"⟩, 6), (⟨"FactShares$Bench", "divideUpper", "(I)I"⟩, 6), (⟨"FactShares$Bench", "testPoint", "()I"⟩, 6), (⟨"FactShares$Bench", "keepUpper", "(I)I"⟩, 6), (⟨"FactShares$Bench", "takeItem", "(I)I"⟩, 6)]
theorem lw_r1 : ∀ q ∈ lw_privs_1, lw_okq q := List.forall_mem_cons.mpr ⟨lw_p0, List.forall_mem_cons.mpr ⟨lw_p1, List.forall_mem_cons.mpr ⟨lw_p2, List.forall_mem_cons.mpr ⟨lw_p3, List.forall_mem_cons.mpr ⟨lw_p4, List.forall_mem_cons.mpr ⟨lw_p5, List.forall_mem_cons.mpr ⟨lw_p6, List.forall_mem_cons.mpr ⟨lw_p7, List.forall_mem_cons.mpr ⟨lw_p8, List.forall_mem_cons.mpr ⟨lw_p9, List.forall_mem_cons.mpr ⟨lw_p10, List.forall_mem_cons.mpr ⟨lw_p11, List.forall_mem_cons.mpr ⟨lw_p12, List.forall_mem_cons.mpr ⟨lw_p13, List.forall_mem_cons.mpr ⟨lw_p14, List.forall_mem_cons.mpr ⟨lw_p15, fun _ h => absurd h List.not_mem_nil⟩⟩⟩⟩⟩⟩⟩⟩⟩⟩⟩⟩⟩⟩⟩⟩
theorem lw_p16 : lw_okq (⟨"FactShares", "leastSpoilt", "()I"⟩, 9) := ⟨⟨by decide +kernel, by decide +kernel⟩, List.mem_of_getElem? (i := 12) (by decide +kernel), List.mem_of_getElem? (i := 446) (by decide +kernel), List.mem_of_getElem? (i := 447) (by decide +kernel)⟩
theorem lw_p17 : lw_okq (⟨"FactShares", "actsOfAllShares", "()I"⟩, 9) := ⟨⟨by decide +kernel, by decide +kernel⟩, List.mem_of_getElem? (i := 12) (by decide +kernel), List.mem_of_getElem? (i := 450) (by decide +kernel), List.mem_of_getElem? (i := 451) (by decide +kernel)⟩
theorem lw_p18 : lw_okq (⟨"FactShares", "joinAnswers", "(Z)Z"⟩, 9) := ⟨⟨by decide +kernel, by decide +kernel⟩, List.mem_of_getElem? (i := 12) (by decide +kernel), List.mem_of_getElem? (i := 454) (by decide +kernel), List.mem_of_getElem? (i := 455) (by decide +kernel)⟩
theorem lw_p19 : lw_okq (⟨"FactSharesModel", "isShare", "(I)Z"⟩, 34) := ⟨⟨by decide +kernel, by decide +kernel⟩, List.mem_of_getElem? (i := 489) (by decide +kernel), List.mem_of_getElem? (i := 612) (by decide +kernel), List.mem_of_getElem? (i := 613) (by decide +kernel)⟩
theorem lw_p20 : lw_okq (⟨"FactSharesModel", "workersLeft", "()I"⟩, 34) := ⟨⟨by decide +kernel, by decide +kernel⟩, List.mem_of_getElem? (i := 489) (by decide +kernel), List.mem_of_getElem? (i := 634) (by decide +kernel), List.mem_of_getElem? (i := 635) (by decide +kernel)⟩
theorem lw_p21 : lw_okq (⟨"FactSharesModel", "round", "()Z"⟩, 34) := ⟨⟨by decide +kernel, by decide +kernel⟩, List.mem_of_getElem? (i := 489) (by decide +kernel), List.mem_of_getElem? (i := 655) (by decide +kernel), List.mem_of_getElem? (i := 656) (by decide +kernel)⟩
theorem lw_p22 : lw_okq (⟨"FactSharesModel", "areDone", "()Z"⟩, 34) := ⟨⟨by decide +kernel, by decide +kernel⟩, List.mem_of_getElem? (i := 489) (by decide +kernel), List.mem_of_getElem? (i := 659) (by decide +kernel), List.mem_of_getElem? (i := 660) (by decide +kernel)⟩
theorem lw_p23 : lw_okq (⟨"FactSharesModel", "turn", "()V"⟩, 34) := ⟨⟨by decide +kernel, by decide +kernel⟩, List.mem_of_getElem? (i := 489) (by decide +kernel), List.mem_of_getElem? (i := 663) (by decide +kernel), List.mem_of_getElem? (i := 664) (by decide +kernel)⟩
theorem lw_p24 : lw_okq (⟨"FactSharesModel", "workerAt", "(I)I"⟩, 34) := ⟨⟨by decide +kernel, by decide +kernel⟩, List.mem_of_getElem? (i := 489) (by decide +kernel), List.mem_of_getElem? (i := 668) (by decide +kernel), List.mem_of_getElem? (i := 669) (by decide +kernel)⟩
theorem lw_p25 : lw_okq (⟨"FactSharesModel", "begin", "(I)V"⟩, 34) := ⟨⟨by decide +kernel, by decide +kernel⟩, List.mem_of_getElem? (i := 489) (by decide +kernel), List.mem_of_getElem? (i := 672) (by decide +kernel), List.mem_of_getElem? (i := 673) (by decide +kernel)⟩
theorem lw_p26 : lw_okq (⟨"FactSharesModel", "done", "(II)V"⟩, 34) := ⟨⟨by decide +kernel, by decide +kernel⟩, List.mem_of_getElem? (i := 489) (by decide +kernel), List.mem_of_getElem? (i := 676) (by decide +kernel), List.mem_of_getElem? (i := 677) (by decide +kernel)⟩
theorem lw_p27 : lw_okq (⟨"FactSharesModel", "work", "(II)I"⟩, 34) := ⟨⟨by decide +kernel, by decide +kernel⟩, List.mem_of_getElem? (i := 489) (by decide +kernel), List.mem_of_getElem? (i := 680) (by decide +kernel), List.mem_of_getElem? (i := 681) (by decide +kernel)⟩
theorem lw_p28 : lw_okq (⟨"FactSharesModel", "push", "(III)I"⟩, 34) := ⟨⟨by decide +kernel, by decide +kernel⟩, List.mem_of_getElem? (i := 489) (by decide +kernel), List.mem_of_getElem? (i := 684) (by decide +kernel), List.mem_of_getElem? (i := 685) (by decide +kernel)⟩
theorem lw_p29 : lw_okq (⟨"FactSharesModel", "by", "(IIII)I"⟩, 34) := ⟨⟨by decide +kernel, by decide +kernel⟩, List.mem_of_getElem? (i := 489) (by decide +kernel), List.mem_of_getElem? (i := 688) (by decide +kernel), List.mem_of_getElem? (i := 689) (by decide +kernel)⟩
theorem lw_p30 : lw_okq (⟨"FactSharesModel", "both", "(IIII)I"⟩, 34) := ⟨⟨by decide +kernel, by decide +kernel⟩, List.mem_of_getElem? (i := 489) (by decide +kernel), List.mem_of_getElem? (i := 697) (by decide +kernel), List.mem_of_getElem? (i := 698) (by decide +kernel)⟩
theorem lw_p31 : lw_okq (⟨"FactSharesModel", "join", "(IZ)Z"⟩, 34) := ⟨⟨by decide +kernel, by decide +kernel⟩, List.mem_of_getElem? (i := 489) (by decide +kernel), List.mem_of_getElem? (i := 701) (by decide +kernel), List.mem_of_getElem? (i := 702) (by decide +kernel)⟩
def lw_privs_2 : List (MethodName × Nat) := [(⟨"FactShares", "leastSpoilt", "()I"⟩, 9), (⟨"FactShares", "actsOfAllShares", "()I"⟩, 9), (⟨"FactShares", "joinAnswers", "(Z)Z"⟩, 9), (⟨"FactSharesModel", "isShare", "(I)Z"⟩, 34), (⟨"FactSharesModel", "workersLeft", "()I"⟩, 34), (⟨"FactSharesModel", "round", "()Z"⟩, 34), (⟨"FactSharesModel", "areDone", "()Z"⟩, 34), (⟨"FactSharesModel", "turn", "()V"⟩, 34), (⟨"FactSharesModel", "workerAt", "(I)I"⟩, 34), (⟨"FactSharesModel", "begin", "(I)V"⟩, 34), (⟨"FactSharesModel", "done", "(II)V"⟩, 34), (⟨"FactSharesModel", "work", "(II)I"⟩, 34), (⟨"FactSharesModel", "push", "(III)I"⟩, 34), (⟨"FactSharesModel", "by", "(IIII)I"⟩, 34), (⟨"FactSharesModel", "both", "(IIII)I"⟩, 34), (⟨"FactSharesModel", "join", "(IZ)Z"⟩, 34)]
theorem lw_r2 : ∀ q ∈ lw_privs_2, lw_okq q := List.forall_mem_cons.mpr ⟨lw_p16, List.forall_mem_cons.mpr ⟨lw_p17, List.forall_mem_cons.mpr ⟨lw_p18, List.forall_mem_cons.mpr ⟨lw_p19, List.forall_mem_cons.mpr ⟨lw_p20, List.forall_mem_cons.mpr ⟨lw_p21, List.forall_mem_cons.mpr ⟨lw_p22, List.forall_mem_cons.mpr ⟨lw_p23, List.forall_mem_cons.mpr ⟨lw_p24, List.forall_mem_cons.mpr ⟨lw_p25, List.forall_mem_cons.mpr ⟨lw_p26, List.forall_mem_cons.mpr ⟨lw_p27, List.forall_mem_cons.mpr ⟨lw_p28, List.forall_mem_cons.mpr ⟨lw_p29, List.forall_mem_cons.mpr ⟨lw_p30, List.forall_mem_cons.mpr ⟨lw_p31, fun _ h => absurd h List.not_mem_nil⟩⟩⟩⟩⟩⟩⟩⟩⟩⟩⟩⟩⟩⟩⟩⟩
def lw_privs : List (MethodName × Nat) := lw_privs_1 ++ (lw_privs_2)
def lw_tbl : List Cond := k2_sels lw_privs ++ tables_1
theorem lw_privs_ok : ∀ q ∈ lw_privs, lw_okq q := by
  show ∀ q ∈ lw_privs_1 ++ (lw_privs_2), lw_okq q
  exact List.forall_mem_append.mpr ⟨lw_r1, lw_r2⟩
/-! ===== BEGIN words of one list among another's, by their places ===== -/
theorem goodIn_r {big : List Cond} (ws : List Cond) (ps : List Nat) (hp : ws = ps.filterMap (fun i => big[i]?)) (h : ws.all goodWord = true) : GoodIn big ws := by
  intro w hw
  have h1 := List.all_eq_true.mp h w hw
  rw [hp] at hw
  obtain ⟨i, -, hi⟩ := List.mem_filterMap.mp hw
  have hm : w ∈ big := by first | exact List.mem_of_getElem? hi | exact List.getElem?_mem hi
  exact ⟨hm, good_of_word h1⟩
theorem goodIn_app {big a b : List Cond} (ha : GoodIn big a) (hb : GoodIn big b) : GoodIn big (a ++ b) := fun w h => (List.mem_append.mp h).elim (ha w) (hb w)
theorem goodIn_ca {big a b : List Cond} {c : Cond} (ha : GoodIn big (c :: a)) (hb : GoodIn big b) : GoodIn big (c :: (a ++ b)) := fun w h => (List.mem_cons.mp h).elim (fun e => ha w (List.mem_cons.mpr (Or.inl e))) (fun h => (List.mem_append.mp h).elim (fun h => ha w (List.mem_cons.mpr (Or.inr h))) (hb w))
theorem goodIn_sub {big ws : List Cond} (hm : ∀ w ∈ ws, w ∈ big) (h : ws.all goodWord = true) : GoodIn big ws := fun w hw => ⟨hm w hw, good_of_word (List.all_eq_true.mp h w hw)⟩
/-! ===== END ===== -/

/-! ===== BEGIN printed: names, fields, word lists, decode rows ===== -/
def RX0 : String := "FactShares$Bench"
def TX0 : u_T := fun k => match k with
  | 0 => ("FactShares$Bench", "low", "[I", true)
  | 1 => ("FactShares$Bench", "high", "[I", true)
  | 2 => ("FactShares$Bench", "height", "I", false)
  | 3 => ("FactShares$Bench", "rowKnown", "[Z", true)
  | 4 => ("FactShares$Bench", "rowLow", "[I", true)
  | _ => ("FactShares$Bench", "rowHigh", "[I", true)
def tyX0 : Nat → FieldType := fun k => match k with
  | 0 => .array .int
  | 1 => .array .int
  | 2 => .int
  | 3 => .array .boolean
  | 4 => .array .int
  | _ => .array .int
abbrev wsX00 : List Cond := u_ws RX0 TX0 6
theorem nmX0 : ∀ a, a < 6 → ∀ b, b < 6 → a ≠ b → (TX0 a).2.1 ≠ (TX0 b).2.1 := by decide +kernel
theorem tyX0_ok : ∀ k, k < 6 → parseFieldDescriptor (TX0 k).2.2.1 = some (tyX0 k) := by decide +kernel
abbrev cX0_init : ByteArray := prog_2_method_1_code
def yX0_init : MethodName := ⟨RX0, "<init>", "()V"⟩
abbrev cX0_empty : ByteArray := prog_2_method_2_code
def yX0_empty : MethodName := ⟨RX0, "empty", "()V"⟩
abbrev cX0_doAct : ByteArray := prog_2_method_3_code
def yX0_doAct : MethodName := ⟨RX0, "doAct", "(IIILFactShares$Facts;)I"⟩
abbrev cX0_giveAnswer : ByteArray := prog_2_method_4_code
def yX0_giveAnswer : MethodName := ⟨RX0, "giveAnswer", "(LFactShares$Share;)I"⟩
abbrev cX0_push : ByteArray := prog_2_method_5_code
def yX0_push : MethodName := ⟨RX0, "push", "(II)I"⟩
abbrev cX0_pushFact : ByteArray := prog_2_method_6_code
def yX0_pushFact : MethodName := ⟨RX0, "pushFact", "(ILFactShares$Facts;)I"⟩
abbrev cX0_joinUpperTwo : ByteArray := prog_2_method_7_code
def yX0_joinUpperTwo : MethodName := ⟨RX0, "joinUpperTwo", "(I)I"⟩
abbrev cX0_divideUpper : ByteArray := prog_2_method_8_code
def yX0_divideUpper : MethodName := ⟨RX0, "divideUpper", "(I)I"⟩
abbrev cX0_testPoint : ByteArray := prog_2_method_9_code
def yX0_testPoint : MethodName := ⟨RX0, "testPoint", "()I"⟩
abbrev cX0_keepUpper : ByteArray := prog_2_method_10_code
def yX0_keepUpper : MethodName := ⟨RX0, "keepUpper", "(I)I"⟩
abbrev cX0_takeItem : ByteArray := prog_2_method_11_code
def yX0_takeItem : MethodName := ⟨RX0, "takeItem", "(I)I"⟩
abbrev cX0_isItem : ByteArray := prog_2_method_12_code
def yX0_isItem : MethodName := ⟨RX0, "isItem", "(I)Z"⟩
def RX1 : String := "FactShares$Crew"
def TX1 : u_T := fun k => match k with
  | 0 => ("FactShares$Crew", "all", "[LFactShares$Worker;", true)
  | 1 => ("FactShares$Crew", "left", "I", false)
  | 2 => ("FactShares$Crew", "x", "I", false)
  | 3 => ("FactShares$Crew", "turns", "I", false)
  | _ => ("FactShares$Crew", "latest", "I", false)
def tyX1 : Nat → FieldType := fun k => match k with
  | 0 => .array (.object "FactShares$Worker")
  | 1 => .int
  | 2 => .int
  | 3 => .int
  | _ => .int
abbrev wsX10 : List Cond := u_ws RX1 TX1 5
theorem nmX1 : ∀ a, a < 5 → ∀ b, b < 5 → a ≠ b → (TX1 a).2.1 ≠ (TX1 b).2.1 := by decide +kernel
theorem tyX1_ok : ∀ k, k < 5 → parseFieldDescriptor (TX1 k).2.2.1 = some (tyX1 k) := by decide +kernel
abbrev cX1_init : ByteArray := prog_3_method_1_code
def yX1_init : MethodName := ⟨RX1, "<init>", "()V"⟩
abbrev cX1_hire : ByteArray := prog_3_method_2_code
def yX1_hire : MethodName := ⟨RX1, "hire", "(I)V"⟩
abbrev cX1_isHere : ByteArray := prog_3_method_3_code
def yX1_isHere : MethodName := ⟨RX1, "isHere", "(I)Z"⟩
abbrev cX1_remove : ByteArray := prog_3_method_4_code
def yX1_remove : MethodName := ⟨RX1, "remove", "(LFactShares$Worker;)V"⟩
abbrev cX1_nextToMove : ByteArray := prog_3_method_5_code
def yX1_nextToMove : MethodName := ⟨RX1, "nextToMove", "()LFactShares$Worker;"⟩
abbrev cX1_leftAt : ByteArray := prog_3_method_6_code
def yX1_leftAt : MethodName := ⟨RX1, "leftAt", "(I)LFactShares$Worker;"⟩
def RX2 : String := "FactShares$Facts"
def TX2 : u_T := fun k => match k with
  | 0 => ("FactShares$Facts", "known", "[Z", true)
  | 1 => ("FactShares$Facts", "low", "[I", true)
  | _ => ("FactShares$Facts", "high", "[I", true)
def tyX2 : Nat → FieldType := fun k => match k with
  | 0 => .array .boolean
  | 1 => .array .int
  | _ => .array .int
abbrev wsX20 : List Cond := u_ws RX2 TX2 3
theorem nmX2 : ∀ a, a < 3 → ∀ b, b < 3 → a ≠ b → (TX2 a).2.1 ≠ (TX2 b).2.1 := by decide +kernel
theorem tyX2_ok : ∀ k, k < 3 → parseFieldDescriptor (TX2 k).2.2.1 = some (tyX2 k) := by decide +kernel
abbrev cX2_init : ByteArray := prog_4_method_1_code
def yX2_init : MethodName := ⟨RX2, "<init>", "()V"⟩
abbrev cX2_put : ByteArray := prog_4_method_2_code
def yX2_put : MethodName := ⟨RX2, "put", "(III)V"⟩
abbrev cX2_join : ByteArray := prog_4_method_3_code
def yX2_join : MethodName := ⟨RX2, "join", "(LFactShares$Share;Z)Z"⟩
abbrev cX2_forgetAll : ByteArray := prog_4_method_4_code
def yX2_forgetAll : MethodName := ⟨RX2, "forgetAll", "()I"⟩
abbrev cX2_boundBelow : ByteArray := prog_4_method_5_code
def yX2_boundBelow : MethodName := ⟨RX2, "boundBelow", "(I)I"⟩
abbrev cX2_boundAbove : ByteArray := prog_4_method_6_code
def yX2_boundAbove : MethodName := ⟨RX2, "boundAbove", "(I)I"⟩
def RX3 : String := "FactShares$Line"
def TX3 : u_T := fun k => match k with
  | 0 => ("FactShares$Line", "waiting", "[LFactShares$Share;", true)
  | 1 => ("FactShares$Line", "first", "I", false)
  | _ => ("FactShares$Line", "behindLast", "I", false)
def tyX3 : Nat → FieldType := fun k => match k with
  | 0 => .array (.object "FactShares$Share")
  | 1 => .int
  | _ => .int
abbrev wsX30 : List Cond := u_ws RX3 TX3 3
theorem nmX3 : ∀ a, a < 3 → ∀ b, b < 3 → a ≠ b → (TX3 a).2.1 ≠ (TX3 b).2.1 := by decide +kernel
theorem tyX3_ok : ∀ k, k < 3 → parseFieldDescriptor (TX3 k).2.2.1 = some (tyX3 k) := by decide +kernel
abbrev cX3_init : ByteArray := prog_5_method_1_code
def yX3_init : MethodName := ⟨RX3, "<init>", "()V"⟩
abbrev cX3_fill : ByteArray := prog_5_method_2_code
def yX3_fill : MethodName := ⟨RX3, "fill", "([LFactShares$Share;I)V"⟩
abbrev cX3_takeFirst : ByteArray := prog_5_method_3_code
def yX3_takeFirst : MethodName := ⟨RX3, "takeFirst", "()LFactShares$Share;"⟩
abbrev cX3_putInFront : ByteArray := prog_5_method_4_code
def yX3_putInFront : MethodName := ⟨RX3, "putInFront", "(LFactShares$Share;)V"⟩
def RX4 : String := "FactShares$Share"
def TX4 : u_T := fun k => match k with
  | 0 => ("FactShares$Share", "sort", "[I", true)
  | 1 => ("FactShares$Share", "a", "[I", true)
  | 2 => ("FactShares$Share", "b", "[I", true)
  | 3 => ("FactShares$Share", "aim", "I", false)
  | 4 => ("FactShares$Share", "actCount", "I", false)
  | 5 => ("FactShares$Share", "doneBy", "I", false)
  | 6 => ("FactShares$Share", "refusal", "I", false)
  | 7 => ("FactShares$Share", "answerLow", "I", false)
  | _ => ("FactShares$Share", "answerHigh", "I", false)
def tyX4 : Nat → FieldType := fun k => match k with
  | 0 => .array .int
  | 1 => .array .int
  | 2 => .array .int
  | 3 => .int
  | 4 => .int
  | 5 => .int
  | 6 => .int
  | 7 => .int
  | _ => .int
abbrev wsX40 : List Cond := u_ws RX4 TX4 9
theorem nmX4 : ∀ a, a < 9 → ∀ b, b < 9 → a ≠ b → (TX4 a).2.1 ≠ (TX4 b).2.1 := by decide +kernel
theorem tyX4_ok : ∀ k, k < 9 → parseFieldDescriptor (TX4 k).2.2.1 = some (tyX4 k) := by decide +kernel
abbrev cX4_init : ByteArray := prog_6_method_1_code
def yX4_init : MethodName := ⟨RX4, "<init>", "()V"⟩
abbrev cX4_addAct : ByteArray := prog_6_method_2_code
def yX4_addAct : MethodName := ⟨RX4, "addAct", "(III)Z"⟩
def RX5 : String := "FactShares$Tally"
def TX5 : u_T := fun k => match k with
  | 0 => ("FactShares$Tally", "rounds", "I", false)
  | 1 => ("FactShares$Tally", "spoilt", "I", false)
  | 2 => ("FactShares$Tally", "refusal", "I", false)
  | 3 => ("FactShares$Tally", "acts", "I", false)
  | 4 => ("FactShares$Tally", "taken", "I", false)
  | _ => ("FactShares$Tally", "left", "I", false)
def tyX5 : Nat → FieldType := fun k => match k with
  | 0 => .int
  | 1 => .int
  | 2 => .int
  | 3 => .int
  | 4 => .int
  | _ => .int
abbrev wsX50 : List Cond := u_ws RX5 TX5 6
theorem nmX5 : ∀ a, a < 6 → ∀ b, b < 6 → a ≠ b → (TX5 a).2.1 ≠ (TX5 b).2.1 := by decide +kernel
theorem tyX5_ok : ∀ k, k < 6 → parseFieldDescriptor (TX5 k).2.2.1 = some (tyX5 k) := by decide +kernel
abbrev cX5_init : ByteArray := prog_7_method_1_code
def yX5_init : MethodName := ⟨RX5, "<init>", "()V"⟩
abbrev cX5_beginRun : ByteArray := prog_7_method_2_code
def yX5_beginRun : MethodName := ⟨RX5, "beginRun", "()V"⟩
def RX6 : String := "FactShares$Worker"
def TX6 : u_T := fun k => match k with
  | 0 => ("FactShares$Worker", "number", "I", true)
  | 1 => ("FactShares$Worker", "bench", "LFactShares$Bench;", true)
  | 2 => ("FactShares$Worker", "here", "Z", false)
  | 3 => ("FactShares$Worker", "loseFrom", "I", false)
  | 4 => ("FactShares$Worker", "share", "LFactShares$Share;", false)
  | _ => ("FactShares$Worker", "nextAct", "I", false)
def tyX6 : Nat → FieldType := fun k => match k with
  | 0 => .int
  | 1 => .object "FactShares$Bench"
  | 2 => .boolean
  | 3 => .int
  | 4 => .object "FactShares$Share"
  | _ => .int
abbrev wsX60 : List Cond := u_ws RX6 TX6 6
theorem nmX6 : ∀ a, a < 6 → ∀ b, b < 6 → a ≠ b → (TX6 a).2.1 ≠ (TX6 b).2.1 := by decide +kernel
theorem tyX6_ok : ∀ k, k < 6 → parseFieldDescriptor (TX6 k).2.2.1 = some (tyX6 k) := by decide +kernel
abbrev cX6_init : ByteArray := prog_8_method_1_code
def yX6_init : MethodName := ⟨RX6, "<init>", "(I)V"⟩
abbrev cX6_isToBeLost : ByteArray := prog_8_method_2_code
def yX6_isToBeLost : MethodName := ⟨RX6, "isToBeLost", "(I)Z"⟩
abbrev cX6_begin : ByteArray := prog_8_method_3_code
def yX6_begin : MethodName := ⟨RX6, "begin", "(LFactShares$Share;)V"⟩
def RX7 : String := "FactShares"
def TX7 : u_T := fun k => match k with
  | 0 => ("FactShares", "facts", "LFactShares$Facts;", true)
  | 1 => ("FactShares", "shares", "[LFactShares$Share;", true)
  | 2 => ("FactShares", "line", "LFactShares$Line;", true)
  | 3 => ("FactShares", "crew", "LFactShares$Crew;", true)
  | 4 => ("FactShares", "tally", "LFactShares$Tally;", true)
  | 5 => ("FactShares", "shareCount", "I", false)
  | 6 => ("FactShares", "undone", "I", false)
  | 7 => ("FactShares", "widenFrom", "I", false)
  | _ => ("FactShares", "budget", "I", false)
def tyX7 : Nat → FieldType := fun k => match k with
  | 0 => .object "FactShares$Facts"
  | 1 => .array (.object "FactShares$Share")
  | 2 => .object "FactShares$Line"
  | 3 => .object "FactShares$Crew"
  | 4 => .object "FactShares$Tally"
  | 5 => .int
  | 6 => .int
  | 7 => .int
  | _ => .int
abbrev wsX70 : List Cond := u_ws RX7 TX7 9
theorem nmX7 : ∀ a, a < 9 → ∀ b, b < 9 → a ≠ b → (TX7 a).2.1 ≠ (TX7 b).2.1 := by decide +kernel
theorem tyX7_ok : ∀ k, k < 9 → parseFieldDescriptor (TX7 k).2.2.1 = some (tyX7 k) := by decide +kernel
abbrev cX7_init : ByteArray := prog_1_method_1_code
def yX7_init : MethodName := ⟨RX7, "<init>", "()V"⟩
abbrev cX7_share : ByteArray := prog_1_method_2_code
def yX7_share : MethodName := ⟨RX7, "share", "(I)I"⟩
abbrev cX7_act : ByteArray := prog_1_method_3_code
def yX7_act : MethodName := ⟨RX7, "act", "(IIII)I"⟩
abbrev cX7_fact : ByteArray := prog_1_method_4_code
def yX7_fact : MethodName := ⟨RX7, "fact", "(III)I"⟩
abbrev cX7_end : ByteArray := prog_1_method_5_code
def yX7_end : MethodName := ⟨RX7, "end", "(II)I"⟩
abbrev cX7_workers : ByteArray := prog_1_method_6_code
def yX7_workers : MethodName := ⟨RX7, "workers", "(I)I"⟩
abbrev cX7_lose : ByteArray := prog_1_method_7_code
def yX7_lose : MethodName := ⟨RX7, "lose", "(II)I"⟩
abbrev cX7_seed : ByteArray := prog_1_method_8_code
def yX7_seed : MethodName := ⟨RX7, "seed", "(I)I"⟩
abbrev cX7_set : ByteArray := prog_1_method_9_code
def yX7_set : MethodName := ⟨RX7, "set", "(II)I"⟩
abbrev cX7_run : ByteArray := prog_1_method_10_code
def yX7_run : MethodName := ⟨RX7, "run", "(I)I"⟩
abbrev cX7_told : ByteArray := prog_1_method_11_code
def yX7_told : MethodName := ⟨RX7, "told", "(I)I"⟩
abbrev cX7_doer : ByteArray := prog_1_method_12_code
def yX7_doer : MethodName := ⟨RX7, "doer", "(I)I"⟩
abbrev cX7_clear : ByteArray := prog_1_method_13_code
def yX7_clear : MethodName := ⟨RX7, "clear", "()I"⟩
abbrev cX7_isFact : ByteArray := prog_1_method_14_code
def yX7_isFact : MethodName := ⟨RX7, "isFact", "(I)Z"⟩
abbrev cX7_isEnd : ByteArray := prog_1_method_15_code
def yX7_isEnd : MethodName := ⟨RX7, "isEnd", "(I)Z"⟩
abbrev cX7_nearestEnd : ByteArray := prog_1_method_16_code
def yX7_nearestEnd : MethodName := ⟨RX7, "nearestEnd", "(I)I"⟩
abbrev cX7_isShare : ByteArray := prog_1_method_17_code
def yX7_isShare : MethodName := ⟨RX7, "isShare", "(I)Z"⟩
abbrev cX7_playRound : ByteArray := prog_1_method_18_code
def yX7_playRound : MethodName := ⟨RX7, "playRound", "(I)I"⟩
abbrev cX7_beginRound : ByteArray := prog_1_method_19_code
def yX7_beginRound : MethodName := ⟨RX7, "beginRound", "()V"⟩
abbrev cX7_playTurn : ByteArray := prog_1_method_20_code
def yX7_playTurn : MethodName := ⟨RX7, "playTurn", "()V"⟩
abbrev cX7_loseNow : ByteArray := prog_1_method_21_code
def yX7_loseNow : MethodName := ⟨RX7, "loseNow", "(LFactShares$Worker;)V"⟩
abbrev cX7_takeShare : ByteArray := prog_1_method_22_code
def yX7_takeShare : MethodName := ⟨RX7, "takeShare", "(LFactShares$Worker;)V"⟩
abbrev cX7_doNextAct : ByteArray := prog_1_method_23_code
def yX7_doNextAct : MethodName := ⟨RX7, "doNextAct", "(LFactShares$Worker;LFactShares$Share;)V"⟩
abbrev cX7_finish : ByteArray := prog_1_method_24_code
def yX7_finish : MethodName := ⟨RX7, "finish", "(LFactShares$Worker;LFactShares$Share;I)V"⟩
abbrev cX7_leastSpoilt : ByteArray := prog_1_method_25_code
def yX7_leastSpoilt : MethodName := ⟨RX7, "leastSpoilt", "()I"⟩
abbrev cX7_actsOfAllShares : ByteArray := prog_1_method_26_code
def yX7_actsOfAllShares : MethodName := ⟨RX7, "actsOfAllShares", "()I"⟩
abbrev cX7_joinAnswers : ByteArray := prog_1_method_27_code
def yX7_joinAnswers : MethodName := ⟨RX7, "joinAnswers", "(Z)Z"⟩
def RX8 : String := "FactSharesModel"
def TX8 : u_T := fun k => match k with
  | 0 => ("FactSharesModel", "low", "[I", true)
  | 1 => ("FactSharesModel", "high", "[I", true)
  | 2 => ("FactSharesModel", "shares", "I", false)
  | 3 => ("FactSharesModel", "aim", "[I", true)
  | 4 => ("FactSharesModel", "acts", "[I", true)
  | 5 => ("FactSharesModel", "sort", "[I", true)
  | 6 => ("FactSharesModel", "one", "[I", true)
  | 7 => ("FactSharesModel", "two", "[I", true)
  | 8 => ("FactSharesModel", "next", "[I", true)
  | 9 => ("FactSharesModel", "depth", "[I", true)
  | 10 => ("FactSharesModel", "stackLow", "[I", true)
  | 11 => ("FactSharesModel", "stackHigh", "[I", true)
  | 12 => ("FactSharesModel", "rowLow", "[I", true)
  | 13 => ("FactSharesModel", "rowHigh", "[I", true)
  | 14 => ("FactSharesModel", "spoilt", "[I", true)
  | 15 => ("FactSharesModel", "doneBy", "[I", true)
  | 16 => ("FactSharesModel", "isDone", "[Z", true)
  | 17 => ("FactSharesModel", "line", "[I", true)
  | 18 => ("FactSharesModel", "head", "I", false)
  | 19 => ("FactSharesModel", "tail", "I", false)
  | 20 => ("FactSharesModel", "isThere", "[Z", true)
  | 21 => ("FactSharesModel", "lostFrom", "[I", true)
  | 22 => ("FactSharesModel", "has", "[I", true)
  | 23 => ("FactSharesModel", "turns", "I", false)
  | 24 => ("FactSharesModel", "x", "I", false)
  | 25 => ("FactSharesModel", "latest", "I", false)
  | 26 => ("FactSharesModel", "widen", "I", false)
  | 27 => ("FactSharesModel", "budget", "I", false)
  | 28 => ("FactSharesModel", "rounds", "I", false)
  | 29 => ("FactSharesModel", "badShare", "I", false)
  | 30 => ("FactSharesModel", "badKind", "I", false)
  | 31 => ("FactSharesModel", "counted", "I", false)
  | 32 => ("FactSharesModel", "taken", "I", false)
  | _ => ("FactSharesModel", "left", "I", false)
def tyX8 : Nat → FieldType := fun k => match k with
  | 0 => .array .int
  | 1 => .array .int
  | 2 => .int
  | 3 => .array .int
  | 4 => .array .int
  | 5 => .array .int
  | 6 => .array .int
  | 7 => .array .int
  | 8 => .array .int
  | 9 => .array .int
  | 10 => .array .int
  | 11 => .array .int
  | 12 => .array .int
  | 13 => .array .int
  | 14 => .array .int
  | 15 => .array .int
  | 16 => .array .boolean
  | 17 => .array .int
  | 18 => .int
  | 19 => .int
  | 20 => .array .boolean
  | 21 => .array .int
  | 22 => .array .int
  | 23 => .int
  | 24 => .int
  | 25 => .int
  | 26 => .int
  | 27 => .int
  | 28 => .int
  | 29 => .int
  | 30 => .int
  | 31 => .int
  | 32 => .int
  | _ => .int
abbrev wsX80 : List Cond := u_ws RX8 TX8 34
theorem nmX8 : ∀ a, a < 34 → ∀ b, b < 34 → a ≠ b → (TX8 a).2.1 ≠ (TX8 b).2.1 := by decide +kernel
theorem tyX8_ok : ∀ k, k < 34 → parseFieldDescriptor (TX8 k).2.2.1 = some (tyX8 k) := by decide +kernel
abbrev cX8_init : ByteArray := prog_10_method_1_code
def yX8_init : MethodName := ⟨RX8, "<init>", "()V"⟩
abbrev cX8_isFact : ByteArray := prog_10_method_3_code
def yX8_isFact : MethodName := ⟨RX8, "isFact", "(I)Z"⟩
abbrev cX8_isEnd : ByteArray := prog_10_method_4_code
def yX8_isEnd : MethodName := ⟨RX8, "isEnd", "(I)Z"⟩
abbrev cX8_isShare : ByteArray := prog_10_method_5_code
def yX8_isShare : MethodName := ⟨RX8, "isShare", "(I)Z"⟩
abbrev cX8_share : ByteArray := prog_10_method_6_code
def yX8_share : MethodName := ⟨RX8, "share", "(I)I"⟩
abbrev cX8_act : ByteArray := prog_10_method_7_code
def yX8_act : MethodName := ⟨RX8, "act", "(IIII)I"⟩
abbrev cX8_fact : ByteArray := prog_10_method_8_code
def yX8_fact : MethodName := ⟨RX8, "fact", "(III)I"⟩
abbrev cX8_end : ByteArray := prog_10_method_9_code
def yX8_end : MethodName := ⟨RX8, "end", "(II)I"⟩
abbrev cX8_workersLeft : ByteArray := prog_10_method_10_code
def yX8_workersLeft : MethodName := ⟨RX8, "workersLeft", "()I"⟩
abbrev cX8_workers : ByteArray := prog_10_method_11_code
def yX8_workers : MethodName := ⟨RX8, "workers", "(I)I"⟩
abbrev cX8_lose : ByteArray := prog_10_method_12_code
def yX8_lose : MethodName := ⟨RX8, "lose", "(II)I"⟩
abbrev cX8_seed : ByteArray := prog_10_method_13_code
def yX8_seed : MethodName := ⟨RX8, "seed", "(I)I"⟩
abbrev cX8_set : ByteArray := prog_10_method_14_code
def yX8_set : MethodName := ⟨RX8, "set", "(II)I"⟩
abbrev cX8_nearest : ByteArray := prog_10_method_15_code
def yX8_nearest : MethodName := ⟨RX8, "nearest", "(J)I"⟩
abbrev cX8_begin : ByteArray := prog_10_method_16_code
def yX8_begin : MethodName := ⟨RX8, "begin", "(I)V"⟩
abbrev cX8_push : ByteArray := prog_10_method_17_code
def yX8_push : MethodName := ⟨RX8, "push", "(III)I"⟩
abbrev cX8_work : ByteArray := prog_10_method_18_code
def yX8_work : MethodName := ⟨RX8, "work", "(II)I"⟩
abbrev cX8_by : ByteArray := prog_10_method_19_code
def yX8_by : MethodName := ⟨RX8, "by", "(IIII)I"⟩
abbrev cX8_both : ByteArray := prog_10_method_20_code
def yX8_both : MethodName := ⟨RX8, "both", "(IIII)I"⟩
abbrev cX8_workerAt : ByteArray := prog_10_method_21_code
def yX8_workerAt : MethodName := ⟨RX8, "workerAt", "(I)I"⟩
abbrev cX8_done : ByteArray := prog_10_method_22_code
def yX8_done : MethodName := ⟨RX8, "done", "(II)V"⟩
abbrev cX8_turn : ByteArray := prog_10_method_23_code
def yX8_turn : MethodName := ⟨RX8, "turn", "()V"⟩
abbrev cX8_round : ByteArray := prog_10_method_24_code
def yX8_round : MethodName := ⟨RX8, "round", "()Z"⟩
abbrev cX8_areDone : ByteArray := prog_10_method_25_code
def yX8_areDone : MethodName := ⟨RX8, "areDone", "()Z"⟩
abbrev cX8_bound : ByteArray := prog_10_method_26_code
def yX8_bound : MethodName := ⟨RX8, "bound", "(I)I"⟩
abbrev cX8_join : ByteArray := prog_10_method_27_code
def yX8_join : MethodName := ⟨RX8, "join", "(IZ)Z"⟩
abbrev cX8_run : ByteArray := prog_10_method_28_code
def yX8_run : MethodName := ⟨RX8, "run", "(I)I"⟩
abbrev cX8_told : ByteArray := prog_10_method_29_code
def yX8_told : MethodName := ⟨RX8, "told", "(I)I"⟩
abbrev cX8_doer : ByteArray := prog_10_method_30_code
def yX8_doer : MethodName := ⟨RX8, "doer", "(I)I"⟩
abbrev cX8_clear : ByteArray := prog_10_method_31_code
def yX8_clear : MethodName := ⟨RX8, "clear", "()I"⟩
def RJ9 : String := "java/lang/Math"
def TJ9 : u_T := fun k => match k with
  | _ => ("", "", "", false)
def tyJ9 : Nat → FieldType := fun k => match k with
  | _ => .int
abbrev wsJ90 : List Cond := u_ws RJ9 TJ9 0
theorem nmJ9 : ∀ a, a < 0 → ∀ b, b < 0 → a ≠ b → (TJ9 a).2.1 ≠ (TJ9 b).2.1 := by decide +kernel
theorem tyJ9_ok : ∀ k, k < 0 → parseFieldDescriptor (TJ9 k).2.2.1 = some (tyJ9 k) := by decide +kernel
abbrev cJ9_max_7cf53 : ByteArray := prog_11_method_65_code
def yJ9_max_7cf53 : MethodName := ⟨RJ9, "max", "(II)I"⟩
abbrev cJ9_min_7cf53 : ByteArray := prog_11_method_69_code
def yJ9_min_7cf53 : MethodName := ⟨RJ9, "min", "(II)I"⟩
def RL : String := "FactSharesLaw"
abbrev cL_law : ByteArray := code
def yL_law : MethodName := ⟨RL, "law", "([I)Z"⟩
def wsL_law_r1 : List Cond := [Cond.classLink RL 7 RX7, Cond.instantiable RX7 9, Cond.initialized RX7, Cond.classLink RL 10 RX8, Cond.instantiable RX8 34, Cond.initialized RX8, Cond.methodLink RL 9 yX7_init, Cond.instanceMethod yX7_init, Cond.code yX7_init cX7_init 2 none, Cond.methodLink RX7 1 objectInit, Cond.instanceMethod objectInit, Cond.code objectInit ⟨#[0xb1]⟩ 1 none, Cond.classLink RX7 7 RX2, Cond.instantiable RX2 3, Cond.initialized RX2, Cond.fieldLink RX7 10 "FactShares" "facts" "LFactShares$Facts;", Cond.classLink RX7 16 RX4, Cond.fieldLink RX7 18 "FactShares" "shares" "[LFactShares$Share;", Cond.classLink RX7 22 RX3, Cond.instantiable RX3 3, Cond.initialized RX3, Cond.fieldLink RX7 25 "FactShares" "line" "LFactShares$Line;", Cond.classLink RX7 29 RX1, Cond.instantiable RX1 5]
def wsL_law_r2 : List Cond := [Cond.initialized RX1, Cond.fieldLink RX7 32 "FactShares" "crew" "LFactShares$Crew;", Cond.classLink RX7 36 RX5, Cond.instantiable RX5 6, Cond.initialized RX5, Cond.fieldLink RX7 39 "FactShares" "tally" "LFactShares$Tally;", Cond.fieldLink RX7 43 "FactShares" "shareCount" "I", Cond.fieldLink RX7 47 "FactShares" "undone" "I", Cond.fieldLink RX7 50 "FactShares" "widenFrom" "I", Cond.fieldLink RX7 53 "FactShares" "budget" "I", Cond.instantiable RX4 9, Cond.initialized RX4, Cond.instanceMethod yX2_init, Cond.code yX2_init cX2_init 1 none, Cond.methodLink RX2 3 objectInit, Cond.arrayClass .boolean, Cond.fieldLink RX2 9 "FactShares$Facts" "known" "[Z", Cond.arrayClass .int, Cond.fieldLink RX2 15 "FactShares$Facts" "low" "[I", Cond.fieldLink RX2 19 "FactShares$Facts" "high" "[I", Cond.instanceMethod yX3_init, Cond.code yX3_init cX3_init 1 none, Cond.methodLink RX3 3 objectInit, Cond.classLink RX3 9 RX4]
def wsL_law_r3 : List Cond := [Cond.fieldLink RX3 11 "FactShares$Line" "waiting" "[LFactShares$Share;", Cond.fieldLink RX3 17 "FactShares$Line" "first" "I", Cond.fieldLink RX3 21 "FactShares$Line" "behindLast" "I", Cond.methodLink RX7 31 yX1_init, Cond.instanceMethod yX1_init, Cond.code yX1_init cX1_init 2 none, Cond.methodLink RX1 3 objectInit, Cond.classLink RX1 11 RX6, Cond.fieldLink RX1 13 "FactShares$Crew" "all" "[LFactShares$Worker;", Cond.fieldLink RX1 17 "FactShares$Crew" "left" "I", Cond.fieldLink RX1 21 "FactShares$Crew" "x" "I", Cond.fieldLink RX1 24 "FactShares$Crew" "turns" "I", Cond.constant RX1 27 (-2000000), Cond.fieldLink RX1 28 "FactShares$Crew" "latest" "I", Cond.instantiable RX6 6, Cond.initialized RX6, Cond.methodLink RX1 31 yX6_init, Cond.instanceMethod yX6_init, Cond.code yX6_init cX6_init 2 none, Cond.methodLink RX6 1 objectInit, Cond.classLink RX6 7 RX0, Cond.instantiable RX0 6, Cond.initialized RX0, Cond.fieldLink RX6 10 "FactShares$Worker" "bench" "LFactShares$Bench;"]
def wsL_law_r4 : List Cond := [Cond.fieldLink RX6 16 "FactShares$Worker" "here" "Z", Cond.fieldLink RX6 20 "FactShares$Worker" "loseFrom" "I", Cond.fieldLink RX6 24 "FactShares$Worker" "share" "LFactShares$Share;", Cond.fieldLink RX6 28 "FactShares$Worker" "nextAct" "I", Cond.fieldLink RX6 31 "FactShares$Worker" "number" "I", Cond.instanceMethod yX0_init, Cond.code yX0_init cX0_init 1 none, Cond.methodLink RX0 1 objectInit, Cond.fieldLink RX0 9 "FactShares$Bench" "low" "[I", Cond.fieldLink RX0 13 "FactShares$Bench" "high" "[I", Cond.fieldLink RX0 16 "FactShares$Bench" "height" "I", Cond.fieldLink RX0 20 "FactShares$Bench" "rowKnown" "[Z", Cond.fieldLink RX0 24 "FactShares$Bench" "rowLow" "[I", Cond.fieldLink RX0 27 "FactShares$Bench" "rowHigh" "[I", Cond.methodLink RX1 34 yX1_hire, Cond.instanceMethod yX1_hire, Cond.selects RX1 yX1_hire yX1_hire, Cond.code yX1_hire cX1_hire 3 none, Cond.fieldLink RX1 37 "FactShares$Worker" "here" "Z", Cond.fieldLink RX1 41 "FactShares$Worker" "loseFrom" "I", Cond.instanceMethod yX5_init, Cond.code yX5_init cX5_init 1 none, Cond.methodLink RX5 3 objectInit, Cond.fieldLink RX5 9 "FactShares$Tally" "rounds" "I"]
def wsL_law_r5 : List Cond := [Cond.constant RX5 15 (-2000000), Cond.fieldLink RX5 16 "FactShares$Tally" "spoilt" "I", Cond.fieldLink RX5 21 "FactShares$Tally" "refusal" "I", Cond.fieldLink RX5 24 "FactShares$Tally" "acts" "I", Cond.fieldLink RX5 27 "FactShares$Tally" "taken" "I", Cond.fieldLink RX5 30 "FactShares$Tally" "left" "I", Cond.instanceMethod yX4_init, Cond.code yX4_init cX4_init 1 none, Cond.methodLink RX4 3 objectInit, Cond.fieldLink RX4 11 "FactShares$Share" "sort" "[I", Cond.fieldLink RX4 15 "FactShares$Share" "a" "[I", Cond.fieldLink RX4 18 "FactShares$Share" "b" "[I", Cond.fieldLink RX4 21 "FactShares$Share" "aim" "I", Cond.fieldLink RX4 25 "FactShares$Share" "actCount" "I", Cond.constant RX4 28 (-2000000), Cond.fieldLink RX4 29 "FactShares$Share" "doneBy" "I", Cond.fieldLink RX4 34 "FactShares$Share" "refusal" "I", Cond.fieldLink RX4 37 "FactShares$Share" "answerLow" "I", Cond.fieldLink RX4 40 "FactShares$Share" "answerHigh" "I", Cond.methodLink RL 12 yX8_init, Cond.instanceMethod yX8_init, Cond.code yX8_init cX8_init 2 none, Cond.methodLink RX8 1 objectInit, Cond.fieldLink RX8 7 "FactSharesModel" "low" "[I"]
def wsL_law_r6 : List Cond := [Cond.fieldLink RX8 13 "FactSharesModel" "high" "[I", Cond.fieldLink RX8 16 "FactSharesModel" "aim" "[I", Cond.fieldLink RX8 19 "FactSharesModel" "acts" "[I", Cond.fieldLink RX8 22 "FactSharesModel" "sort" "[I", Cond.fieldLink RX8 25 "FactSharesModel" "one" "[I", Cond.fieldLink RX8 28 "FactSharesModel" "two" "[I", Cond.fieldLink RX8 31 "FactSharesModel" "next" "[I", Cond.fieldLink RX8 34 "FactSharesModel" "depth" "[I", Cond.fieldLink RX8 37 "FactSharesModel" "stackLow" "[I", Cond.fieldLink RX8 40 "FactSharesModel" "stackHigh" "[I", Cond.fieldLink RX8 43 "FactSharesModel" "rowLow" "[I", Cond.fieldLink RX8 46 "FactSharesModel" "rowHigh" "[I", Cond.fieldLink RX8 49 "FactSharesModel" "spoilt" "[I", Cond.fieldLink RX8 52 "FactSharesModel" "doneBy" "[I", Cond.fieldLink RX8 55 "FactSharesModel" "isDone" "[Z", Cond.fieldLink RX8 59 "FactSharesModel" "line" "[I", Cond.fieldLink RX8 62 "FactSharesModel" "isThere" "[Z", Cond.fieldLink RX8 65 "FactSharesModel" "lostFrom" "[I", Cond.fieldLink RX8 68 "FactSharesModel" "has" "[I", Cond.constant RX8 71 (-2000000), Cond.fieldLink RX8 72 "FactSharesModel" "latest" "I", Cond.fieldLink RX8 76 "FactSharesModel" "widen" "I", Cond.fieldLink RX8 79 "FactSharesModel" "budget" "I", Cond.fieldLink RX8 82 "FactSharesModel" "badShare" "I"]
def wsL_law_r7 : List Cond := [Cond.methodLink RL 13 yX7_share, Cond.instanceMethod yX7_share, Cond.selects RX7 yX7_share yX7_share, Cond.code yX7_share cX7_share 2 (some .int), Cond.constant RX7 61 (-2000001), Cond.constant RX7 62 (-2000003), Cond.fieldLink RX7 63 "FactShares$Share" "aim" "I", Cond.methodLink RX7 57 yX7_isFact, Cond.static yX7_isFact, Cond.code yX7_isFact cX7_isFact 1 (some .boolean), Cond.methodLink RL 17 yX8_share, Cond.instanceMethod yX8_share, Cond.selects RX8 yX8_share yX8_share, Cond.code yX8_share cX8_share 2 (some .int), Cond.constant RX8 94 (-2000001), Cond.fieldLink RX8 87 "FactSharesModel" "shares" "I", Cond.constant RX8 95 (-2000003), Cond.methodLink RX8 90 yX8_isFact, Cond.static yX8_isFact, Cond.code yX8_isFact cX8_isFact 1 (some .boolean), Cond.methodLink RL 18 yX7_act, Cond.instanceMethod yX7_act, Cond.selects RX7 yX7_act yX7_act, Cond.code yX7_act cX7_act 5 (some .int)]
def wsL_law_r8 : List Cond := [Cond.constant RX7 71 (-2000002), Cond.fieldLink RX7 79 "FactShares$Share" "actCount" "I", Cond.methodLink RX7 66 yX7_isShare, Cond.instanceMethod yX7_isShare, Cond.selects RX7 yX7_isShare yX7_isShare, Cond.code yX7_isShare cX7_isShare 2 (some .boolean), Cond.methodLink RX7 72 yX7_isEnd, Cond.static yX7_isEnd, Cond.code yX7_isEnd cX7_isEnd 1 (some .boolean), Cond.constant RX7 157 (-1000000), Cond.constant RX7 158 (1000000), Cond.methodLink RX7 75 yX4_addAct, Cond.instanceMethod yX4_addAct, Cond.selects RX4 yX4_addAct yX4_addAct, Cond.code yX4_addAct cX4_addAct 4 (some .boolean), Cond.methodLink RL 22 yX8_act, Cond.instanceMethod yX8_act, Cond.selects RX8 yX8_act yX8_act, Cond.code yX8_act cX8_act 5 (some .int), Cond.constant RX8 102 (-2000002), Cond.methodLink RX8 96 yX8_isShare, Cond.instanceMethod yX8_isShare, Cond.selects RX8 yX8_isShare yX8_isShare, Cond.code yX8_isShare cX8_isShare 2 (some .boolean)]
def wsL_law_r9 : List Cond := [Cond.methodLink RX8 99 yX8_isEnd, Cond.static yX8_isEnd, Cond.code yX8_isEnd cX8_isEnd 1 (some .boolean), Cond.constant RX8 85 (-1000000), Cond.constant RX8 86 (1000000), Cond.methodLink RL 23 yX7_fact, Cond.instanceMethod yX7_fact, Cond.selects RX7 yX7_fact yX7_fact, Cond.code yX7_fact cX7_fact 4 (some .int), Cond.methodLink RX7 82 yX2_put, Cond.instanceMethod yX2_put, Cond.selects RX2 yX2_put yX2_put, Cond.code yX2_put cX2_put 4 none, Cond.methodLink RL 27 yX8_fact, Cond.instanceMethod yX8_fact, Cond.selects RX8 yX8_fact yX8_fact, Cond.code yX8_fact cX8_fact 4 (some .int), Cond.methodLink RL 28 yX7_end, Cond.instanceMethod yX7_end, Cond.selects RX7 yX7_end yX7_end, Cond.code yX7_end cX7_end 3 (some .int), Cond.fieldLink RX7 86 "FactShares$Facts" "known" "[Z", Cond.constant RX7 90 (-2000000), Cond.fieldLink RX7 91 "FactShares$Facts" "low" "[I"]
def wsL_law_r10 : List Cond := [Cond.fieldLink RX7 95 "FactShares$Facts" "high" "[I", Cond.methodLink RL 32 yX8_end, Cond.instanceMethod yX8_end, Cond.selects RX8 yX8_end yX8_end, Cond.code yX8_end cX8_end 3 (some .int), Cond.methodLink RL 33 yX7_workers, Cond.instanceMethod yX7_workers, Cond.selects RX7 yX7_workers yX7_workers, Cond.code yX7_workers cX7_workers 3 (some .int), Cond.fieldLink RX7 98 "FactShares$Crew" "left" "I", Cond.methodLink RX7 101 yX1_hire, Cond.methodLink RL 36 yX8_workers, Cond.instanceMethod yX8_workers, Cond.selects RX8 yX8_workers yX8_workers, Cond.code yX8_workers cX8_workers 4 (some .int), Cond.methodLink RX8 103 yX8_workersLeft, Cond.instanceMethod yX8_workersLeft, Cond.selects RX8 yX8_workersLeft yX8_workersLeft, Cond.code yX8_workersLeft cX8_workersLeft 3 (some .int), Cond.methodLink RL 37 yX7_lose, Cond.instanceMethod yX7_lose, Cond.selects RX7 yX7_lose yX7_lose, Cond.code yX7_lose cX7_lose 3 (some .int), Cond.constant RX7 108 (100000)]
def wsL_law_r11 : List Cond := [Cond.fieldLink RX7 109 "FactShares$Crew" "all" "[LFactShares$Worker;", Cond.fieldLink RX7 113 "FactShares$Worker" "loseFrom" "I", Cond.methodLink RX7 105 yX1_isHere, Cond.instanceMethod yX1_isHere, Cond.selects RX1 yX1_isHere yX1_isHere, Cond.code yX1_isHere cX1_isHere 2 (some .boolean), Cond.methodLink RL 40 yX8_lose, Cond.instanceMethod yX8_lose, Cond.selects RX8 yX8_lose yX8_lose, Cond.code yX8_lose cX8_lose 3 (some .int), Cond.constant RX8 107 (100000), Cond.methodLink RL 41 yX7_seed, Cond.instanceMethod yX7_seed, Cond.selects RX7 yX7_seed yX7_seed, Cond.code yX7_seed cX7_seed 3 (some .int), Cond.fieldLink RX7 118 "FactShares$Crew" "x" "I", Cond.methodLink RL 44 yX8_seed, Cond.instanceMethod yX8_seed, Cond.selects RX8 yX8_seed yX8_seed, Cond.code yX8_seed cX8_seed 3 (some .int), Cond.fieldLink RX8 108 "FactSharesModel" "x" "I", Cond.methodLink RL 45 yX7_set, Cond.instanceMethod yX7_set, Cond.selects RX7 yX7_set yX7_set]
def wsL_law_r12 : List Cond := [Cond.code yX7_set cX7_set 4 (some .int), Cond.methodLink RL 48 yX8_set, Cond.instanceMethod yX8_set, Cond.selects RX8 yX8_set yX8_set, Cond.code yX8_set cX8_set 4 (some .int), Cond.methodLink RL 49 yX7_run, Cond.instanceMethod yX7_run, Cond.selects RX7 yX7_run yX7_run, Cond.code yX7_run cX7_run 4 (some .int), Cond.methodLink RX7 121 yX5_beginRun, Cond.instanceMethod yX5_beginRun, Cond.selects RX5 yX5_beginRun yX5_beginRun, Cond.code yX5_beginRun cX5_beginRun 1 none, Cond.methodLink RX7 124 yX7_playRound, Cond.instanceMethod yX7_playRound, Cond.selects RX7 yX7_playRound yX7_playRound, Cond.code yX7_playRound cX7_playRound 4 (some .int), Cond.fieldLink RX7 131 "FactShares$Tally" "spoilt" "I", Cond.fieldLink RX7 168 "FactShares$Share" "refusal" "I", Cond.fieldLink RX7 134 "FactShares$Tally" "refusal" "I", Cond.fieldLink RX7 137 "FactShares$Tally" "acts" "I", Cond.fieldLink RX7 128 "FactShares$Tally" "rounds" "I", Cond.methodLink RX7 159 yX7_beginRound, Cond.instanceMethod yX7_beginRound]
def wsL_law_r13 : List Cond := [Cond.selects RX7 yX7_beginRound yX7_beginRound, Cond.code yX7_beginRound cX7_beginRound 2 none, Cond.fieldLink RX7 150 "FactShares$Share" "doneBy" "I", Cond.methodLink RX7 176 yX3_fill, Cond.instanceMethod yX3_fill, Cond.selects RX3 yX3_fill yX3_fill, Cond.code yX3_fill cX3_fill 4 none, Cond.methodLink RX3 24 Lib.Math.min.name, Cond.static Lib.Math.min.name, Cond.initialized "java/lang/Math", Cond.code Lib.Math.min.name Lib.Math.min.code 2 (some .int), Cond.methodLink RX7 162 yX7_playTurn, Cond.instanceMethod yX7_playTurn, Cond.selects RX7 yX7_playTurn yX7_playTurn, Cond.code yX7_playTurn cX7_playTurn 2 none, Cond.fieldLink RX7 144 "FactShares$Crew" "turns" "I", Cond.fieldLink RX7 191 "FactShares$Worker" "share" "LFactShares$Share;", Cond.methodLink RX7 180 yX1_nextToMove, Cond.instanceMethod yX1_nextToMove, Cond.selects RX1 yX1_nextToMove yX1_nextToMove, Cond.code yX1_nextToMove cX1_nextToMove 2 (some (.object "FactShares$Worker")), Cond.constant RX1 44 (1103515245), Cond.fieldLink RX1 49 "FactShares$Worker" "number" "I", Cond.methodLink RX1 45 yX1_leftAt]
def wsL_law_r14 : List Cond := [Cond.instanceMethod yX1_leftAt, Cond.selects RX1 yX1_leftAt yX1_leftAt, Cond.code yX1_leftAt cX1_leftAt 4 (some (.object "FactShares$Worker")), Cond.methodLink RX7 184 yX6_isToBeLost, Cond.instanceMethod yX6_isToBeLost, Cond.selects RX6 yX6_isToBeLost yX6_isToBeLost, Cond.code yX6_isToBeLost cX6_isToBeLost 2 (some .boolean), Cond.methodLink RX7 187 yX7_loseNow, Cond.instanceMethod yX7_loseNow, Cond.selects RX7 yX7_loseNow yX7_loseNow, Cond.code yX7_loseNow cX7_loseNow 2 none, Cond.fieldLink RX7 143 "FactShares$Tally" "left" "I", Cond.methodLink RX7 202 yX3_putInFront, Cond.instanceMethod yX3_putInFront, Cond.selects RX3 yX3_putInFront yX3_putInFront, Cond.code yX3_putInFront cX3_putInFront 2 none, Cond.methodLink RX7 206 yX1_remove, Cond.instanceMethod yX1_remove, Cond.selects RX1 yX1_remove yX1_remove, Cond.code yX1_remove cX1_remove 2 none, Cond.methodLink RX7 195 yX7_takeShare, Cond.instanceMethod yX7_takeShare, Cond.selects RX7 yX7_takeShare yX7_takeShare, Cond.code yX7_takeShare cX7_takeShare 3 none]
def wsL_law_r15 : List Cond := [Cond.fieldLink RX7 140 "FactShares$Tally" "taken" "I", Cond.methodLink RX7 209 yX3_takeFirst, Cond.instanceMethod yX3_takeFirst, Cond.selects RX3 yX3_takeFirst yX3_takeFirst, Cond.code yX3_takeFirst cX3_takeFirst 1 (some (.object "FactShares$Share")), Cond.methodLink RX7 213 yX6_begin, Cond.instanceMethod yX6_begin, Cond.selects RX6 yX6_begin yX6_begin, Cond.code yX6_begin cX6_begin 2 none, Cond.methodLink RX6 34 yX0_empty, Cond.instanceMethod yX0_empty, Cond.selects RX0 yX0_empty yX0_empty, Cond.code yX0_empty cX0_empty 2 none, Cond.methodLink RX7 216 yX7_finish, Cond.instanceMethod yX7_finish, Cond.selects RX7 yX7_finish yX7_finish, Cond.code yX7_finish cX7_finish 4 none, Cond.fieldLink RX7 223 "FactShares$Worker" "bench" "LFactShares$Bench;", Cond.fieldLink RX7 244 "FactShares$Worker" "number" "I", Cond.methodLink RX7 240 yX0_giveAnswer, Cond.instanceMethod yX0_giveAnswer, Cond.selects RX0 yX0_giveAnswer yX0_giveAnswer, Cond.code yX0_giveAnswer cX0_giveAnswer 2 (some .int), Cond.fieldLink RX0 55 "FactShares$Share" "answerLow" "I"]
def wsL_law_r16 : List Cond := [Cond.fieldLink RX0 60 "FactShares$Share" "answerHigh" "I", Cond.methodLink RX7 198 yX7_doNextAct, Cond.instanceMethod yX7_doNextAct, Cond.selects RX7 yX7_doNextAct yX7_doNextAct, Cond.code yX7_doNextAct cX7_doNextAct 5 none, Cond.fieldLink RX7 220 "FactShares$Worker" "nextAct" "I", Cond.fieldLink RX7 227 "FactShares$Share" "sort" "[I", Cond.fieldLink RX7 230 "FactShares$Share" "a" "[I", Cond.fieldLink RX7 233 "FactShares$Share" "b" "[I", Cond.methodLink RX7 236 yX0_doAct, Cond.instanceMethod yX0_doAct, Cond.selects RX0 yX0_doAct yX0_doAct, Cond.code yX0_doAct cX0_doAct 5 (some .int), Cond.methodLink RX0 30 yX0_push, Cond.instanceMethod yX0_push, Cond.selects RX0 yX0_push yX0_push, Cond.code yX0_push cX0_push 3 (some .int), Cond.methodLink RX0 34 yX0_pushFact, Cond.instanceMethod yX0_pushFact, Cond.selects RX0 yX0_pushFact yX0_pushFact, Cond.code yX0_pushFact cX0_pushFact 3 (some .int), Cond.fieldLink RX0 69 "FactShares$Facts" "known" "[Z", Cond.fieldLink RX0 74 "FactShares$Facts" "low" "[I", Cond.fieldLink RX0 75 "FactShares$Facts" "high" "[I"]
def wsL_law_r17 : List Cond := [Cond.methodLink RX0 38 yX0_joinUpperTwo, Cond.instanceMethod yX0_joinUpperTwo, Cond.selects RX0 yX0_joinUpperTwo yX0_joinUpperTwo, Cond.code yX0_joinUpperTwo cX0_joinUpperTwo 4 (some .int), Cond.methodLink RX0 79 Lib.Math.max.name, Cond.static Lib.Math.max.name, Cond.code Lib.Math.max.name Lib.Math.max.code 2 (some .int), Cond.methodLink RX0 84 Lib.Math.min.name, Cond.static yX7_nearestEnd, Cond.code yX7_nearestEnd cX7_nearestEnd 1 (some .int), Cond.methodLink RX0 42 yX0_divideUpper, Cond.instanceMethod yX0_divideUpper, Cond.selects RX0 yX0_divideUpper yX0_divideUpper, Cond.code yX0_divideUpper cX0_divideUpper 5 (some .int), Cond.methodLink RX0 45 yX0_testPoint, Cond.instanceMethod yX0_testPoint, Cond.selects RX0 yX0_testPoint yX0_testPoint, Cond.code yX0_testPoint cX0_testPoint 1 (some .int), Cond.methodLink RX0 49 yX0_keepUpper, Cond.instanceMethod yX0_keepUpper, Cond.selects RX0 yX0_keepUpper yX0_keepUpper, Cond.code yX0_keepUpper cX0_keepUpper 2 (some .int), Cond.methodLink RX0 87 yX0_isItem, Cond.static yX0_isItem]
def wsL_law_r18 : List Cond := [Cond.code yX0_isItem cX0_isItem 1 (some .boolean), Cond.methodLink RX0 52 yX0_takeItem, Cond.instanceMethod yX0_takeItem, Cond.selects RX0 yX0_takeItem yX0_takeItem, Cond.code yX0_takeItem cX0_takeItem 2 (some .int), Cond.methodLink RX7 165 yX7_leastSpoilt, Cond.instanceMethod yX7_leastSpoilt, Cond.selects RX7 yX7_leastSpoilt yX7_leastSpoilt, Cond.code yX7_leastSpoilt cX7_leastSpoilt 2 (some .int), Cond.methodLink RX7 169 yX7_actsOfAllShares, Cond.instanceMethod yX7_actsOfAllShares, Cond.selects RX7 yX7_actsOfAllShares yX7_actsOfAllShares, Cond.code yX7_actsOfAllShares cX7_actsOfAllShares 3 (some .int), Cond.methodLink RX7 172 yX7_joinAnswers, Cond.instanceMethod yX7_joinAnswers, Cond.selects RX7 yX7_joinAnswers yX7_joinAnswers, Cond.code yX7_joinAnswers cX7_joinAnswers 4 (some .boolean), Cond.methodLink RX7 247 yX2_join, Cond.instanceMethod yX2_join, Cond.selects RX2 yX2_join yX2_join, Cond.code yX2_join cX2_join 6 (some .boolean), Cond.fieldLink RX2 26 "FactShares$Share" "aim" "I", Cond.fieldLink RX2 32 "FactShares$Share" "answerLow" "I", Cond.fieldLink RX2 35 "FactShares$Share" "answerHigh" "I"]
def wsL_law_r19 : List Cond := [Cond.methodLink RX2 38 yX2_put, Cond.methodLink RX2 42 yX2_boundBelow, Cond.static yX2_boundBelow, Cond.code yX2_boundBelow cX2_boundBelow 2 (some .int), Cond.fieldLink RX2 49 "FactShares$Facts" "BOUNDS" "[I", Cond.constant RX2 52 (-1000000), Cond.methodLink RX2 46 yX2_boundAbove, Cond.static yX2_boundAbove, Cond.code yX2_boundAbove cX2_boundAbove 2 (some .int), Cond.constant RX2 53 (1000000), Cond.methodLink RL 52 yX8_run, Cond.instanceMethod yX8_run, Cond.selects RX8 yX8_run yX8_run, Cond.code yX8_run cX8_run 6 (some .int), Cond.fieldLink RX8 172 "FactSharesModel" "rounds" "I", Cond.fieldLink RX8 175 "FactSharesModel" "badKind" "I", Cond.fieldLink RX8 178 "FactSharesModel" "counted" "I", Cond.fieldLink RX8 147 "FactSharesModel" "taken" "I", Cond.fieldLink RX8 130 "FactSharesModel" "left" "I", Cond.methodLink RX8 181 yX8_round, Cond.instanceMethod yX8_round, Cond.selects RX8 yX8_round yX8_round, Cond.code yX8_round cX8_round 2 (some .boolean), Cond.fieldLink RX8 141 "FactSharesModel" "head" "I"]
def wsL_law_r20 : List Cond := [Cond.fieldLink RX8 144 "FactSharesModel" "tail" "I", Cond.methodLink RX8 162 yX8_areDone, Cond.instanceMethod yX8_areDone, Cond.selects RX8 yX8_areDone yX8_areDone, Cond.code yX8_areDone cX8_areDone 2 (some .boolean), Cond.methodLink RX8 166 yX8_turn, Cond.instanceMethod yX8_turn, Cond.selects RX8 yX8_turn yX8_turn, Cond.code yX8_turn cX8_turn 3 none, Cond.fieldLink RX8 133 "FactSharesModel" "turns" "I", Cond.constant RX8 136 (1103515245), Cond.methodLink RX8 137 yX8_workerAt, Cond.instanceMethod yX8_workerAt, Cond.selects RX8 yX8_workerAt yX8_workerAt, Cond.code yX8_workerAt cX8_workerAt 4 (some .int), Cond.methodLink RX8 150 yX8_begin, Cond.instanceMethod yX8_begin, Cond.selects RX8 yX8_begin yX8_begin, Cond.code yX8_begin cX8_begin 3 none, Cond.methodLink RX8 154 yX8_done, Cond.instanceMethod yX8_done, Cond.selects RX8 yX8_done yX8_done, Cond.code yX8_done cX8_done 3 none, Cond.methodLink RX8 158 yX8_work]
def wsL_law_r21 : List Cond := [Cond.instanceMethod yX8_work, Cond.selects RX8 yX8_work yX8_work, Cond.code yX8_work cX8_work 8 (some .int), Cond.methodLink RX8 115 yX8_push, Cond.instanceMethod yX8_push, Cond.selects RX8 yX8_push yX8_push, Cond.code yX8_push cX8_push 4 (some .int), Cond.methodLink RX8 119 yX8_by, Cond.instanceMethod yX8_by, Cond.selects RX8 yX8_by yX8_by, Cond.code yX8_by cX8_by 7 (some .int), Cond.methodLink RX8 126 yX8_nearest, Cond.static yX8_nearest, Cond.code yX8_nearest cX8_nearest 2 (some .int), Cond.constantLong RX8 111 (-1000000), Cond.constantLong RX8 113 (1000000), Cond.methodLink RX8 123 yX8_both, Cond.instanceMethod yX8_both, Cond.selects RX8 yX8_both yX8_both, Cond.code yX8_both cX8_both 9 (some .int), Cond.methodLink RX8 184 yX8_join, Cond.instanceMethod yX8_join, Cond.selects RX8 yX8_join yX8_join, Cond.code yX8_join cX8_join 8 (some .boolean)]
def wsL_law_r22 : List Cond := [Cond.methodLink RX8 169 yX8_bound, Cond.static yX8_bound, Cond.code yX8_bound cX8_bound 1 (some .int), Cond.methodLink RL 53 yX7_told, Cond.instanceMethod yX7_told, Cond.selects RX7 yX7_told yX7_told, Cond.code yX7_told cX7_told 2 (some .int), Cond.fieldLink RX7 147 "FactShares$Crew" "latest" "I", Cond.methodLink RL 56 yX8_told, Cond.instanceMethod yX8_told, Cond.selects RX8 yX8_told yX8_told, Cond.code yX8_told cX8_told 2 (some .int), Cond.methodLink RL 57 yX7_doer, Cond.instanceMethod yX7_doer, Cond.selects RX7 yX7_doer yX7_doer, Cond.code yX7_doer cX7_doer 2 (some .int), Cond.methodLink RL 60 yX8_doer, Cond.instanceMethod yX8_doer, Cond.selects RX8 yX8_doer yX8_doer, Cond.code yX8_doer cX8_doer 2 (some .int), Cond.methodLink RL 61 yX7_clear, Cond.instanceMethod yX7_clear, Cond.selects RX7 yX7_clear yX7_clear, Cond.code yX7_clear cX7_clear 1 (some .int)]
def wsL_law_r23 : List Cond := [Cond.methodLink RX7 153 yX2_forgetAll, Cond.instanceMethod yX2_forgetAll, Cond.selects RX2 yX2_forgetAll yX2_forgetAll, Cond.code yX2_forgetAll cX2_forgetAll 3 (some .int), Cond.methodLink RL 65 yX8_clear, Cond.instanceMethod yX8_clear, Cond.selects RX8 yX8_clear yX8_clear, Cond.code yX8_clear cX8_clear 3 (some .int)]
def wsL_law : List Cond := (wsL_law_r1 ++ (wsL_law_r2 ++ (wsL_law_r3 ++ (wsL_law_r4 ++ (wsL_law_r5 ++ (wsL_law_r6 ++ (wsL_law_r7 ++ (wsL_law_r8 ++ (wsL_law_r9 ++ (wsL_law_r10 ++ (wsL_law_r11 ++ (wsL_law_r12 ++ (wsL_law_r13 ++ (wsL_law_r14 ++ (wsL_law_r15 ++ (wsL_law_r16 ++ (wsL_law_r17 ++ (wsL_law_r18 ++ (wsL_law_r19 ++ (wsL_law_r20 ++ (wsL_law_r21 ++ (wsL_law_r22 ++ wsL_law_r23)))))))))))))))))))))) ++ wsX70 ++ wsX80 ++ wsX20 ++ wsX30 ++ wsX10 ++ wsX50 ++ wsX40 ++ wsX60 ++ wsX00 ++ ([] : List Cond)
theorem inlX0 : ∀ w ∈ wsX00, w ∈ wsL_law := fun _ h => List.mem_append_left _ (List.mem_append_right _ h)
theorem inlX1 : ∀ w ∈ wsX10, w ∈ wsL_law := fun _ h => List.mem_append_left _ (List.mem_append_left _ (List.mem_append_left _ (List.mem_append_left _ (List.mem_append_left _ (List.mem_append_right _ h)))))
theorem inlX2 : ∀ w ∈ wsX20, w ∈ wsL_law := fun _ h => List.mem_append_left _ (List.mem_append_left _ (List.mem_append_left _ (List.mem_append_left _ (List.mem_append_left _ (List.mem_append_left _ (List.mem_append_left _ (List.mem_append_right _ h)))))))
theorem inlX3 : ∀ w ∈ wsX30, w ∈ wsL_law := fun _ h => List.mem_append_left _ (List.mem_append_left _ (List.mem_append_left _ (List.mem_append_left _ (List.mem_append_left _ (List.mem_append_left _ (List.mem_append_right _ h))))))
theorem inlX4 : ∀ w ∈ wsX40, w ∈ wsL_law := fun _ h => List.mem_append_left _ (List.mem_append_left _ (List.mem_append_left _ (List.mem_append_right _ h)))
theorem inlX5 : ∀ w ∈ wsX50, w ∈ wsL_law := fun _ h => List.mem_append_left _ (List.mem_append_left _ (List.mem_append_left _ (List.mem_append_left _ (List.mem_append_right _ h))))
theorem inlX6 : ∀ w ∈ wsX60, w ∈ wsL_law := fun _ h => List.mem_append_left _ (List.mem_append_left _ (List.mem_append_right _ h))
theorem inlX7 : ∀ w ∈ wsX70, w ∈ wsL_law := fun _ h => List.mem_append_left _ (List.mem_append_left _ (List.mem_append_left _ (List.mem_append_left _ (List.mem_append_left _ (List.mem_append_left _ (List.mem_append_left _ (List.mem_append_left _ (List.mem_append_left _ (List.mem_append_right _ h)))))))))
theorem inlX8 : ∀ w ∈ wsX80, w ∈ wsL_law := fun _ h => List.mem_append_left _ (List.mem_append_left _ (List.mem_append_left _ (List.mem_append_left _ (List.mem_append_left _ (List.mem_append_left _ (List.mem_append_left _ (List.mem_append_left _ (List.mem_append_right _ h))))))))
abbrev vwCl : List vw_C := [(RX0, TX0, 6), (RX1, TX1, 5), (RX2, TX2, 3), (RX3, TX3, 3), (RX4, TX4, 9), (RX5, TX5, 6), (RX6, TX6, 6), (RX7, TX7, 9), (RX8, TX8, 34)]
end
section
theorem dX0_init_0 : decode cX0_init 0 = .ok (.aload_n 0, 1) := by decide +kernel
theorem dX0_init_1 : decode cX0_init 1 = .ok (.invokespecial 1, 3) := by decide +kernel
theorem dX0_init_4 : decode cX0_init 4 = .ok (.aload_n 0, 1) := by decide +kernel
theorem dX0_init_5 : decode cX0_init 5 = .ok (.iconst 3, 1) := by decide +kernel
theorem dX0_init_6 : decode cX0_init 6 = .ok (.newarray .int, 2) := by decide +kernel
theorem dX0_init_8 : decode cX0_init 8 = .ok (.putfield 9, 3) := by decide +kernel
theorem dX0_init_11 : decode cX0_init 11 = .ok (.aload_n 0, 1) := by decide +kernel
theorem dX0_init_12 : decode cX0_init 12 = .ok (.iconst 3, 1) := by decide +kernel
theorem dX0_init_13 : decode cX0_init 13 = .ok (.newarray .int, 2) := by decide +kernel
theorem dX0_init_15 : decode cX0_init 15 = .ok (.putfield 13, 3) := by decide +kernel
theorem dX0_init_18 : decode cX0_init 18 = .ok (.aload_n 0, 1) := by decide +kernel
theorem dX0_init_19 : decode cX0_init 19 = .ok (.iconst 0, 1) := by decide +kernel
theorem dX0_init_20 : decode cX0_init 20 = .ok (.putfield 16, 3) := by decide +kernel
theorem dX0_init_23 : decode cX0_init 23 = .ok (.aload_n 0, 1) := by decide +kernel
theorem dX0_init_24 : decode cX0_init 24 = .ok (.iconst 3, 1) := by decide +kernel
theorem dX0_init_25 : decode cX0_init 25 = .ok (.newarray .boolean, 2) := by decide +kernel
theorem dX0_init_27 : decode cX0_init 27 = .ok (.putfield 20, 3) := by decide +kernel
theorem dX0_init_30 : decode cX0_init 30 = .ok (.aload_n 0, 1) := by decide +kernel
theorem dX0_init_31 : decode cX0_init 31 = .ok (.iconst 3, 1) := by decide +kernel
theorem dX0_init_32 : decode cX0_init 32 = .ok (.newarray .int, 2) := by decide +kernel
theorem dX0_init_34 : decode cX0_init 34 = .ok (.putfield 24, 3) := by decide +kernel
theorem dX0_init_37 : decode cX0_init 37 = .ok (.aload_n 0, 1) := by decide +kernel
theorem dX0_init_38 : decode cX0_init 38 = .ok (.iconst 3, 1) := by decide +kernel
theorem dX0_init_39 : decode cX0_init 39 = .ok (.newarray .int, 2) := by decide +kernel
theorem dX0_init_41 : decode cX0_init 41 = .ok (.putfield 27, 3) := by decide +kernel
theorem dX0_init_44 : decode cX0_init 44 = .ok (.return_, 1) := by decide +kernel
theorem dX0_empty_0 : decode cX0_empty 0 = .ok (.aload_n 0, 1) := by decide +kernel
theorem dX0_empty_1 : decode cX0_empty 1 = .ok (.iconst 0, 1) := by decide +kernel
theorem dX0_empty_2 : decode cX0_empty 2 = .ok (.putfield 16, 3) := by decide +kernel
theorem dX0_empty_5 : decode cX0_empty 5 = .ok (.iconst 0, 1) := by decide +kernel
theorem dX0_empty_6 : decode cX0_empty 6 = .ok (.istore_n 1, 1) := by decide +kernel
theorem dX0_empty_7 : decode cX0_empty 7 = .ok (.iload_n 1, 1) := by decide +kernel
theorem dX0_empty_8 : decode cX0_empty 8 = .ok (.iconst 3, 1) := by decide +kernel
theorem dX0_empty_9 : decode cX0_empty 9 = .ok (.if_icmp .ge 16, 3) := by decide +kernel
theorem dX0_empty_12 : decode cX0_empty 12 = .ok (.aload_n 0, 1) := by decide +kernel
theorem dX0_empty_13 : decode cX0_empty 13 = .ok (.getfield 20, 3) := by decide +kernel
theorem dX0_empty_16 : decode cX0_empty 16 = .ok (.iload_n 1, 1) := by decide +kernel
theorem dX0_empty_17 : decode cX0_empty 17 = .ok (.iconst 0, 1) := by decide +kernel
theorem dX0_empty_18 : decode cX0_empty 18 = .ok (.bastore, 1) := by decide +kernel
theorem dX0_empty_19 : decode cX0_empty 19 = .ok (.iinc 1 1, 3) := by decide +kernel
theorem dX0_empty_22 : decode cX0_empty 22 = .ok (.goto (-15), 3) := by decide +kernel
theorem dX0_empty_25 : decode cX0_empty 25 = .ok (.return_, 1) := by decide +kernel
theorem dX0_doAct_0 : decode cX0_doAct 0 = .ok (.iload_n 1, 1) := by decide +kernel
theorem dX0_doAct_1 : decode cX0_doAct 1 = .ok (.tableswitch 98 0 8 #[51, 67, 75, 75, 75, 75, 81, 87, 92], 51) := by decide +kernel
theorem dX0_doAct_52 : decode cX0_doAct 52 = .ok (.iload_n 3, 1) := by decide +kernel
theorem dX0_doAct_53 : decode cX0_doAct 53 = .ok (.iload_n 2, 1) := by decide +kernel
theorem dX0_doAct_54 : decode cX0_doAct 54 = .ok (.if_icmp .ge 7, 3) := by decide +kernel
theorem dX0_doAct_57 : decode cX0_doAct 57 = .ok (.iconst 5, 1) := by decide +kernel
theorem dX0_doAct_58 : decode cX0_doAct 58 = .ok (.goto 9, 3) := by decide +kernel
theorem dX0_doAct_61 : decode cX0_doAct 61 = .ok (.aload_n 0, 1) := by decide +kernel
theorem dX0_doAct_62 : decode cX0_doAct 62 = .ok (.iload_n 2, 1) := by decide +kernel
theorem dX0_doAct_63 : decode cX0_doAct 63 = .ok (.iload_n 3, 1) := by decide +kernel
theorem dX0_doAct_64 : decode cX0_doAct 64 = .ok (.invokevirtual 30, 3) := by decide +kernel
theorem dX0_doAct_67 : decode cX0_doAct 67 = .ok (.ireturn, 1) := by decide +kernel
theorem dX0_doAct_68 : decode cX0_doAct 68 = .ok (.aload_n 0, 1) := by decide +kernel
theorem dX0_doAct_69 : decode cX0_doAct 69 = .ok (.iload_n 2, 1) := by decide +kernel
theorem dX0_doAct_70 : decode cX0_doAct 70 = .ok (.aload 4, 2) := by decide +kernel
theorem dX0_doAct_72 : decode cX0_doAct 72 = .ok (.invokevirtual 34, 3) := by decide +kernel
theorem dX0_doAct_75 : decode cX0_doAct 75 = .ok (.ireturn, 1) := by decide +kernel
theorem dX0_doAct_76 : decode cX0_doAct 76 = .ok (.aload_n 0, 1) := by decide +kernel
theorem dX0_doAct_77 : decode cX0_doAct 77 = .ok (.iload_n 1, 1) := by decide +kernel
theorem dX0_doAct_78 : decode cX0_doAct 78 = .ok (.invokevirtual 38, 3) := by decide +kernel
theorem dX0_doAct_81 : decode cX0_doAct 81 = .ok (.ireturn, 1) := by decide +kernel
theorem dX0_doAct_82 : decode cX0_doAct 82 = .ok (.aload_n 0, 1) := by decide +kernel
theorem dX0_doAct_83 : decode cX0_doAct 83 = .ok (.iload_n 2, 1) := by decide +kernel
theorem dX0_doAct_84 : decode cX0_doAct 84 = .ok (.invokevirtual 42, 3) := by decide +kernel
theorem dX0_doAct_87 : decode cX0_doAct 87 = .ok (.ireturn, 1) := by decide +kernel
theorem dX0_doAct_88 : decode cX0_doAct 88 = .ok (.aload_n 0, 1) := by decide +kernel
theorem dX0_doAct_89 : decode cX0_doAct 89 = .ok (.invokevirtual 45, 3) := by decide +kernel
theorem dX0_doAct_92 : decode cX0_doAct 92 = .ok (.ireturn, 1) := by decide +kernel
theorem dX0_doAct_93 : decode cX0_doAct 93 = .ok (.aload_n 0, 1) := by decide +kernel
theorem dX0_doAct_94 : decode cX0_doAct 94 = .ok (.iload_n 2, 1) := by decide +kernel
theorem dX0_doAct_95 : decode cX0_doAct 95 = .ok (.invokevirtual 49, 3) := by decide +kernel
theorem dX0_doAct_98 : decode cX0_doAct 98 = .ok (.ireturn, 1) := by decide +kernel
theorem dX0_doAct_99 : decode cX0_doAct 99 = .ok (.aload_n 0, 1) := by decide +kernel
theorem dX0_doAct_100 : decode cX0_doAct 100 = .ok (.iload_n 2, 1) := by decide +kernel
theorem dX0_doAct_101 : decode cX0_doAct 101 = .ok (.invokevirtual 52, 3) := by decide +kernel
theorem dX0_doAct_104 : decode cX0_doAct 104 = .ok (.ireturn, 1) := by decide +kernel
theorem dX0_giveAnswer_0 : decode cX0_giveAnswer 0 = .ok (.aload_n 0, 1) := by decide +kernel
theorem dX0_giveAnswer_1 : decode cX0_giveAnswer 1 = .ok (.getfield 16, 3) := by decide +kernel
theorem dX0_giveAnswer_4 : decode cX0_giveAnswer 4 = .ok (.iconst 1, 1) := by decide +kernel
theorem dX0_giveAnswer_5 : decode cX0_giveAnswer 5 = .ok (.if_icmp .ge 5, 3) := by decide +kernel
theorem dX0_giveAnswer_8 : decode cX0_giveAnswer 8 = .ok (.iconst 2, 1) := by decide +kernel
theorem dX0_giveAnswer_9 : decode cX0_giveAnswer 9 = .ok (.ireturn, 1) := by decide +kernel
theorem dX0_giveAnswer_10 : decode cX0_giveAnswer 10 = .ok (.aload_n 1, 1) := by decide +kernel
theorem dX0_giveAnswer_11 : decode cX0_giveAnswer 11 = .ok (.aload_n 0, 1) := by decide +kernel
theorem dX0_giveAnswer_12 : decode cX0_giveAnswer 12 = .ok (.getfield 9, 3) := by decide +kernel
theorem dX0_giveAnswer_15 : decode cX0_giveAnswer 15 = .ok (.aload_n 0, 1) := by decide +kernel
theorem dX0_giveAnswer_16 : decode cX0_giveAnswer 16 = .ok (.getfield 16, 3) := by decide +kernel
theorem dX0_giveAnswer_19 : decode cX0_giveAnswer 19 = .ok (.iconst 1, 1) := by decide +kernel
theorem dX0_giveAnswer_20 : decode cX0_giveAnswer 20 = .ok (.isub, 1) := by decide +kernel
theorem dX0_giveAnswer_21 : decode cX0_giveAnswer 21 = .ok (.iaload, 1) := by decide +kernel
theorem dX0_giveAnswer_22 : decode cX0_giveAnswer 22 = .ok (.putfield 55, 3) := by decide +kernel
theorem dX0_giveAnswer_25 : decode cX0_giveAnswer 25 = .ok (.aload_n 1, 1) := by decide +kernel
theorem dX0_giveAnswer_26 : decode cX0_giveAnswer 26 = .ok (.aload_n 0, 1) := by decide +kernel
theorem dX0_giveAnswer_27 : decode cX0_giveAnswer 27 = .ok (.getfield 13, 3) := by decide +kernel
theorem dX0_giveAnswer_30 : decode cX0_giveAnswer 30 = .ok (.aload_n 0, 1) := by decide +kernel
theorem dX0_giveAnswer_31 : decode cX0_giveAnswer 31 = .ok (.getfield 16, 3) := by decide +kernel
theorem dX0_giveAnswer_34 : decode cX0_giveAnswer 34 = .ok (.iconst 1, 1) := by decide +kernel
theorem dX0_giveAnswer_35 : decode cX0_giveAnswer 35 = .ok (.isub, 1) := by decide +kernel
theorem dX0_giveAnswer_36 : decode cX0_giveAnswer 36 = .ok (.iaload, 1) := by decide +kernel
theorem dX0_giveAnswer_37 : decode cX0_giveAnswer 37 = .ok (.putfield 60, 3) := by decide +kernel
theorem dX0_giveAnswer_40 : decode cX0_giveAnswer 40 = .ok (.iconst 0, 1) := by decide +kernel
theorem dX0_giveAnswer_41 : decode cX0_giveAnswer 41 = .ok (.ireturn, 1) := by decide +kernel
theorem dX0_push_0 : decode cX0_push 0 = .ok (.aload_n 0, 1) := by decide +kernel
theorem dX0_push_1 : decode cX0_push 1 = .ok (.getfield 16, 3) := by decide +kernel
theorem dX0_push_4 : decode cX0_push 4 = .ok (.iconst 3, 1) := by decide +kernel
theorem dX0_push_5 : decode cX0_push 5 = .ok (.if_icmp .lt 5, 3) := by decide +kernel
theorem dX0_push_8 : decode cX0_push 8 = .ok (.iconst 2, 1) := by decide +kernel
theorem dX0_push_9 : decode cX0_push 9 = .ok (.ireturn, 1) := by decide +kernel
theorem dX0_push_10 : decode cX0_push 10 = .ok (.aload_n 0, 1) := by decide +kernel
theorem dX0_push_11 : decode cX0_push 11 = .ok (.getfield 9, 3) := by decide +kernel
theorem dX0_push_14 : decode cX0_push 14 = .ok (.aload_n 0, 1) := by decide +kernel
theorem dX0_push_15 : decode cX0_push 15 = .ok (.getfield 16, 3) := by decide +kernel
theorem dX0_push_18 : decode cX0_push 18 = .ok (.iload_n 1, 1) := by decide +kernel
theorem dX0_push_19 : decode cX0_push 19 = .ok (.iastore, 1) := by decide +kernel
theorem dX0_push_20 : decode cX0_push 20 = .ok (.aload_n 0, 1) := by decide +kernel
theorem dX0_push_21 : decode cX0_push 21 = .ok (.getfield 13, 3) := by decide +kernel
theorem dX0_push_24 : decode cX0_push 24 = .ok (.aload_n 0, 1) := by decide +kernel
theorem dX0_push_25 : decode cX0_push 25 = .ok (.getfield 16, 3) := by decide +kernel
theorem dX0_push_28 : decode cX0_push 28 = .ok (.iload_n 2, 1) := by decide +kernel
theorem dX0_push_29 : decode cX0_push 29 = .ok (.iastore, 1) := by decide +kernel
theorem dX0_push_30 : decode cX0_push 30 = .ok (.aload_n 0, 1) := by decide +kernel
theorem dX0_push_31 : decode cX0_push 31 = .ok (.dup, 1) := by decide +kernel
theorem dX0_push_32 : decode cX0_push 32 = .ok (.getfield 16, 3) := by decide +kernel
theorem dX0_push_35 : decode cX0_push 35 = .ok (.iconst 1, 1) := by decide +kernel
theorem dX0_push_36 : decode cX0_push 36 = .ok (.iadd, 1) := by decide +kernel
theorem dX0_push_37 : decode cX0_push 37 = .ok (.putfield 16, 3) := by decide +kernel
theorem dX0_push_40 : decode cX0_push 40 = .ok (.iconst 0, 1) := by decide +kernel
theorem dX0_push_41 : decode cX0_push 41 = .ok (.ireturn, 1) := by decide +kernel
theorem dX0_pushFact_0 : decode cX0_pushFact 0 = .ok (.iload_n 1, 1) := by decide +kernel
theorem dX0_pushFact_1 : decode cX0_pushFact 1 = .ok (.invokestatic 63, 3) := by decide +kernel
theorem dX0_pushFact_4 : decode cX0_pushFact 4 = .ok (.ifCond .ne 5, 3) := by decide +kernel
theorem dX0_pushFact_7 : decode cX0_pushFact 7 = .ok (.iconst 2, 1) := by decide +kernel
theorem dX0_pushFact_8 : decode cX0_pushFact 8 = .ok (.ireturn, 1) := by decide +kernel
theorem dX0_pushFact_9 : decode cX0_pushFact 9 = .ok (.aload_n 2, 1) := by decide +kernel
theorem dX0_pushFact_10 : decode cX0_pushFact 10 = .ok (.getfield 69, 3) := by decide +kernel
theorem dX0_pushFact_13 : decode cX0_pushFact 13 = .ok (.iload_n 1, 1) := by decide +kernel
theorem dX0_pushFact_14 : decode cX0_pushFact 14 = .ok (.baload, 1) := by decide +kernel
theorem dX0_pushFact_15 : decode cX0_pushFact 15 = .ok (.ifCond .eq 22, 3) := by decide +kernel
theorem dX0_pushFact_18 : decode cX0_pushFact 18 = .ok (.aload_n 0, 1) := by decide +kernel
theorem dX0_pushFact_19 : decode cX0_pushFact 19 = .ok (.aload_n 2, 1) := by decide +kernel
theorem dX0_pushFact_20 : decode cX0_pushFact 20 = .ok (.getfield 74, 3) := by decide +kernel
theorem dX0_pushFact_23 : decode cX0_pushFact 23 = .ok (.iload_n 1, 1) := by decide +kernel
theorem dX0_pushFact_24 : decode cX0_pushFact 24 = .ok (.iaload, 1) := by decide +kernel
theorem dX0_pushFact_25 : decode cX0_pushFact 25 = .ok (.aload_n 2, 1) := by decide +kernel
theorem dX0_pushFact_26 : decode cX0_pushFact 26 = .ok (.getfield 75, 3) := by decide +kernel
theorem dX0_pushFact_29 : decode cX0_pushFact 29 = .ok (.iload_n 1, 1) := by decide +kernel
theorem dX0_pushFact_30 : decode cX0_pushFact 30 = .ok (.iaload, 1) := by decide +kernel
theorem dX0_pushFact_31 : decode cX0_pushFact 31 = .ok (.invokevirtual 30, 3) := by decide +kernel
theorem dX0_pushFact_34 : decode cX0_pushFact 34 = .ok (.goto 4, 3) := by decide +kernel
theorem dX0_pushFact_37 : decode cX0_pushFact 37 = .ok (.iconst 1, 1) := by decide +kernel
theorem dX0_pushFact_38 : decode cX0_pushFact 38 = .ok (.ireturn, 1) := by decide +kernel
theorem dX0_joinUpperTwo_0 : decode cX0_joinUpperTwo 0 = .ok (.aload_n 0, 1) := by decide +kernel
theorem dX0_joinUpperTwo_1 : decode cX0_joinUpperTwo 1 = .ok (.getfield 16, 3) := by decide +kernel
theorem dX0_joinUpperTwo_4 : decode cX0_joinUpperTwo 4 = .ok (.iconst 2, 1) := by decide +kernel
theorem dX0_joinUpperTwo_5 : decode cX0_joinUpperTwo 5 = .ok (.if_icmp .ge 5, 3) := by decide +kernel
theorem dX0_joinUpperTwo_8 : decode cX0_joinUpperTwo 8 = .ok (.iconst 2, 1) := by decide +kernel
theorem dX0_joinUpperTwo_9 : decode cX0_joinUpperTwo 9 = .ok (.ireturn, 1) := by decide +kernel
theorem dX0_joinUpperTwo_10 : decode cX0_joinUpperTwo 10 = .ok (.aload_n 0, 1) := by decide +kernel
theorem dX0_joinUpperTwo_11 : decode cX0_joinUpperTwo 11 = .ok (.getfield 16, 3) := by decide +kernel
theorem dX0_joinUpperTwo_14 : decode cX0_joinUpperTwo 14 = .ok (.iconst 2, 1) := by decide +kernel
theorem dX0_joinUpperTwo_15 : decode cX0_joinUpperTwo 15 = .ok (.isub, 1) := by decide +kernel
theorem dX0_joinUpperTwo_16 : decode cX0_joinUpperTwo 16 = .ok (.istore_n 2, 1) := by decide +kernel
theorem dX0_joinUpperTwo_17 : decode cX0_joinUpperTwo 17 = .ok (.aload_n 0, 1) := by decide +kernel
theorem dX0_joinUpperTwo_18 : decode cX0_joinUpperTwo 18 = .ok (.getfield 16, 3) := by decide +kernel
theorem dX0_joinUpperTwo_21 : decode cX0_joinUpperTwo 21 = .ok (.iconst 1, 1) := by decide +kernel
theorem dX0_joinUpperTwo_22 : decode cX0_joinUpperTwo 22 = .ok (.isub, 1) := by decide +kernel
theorem dX0_joinUpperTwo_23 : decode cX0_joinUpperTwo 23 = .ok (.istore_n 3, 1) := by decide +kernel
theorem dX0_joinUpperTwo_24 : decode cX0_joinUpperTwo 24 = .ok (.aload_n 0, 1) := by decide +kernel
theorem dX0_joinUpperTwo_25 : decode cX0_joinUpperTwo 25 = .ok (.iload_n 2, 1) := by decide +kernel
theorem dX0_joinUpperTwo_26 : decode cX0_joinUpperTwo 26 = .ok (.putfield 16, 3) := by decide +kernel
theorem dX0_joinUpperTwo_29 : decode cX0_joinUpperTwo 29 = .ok (.iload_n 1, 1) := by decide +kernel
theorem dX0_joinUpperTwo_30 : decode cX0_joinUpperTwo 30 = .ok (.tableswitch 167 2 4 #[26, 63, 100], 26) := by decide +kernel
theorem dX0_joinUpperTwo_56 : decode cX0_joinUpperTwo 56 = .ok (.aload_n 0, 1) := by decide +kernel
theorem dX0_joinUpperTwo_57 : decode cX0_joinUpperTwo 57 = .ok (.aload_n 0, 1) := by decide +kernel
theorem dX0_joinUpperTwo_58 : decode cX0_joinUpperTwo 58 = .ok (.getfield 9, 3) := by decide +kernel
theorem dX0_joinUpperTwo_61 : decode cX0_joinUpperTwo 61 = .ok (.iload_n 2, 1) := by decide +kernel
theorem dX0_joinUpperTwo_62 : decode cX0_joinUpperTwo 62 = .ok (.iaload, 1) := by decide +kernel
theorem dX0_joinUpperTwo_63 : decode cX0_joinUpperTwo 63 = .ok (.aload_n 0, 1) := by decide +kernel
theorem dX0_joinUpperTwo_64 : decode cX0_joinUpperTwo 64 = .ok (.getfield 9, 3) := by decide +kernel
theorem dX0_joinUpperTwo_67 : decode cX0_joinUpperTwo 67 = .ok (.iload_n 3, 1) := by decide +kernel
theorem dX0_joinUpperTwo_68 : decode cX0_joinUpperTwo 68 = .ok (.iaload, 1) := by decide +kernel
theorem dX0_joinUpperTwo_69 : decode cX0_joinUpperTwo 69 = .ok (.iadd, 1) := by decide +kernel
theorem dX0_joinUpperTwo_70 : decode cX0_joinUpperTwo 70 = .ok (.invokestatic 76, 3) := by decide +kernel
theorem dX0_joinUpperTwo_73 : decode cX0_joinUpperTwo 73 = .ok (.aload_n 0, 1) := by decide +kernel
theorem dX0_joinUpperTwo_74 : decode cX0_joinUpperTwo 74 = .ok (.getfield 13, 3) := by decide +kernel
theorem dX0_joinUpperTwo_77 : decode cX0_joinUpperTwo 77 = .ok (.iload_n 2, 1) := by decide +kernel
theorem dX0_joinUpperTwo_78 : decode cX0_joinUpperTwo 78 = .ok (.iaload, 1) := by decide +kernel
theorem dX0_joinUpperTwo_79 : decode cX0_joinUpperTwo 79 = .ok (.aload_n 0, 1) := by decide +kernel
theorem dX0_joinUpperTwo_80 : decode cX0_joinUpperTwo 80 = .ok (.getfield 13, 3) := by decide +kernel
theorem dX0_joinUpperTwo_83 : decode cX0_joinUpperTwo 83 = .ok (.iload_n 3, 1) := by decide +kernel
theorem dX0_joinUpperTwo_84 : decode cX0_joinUpperTwo 84 = .ok (.iaload, 1) := by decide +kernel
theorem dX0_joinUpperTwo_85 : decode cX0_joinUpperTwo 85 = .ok (.iadd, 1) := by decide +kernel
theorem dX0_joinUpperTwo_86 : decode cX0_joinUpperTwo 86 = .ok (.invokestatic 76, 3) := by decide +kernel
theorem dX0_joinUpperTwo_89 : decode cX0_joinUpperTwo 89 = .ok (.invokevirtual 30, 3) := by decide +kernel
theorem dX0_joinUpperTwo_92 : decode cX0_joinUpperTwo 92 = .ok (.ireturn, 1) := by decide +kernel
theorem dX0_joinUpperTwo_93 : decode cX0_joinUpperTwo 93 = .ok (.aload_n 0, 1) := by decide +kernel
theorem dX0_joinUpperTwo_94 : decode cX0_joinUpperTwo 94 = .ok (.aload_n 0, 1) := by decide +kernel
theorem dX0_joinUpperTwo_95 : decode cX0_joinUpperTwo 95 = .ok (.getfield 9, 3) := by decide +kernel
theorem dX0_joinUpperTwo_98 : decode cX0_joinUpperTwo 98 = .ok (.iload_n 2, 1) := by decide +kernel
theorem dX0_joinUpperTwo_99 : decode cX0_joinUpperTwo 99 = .ok (.iaload, 1) := by decide +kernel
theorem dX0_joinUpperTwo_100 : decode cX0_joinUpperTwo 100 = .ok (.aload_n 0, 1) := by decide +kernel
theorem dX0_joinUpperTwo_101 : decode cX0_joinUpperTwo 101 = .ok (.getfield 13, 3) := by decide +kernel
theorem dX0_joinUpperTwo_104 : decode cX0_joinUpperTwo 104 = .ok (.iload_n 3, 1) := by decide +kernel
theorem dX0_joinUpperTwo_105 : decode cX0_joinUpperTwo 105 = .ok (.iaload, 1) := by decide +kernel
theorem dX0_joinUpperTwo_106 : decode cX0_joinUpperTwo 106 = .ok (.isub, 1) := by decide +kernel
theorem dX0_joinUpperTwo_107 : decode cX0_joinUpperTwo 107 = .ok (.invokestatic 76, 3) := by decide +kernel
theorem dX0_joinUpperTwo_110 : decode cX0_joinUpperTwo 110 = .ok (.aload_n 0, 1) := by decide +kernel
theorem dX0_joinUpperTwo_111 : decode cX0_joinUpperTwo 111 = .ok (.getfield 13, 3) := by decide +kernel
theorem dX0_joinUpperTwo_114 : decode cX0_joinUpperTwo 114 = .ok (.iload_n 2, 1) := by decide +kernel
theorem dX0_joinUpperTwo_115 : decode cX0_joinUpperTwo 115 = .ok (.iaload, 1) := by decide +kernel
theorem dX0_joinUpperTwo_116 : decode cX0_joinUpperTwo 116 = .ok (.aload_n 0, 1) := by decide +kernel
theorem dX0_joinUpperTwo_117 : decode cX0_joinUpperTwo 117 = .ok (.getfield 9, 3) := by decide +kernel
theorem dX0_joinUpperTwo_120 : decode cX0_joinUpperTwo 120 = .ok (.iload_n 3, 1) := by decide +kernel
theorem dX0_joinUpperTwo_121 : decode cX0_joinUpperTwo 121 = .ok (.iaload, 1) := by decide +kernel
theorem dX0_joinUpperTwo_122 : decode cX0_joinUpperTwo 122 = .ok (.isub, 1) := by decide +kernel
theorem dX0_joinUpperTwo_123 : decode cX0_joinUpperTwo 123 = .ok (.invokestatic 76, 3) := by decide +kernel
theorem dX0_joinUpperTwo_126 : decode cX0_joinUpperTwo 126 = .ok (.invokevirtual 30, 3) := by decide +kernel
theorem dX0_joinUpperTwo_129 : decode cX0_joinUpperTwo 129 = .ok (.ireturn, 1) := by decide +kernel
theorem dX0_joinUpperTwo_130 : decode cX0_joinUpperTwo 130 = .ok (.aload_n 0, 1) := by decide +kernel
theorem dX0_joinUpperTwo_131 : decode cX0_joinUpperTwo 131 = .ok (.getfield 9, 3) := by decide +kernel
theorem dX0_joinUpperTwo_134 : decode cX0_joinUpperTwo 134 = .ok (.iload_n 2, 1) := by decide +kernel
theorem dX0_joinUpperTwo_135 : decode cX0_joinUpperTwo 135 = .ok (.iaload, 1) := by decide +kernel
theorem dX0_joinUpperTwo_136 : decode cX0_joinUpperTwo 136 = .ok (.aload_n 0, 1) := by decide +kernel
theorem dX0_joinUpperTwo_137 : decode cX0_joinUpperTwo 137 = .ok (.getfield 13, 3) := by decide +kernel
theorem dX0_joinUpperTwo_140 : decode cX0_joinUpperTwo 140 = .ok (.iload_n 3, 1) := by decide +kernel
theorem dX0_joinUpperTwo_141 : decode cX0_joinUpperTwo 141 = .ok (.iaload, 1) := by decide +kernel
theorem dX0_joinUpperTwo_142 : decode cX0_joinUpperTwo 142 = .ok (.if_icmp .gt 18, 3) := by decide +kernel
theorem dX0_joinUpperTwo_145 : decode cX0_joinUpperTwo 145 = .ok (.aload_n 0, 1) := by decide +kernel
theorem dX0_joinUpperTwo_146 : decode cX0_joinUpperTwo 146 = .ok (.getfield 9, 3) := by decide +kernel
theorem dX0_joinUpperTwo_149 : decode cX0_joinUpperTwo 149 = .ok (.iload_n 3, 1) := by decide +kernel
theorem dX0_joinUpperTwo_150 : decode cX0_joinUpperTwo 150 = .ok (.iaload, 1) := by decide +kernel
theorem dX0_joinUpperTwo_151 : decode cX0_joinUpperTwo 151 = .ok (.aload_n 0, 1) := by decide +kernel
theorem dX0_joinUpperTwo_152 : decode cX0_joinUpperTwo 152 = .ok (.getfield 13, 3) := by decide +kernel
theorem dX0_joinUpperTwo_155 : decode cX0_joinUpperTwo 155 = .ok (.iload_n 2, 1) := by decide +kernel
theorem dX0_joinUpperTwo_156 : decode cX0_joinUpperTwo 156 = .ok (.iaload, 1) := by decide +kernel
theorem dX0_joinUpperTwo_157 : decode cX0_joinUpperTwo 157 = .ok (.if_icmp .le 5, 3) := by decide +kernel
theorem dX0_joinUpperTwo_160 : decode cX0_joinUpperTwo 160 = .ok (.iconst 5, 1) := by decide +kernel
theorem dX0_joinUpperTwo_161 : decode cX0_joinUpperTwo 161 = .ok (.ireturn, 1) := by decide +kernel
theorem dX0_joinUpperTwo_162 : decode cX0_joinUpperTwo 162 = .ok (.aload_n 0, 1) := by decide +kernel
theorem dX0_joinUpperTwo_163 : decode cX0_joinUpperTwo 163 = .ok (.aload_n 0, 1) := by decide +kernel
theorem dX0_joinUpperTwo_164 : decode cX0_joinUpperTwo 164 = .ok (.getfield 9, 3) := by decide +kernel
theorem dX0_joinUpperTwo_167 : decode cX0_joinUpperTwo 167 = .ok (.iload_n 2, 1) := by decide +kernel
theorem dX0_joinUpperTwo_168 : decode cX0_joinUpperTwo 168 = .ok (.iaload, 1) := by decide +kernel
theorem dX0_joinUpperTwo_169 : decode cX0_joinUpperTwo 169 = .ok (.aload_n 0, 1) := by decide +kernel
theorem dX0_joinUpperTwo_170 : decode cX0_joinUpperTwo 170 = .ok (.getfield 9, 3) := by decide +kernel
theorem dX0_joinUpperTwo_173 : decode cX0_joinUpperTwo 173 = .ok (.iload_n 3, 1) := by decide +kernel
theorem dX0_joinUpperTwo_174 : decode cX0_joinUpperTwo 174 = .ok (.iaload, 1) := by decide +kernel
theorem dX0_joinUpperTwo_175 : decode cX0_joinUpperTwo 175 = .ok (.invokestatic 79, 3) := by decide +kernel
theorem dX0_joinUpperTwo_178 : decode cX0_joinUpperTwo 178 = .ok (.aload_n 0, 1) := by decide +kernel
theorem dX0_joinUpperTwo_179 : decode cX0_joinUpperTwo 179 = .ok (.getfield 13, 3) := by decide +kernel
theorem dX0_joinUpperTwo_182 : decode cX0_joinUpperTwo 182 = .ok (.iload_n 2, 1) := by decide +kernel
theorem dX0_joinUpperTwo_183 : decode cX0_joinUpperTwo 183 = .ok (.iaload, 1) := by decide +kernel
theorem dX0_joinUpperTwo_184 : decode cX0_joinUpperTwo 184 = .ok (.aload_n 0, 1) := by decide +kernel
theorem dX0_joinUpperTwo_185 : decode cX0_joinUpperTwo 185 = .ok (.getfield 13, 3) := by decide +kernel
theorem dX0_joinUpperTwo_188 : decode cX0_joinUpperTwo 188 = .ok (.iload_n 3, 1) := by decide +kernel
theorem dX0_joinUpperTwo_189 : decode cX0_joinUpperTwo 189 = .ok (.iaload, 1) := by decide +kernel
theorem dX0_joinUpperTwo_190 : decode cX0_joinUpperTwo 190 = .ok (.invokestatic 84, 3) := by decide +kernel
theorem dX0_joinUpperTwo_193 : decode cX0_joinUpperTwo 193 = .ok (.invokevirtual 30, 3) := by decide +kernel
theorem dX0_joinUpperTwo_196 : decode cX0_joinUpperTwo 196 = .ok (.ireturn, 1) := by decide +kernel
theorem dX0_joinUpperTwo_197 : decode cX0_joinUpperTwo 197 = .ok (.aload_n 0, 1) := by decide +kernel
theorem dX0_joinUpperTwo_198 : decode cX0_joinUpperTwo 198 = .ok (.aload_n 0, 1) := by decide +kernel
theorem dX0_joinUpperTwo_199 : decode cX0_joinUpperTwo 199 = .ok (.getfield 9, 3) := by decide +kernel
theorem dX0_joinUpperTwo_202 : decode cX0_joinUpperTwo 202 = .ok (.iload_n 2, 1) := by decide +kernel
theorem dX0_joinUpperTwo_203 : decode cX0_joinUpperTwo 203 = .ok (.iaload, 1) := by decide +kernel
theorem dX0_joinUpperTwo_204 : decode cX0_joinUpperTwo 204 = .ok (.aload_n 0, 1) := by decide +kernel
theorem dX0_joinUpperTwo_205 : decode cX0_joinUpperTwo 205 = .ok (.getfield 9, 3) := by decide +kernel
theorem dX0_joinUpperTwo_208 : decode cX0_joinUpperTwo 208 = .ok (.iload_n 3, 1) := by decide +kernel
theorem dX0_joinUpperTwo_209 : decode cX0_joinUpperTwo 209 = .ok (.iaload, 1) := by decide +kernel
theorem dX0_joinUpperTwo_210 : decode cX0_joinUpperTwo 210 = .ok (.invokestatic 84, 3) := by decide +kernel
theorem dX0_joinUpperTwo_213 : decode cX0_joinUpperTwo 213 = .ok (.aload_n 0, 1) := by decide +kernel
theorem dX0_joinUpperTwo_214 : decode cX0_joinUpperTwo 214 = .ok (.getfield 13, 3) := by decide +kernel
theorem dX0_joinUpperTwo_217 : decode cX0_joinUpperTwo 217 = .ok (.iload_n 2, 1) := by decide +kernel
theorem dX0_joinUpperTwo_218 : decode cX0_joinUpperTwo 218 = .ok (.iaload, 1) := by decide +kernel
theorem dX0_joinUpperTwo_219 : decode cX0_joinUpperTwo 219 = .ok (.aload_n 0, 1) := by decide +kernel
theorem dX0_joinUpperTwo_220 : decode cX0_joinUpperTwo 220 = .ok (.getfield 13, 3) := by decide +kernel
theorem dX0_joinUpperTwo_223 : decode cX0_joinUpperTwo 223 = .ok (.iload_n 3, 1) := by decide +kernel
theorem dX0_joinUpperTwo_224 : decode cX0_joinUpperTwo 224 = .ok (.iaload, 1) := by decide +kernel
theorem dX0_joinUpperTwo_225 : decode cX0_joinUpperTwo 225 = .ok (.invokestatic 79, 3) := by decide +kernel
theorem dX0_joinUpperTwo_228 : decode cX0_joinUpperTwo 228 = .ok (.invokevirtual 30, 3) := by decide +kernel
theorem dX0_joinUpperTwo_231 : decode cX0_joinUpperTwo 231 = .ok (.ireturn, 1) := by decide +kernel
theorem dX0_divideUpper_0 : decode cX0_divideUpper 0 = .ok (.aload_n 0, 1) := by decide +kernel
theorem dX0_divideUpper_1 : decode cX0_divideUpper 1 = .ok (.getfield 16, 3) := by decide +kernel
theorem dX0_divideUpper_4 : decode cX0_divideUpper 4 = .ok (.iconst 1, 1) := by decide +kernel
theorem dX0_divideUpper_5 : decode cX0_divideUpper 5 = .ok (.if_icmp .ge 5, 3) := by decide +kernel
theorem dX0_divideUpper_8 : decode cX0_divideUpper 8 = .ok (.iconst 2, 1) := by decide +kernel
theorem dX0_divideUpper_9 : decode cX0_divideUpper 9 = .ok (.ireturn, 1) := by decide +kernel
theorem dX0_divideUpper_10 : decode cX0_divideUpper 10 = .ok (.iload_n 1, 1) := by decide +kernel
theorem dX0_divideUpper_11 : decode cX0_divideUpper 11 = .ok (.ifCond .ne 5, 3) := by decide +kernel
theorem dX0_divideUpper_14 : decode cX0_divideUpper 14 = .ok (.iconst 3, 1) := by decide +kernel
theorem dX0_divideUpper_15 : decode cX0_divideUpper 15 = .ok (.ireturn, 1) := by decide +kernel
theorem dX0_divideUpper_16 : decode cX0_divideUpper 16 = .ok (.aload_n 0, 1) := by decide +kernel
theorem dX0_divideUpper_17 : decode cX0_divideUpper 17 = .ok (.getfield 16, 3) := by decide +kernel
theorem dX0_divideUpper_20 : decode cX0_divideUpper 20 = .ok (.iconst 1, 1) := by decide +kernel
theorem dX0_divideUpper_21 : decode cX0_divideUpper 21 = .ok (.isub, 1) := by decide +kernel
theorem dX0_divideUpper_22 : decode cX0_divideUpper 22 = .ok (.istore_n 2, 1) := by decide +kernel
theorem dX0_divideUpper_23 : decode cX0_divideUpper 23 = .ok (.aload_n 0, 1) := by decide +kernel
theorem dX0_divideUpper_24 : decode cX0_divideUpper 24 = .ok (.getfield 9, 3) := by decide +kernel
theorem dX0_divideUpper_27 : decode cX0_divideUpper 27 = .ok (.iload_n 2, 1) := by decide +kernel
theorem dX0_divideUpper_28 : decode cX0_divideUpper 28 = .ok (.iaload, 1) := by decide +kernel
theorem dX0_divideUpper_29 : decode cX0_divideUpper 29 = .ok (.iload_n 1, 1) := by decide +kernel
theorem dX0_divideUpper_30 : decode cX0_divideUpper 30 = .ok (.idiv, 1) := by decide +kernel
theorem dX0_divideUpper_31 : decode cX0_divideUpper 31 = .ok (.istore_n 3, 1) := by decide +kernel
theorem dX0_divideUpper_32 : decode cX0_divideUpper 32 = .ok (.aload_n 0, 1) := by decide +kernel
theorem dX0_divideUpper_33 : decode cX0_divideUpper 33 = .ok (.getfield 13, 3) := by decide +kernel
theorem dX0_divideUpper_36 : decode cX0_divideUpper 36 = .ok (.iload_n 2, 1) := by decide +kernel
theorem dX0_divideUpper_37 : decode cX0_divideUpper 37 = .ok (.iaload, 1) := by decide +kernel
theorem dX0_divideUpper_38 : decode cX0_divideUpper 38 = .ok (.iload_n 1, 1) := by decide +kernel
theorem dX0_divideUpper_39 : decode cX0_divideUpper 39 = .ok (.idiv, 1) := by decide +kernel
theorem dX0_divideUpper_40 : decode cX0_divideUpper 40 = .ok (.istore 4, 2) := by decide +kernel
theorem dX0_divideUpper_42 : decode cX0_divideUpper 42 = .ok (.aload_n 0, 1) := by decide +kernel
theorem dX0_divideUpper_43 : decode cX0_divideUpper 43 = .ok (.getfield 9, 3) := by decide +kernel
theorem dX0_divideUpper_46 : decode cX0_divideUpper 46 = .ok (.iload_n 2, 1) := by decide +kernel
theorem dX0_divideUpper_47 : decode cX0_divideUpper 47 = .ok (.iload_n 3, 1) := by decide +kernel
theorem dX0_divideUpper_48 : decode cX0_divideUpper 48 = .ok (.iload 4, 2) := by decide +kernel
theorem dX0_divideUpper_50 : decode cX0_divideUpper 50 = .ok (.invokestatic 84, 3) := by decide +kernel
theorem dX0_divideUpper_53 : decode cX0_divideUpper 53 = .ok (.iastore, 1) := by decide +kernel
theorem dX0_divideUpper_54 : decode cX0_divideUpper 54 = .ok (.aload_n 0, 1) := by decide +kernel
theorem dX0_divideUpper_55 : decode cX0_divideUpper 55 = .ok (.getfield 13, 3) := by decide +kernel
theorem dX0_divideUpper_58 : decode cX0_divideUpper 58 = .ok (.iload_n 2, 1) := by decide +kernel
theorem dX0_divideUpper_59 : decode cX0_divideUpper 59 = .ok (.iload_n 3, 1) := by decide +kernel
theorem dX0_divideUpper_60 : decode cX0_divideUpper 60 = .ok (.iload 4, 2) := by decide +kernel
theorem dX0_divideUpper_62 : decode cX0_divideUpper 62 = .ok (.invokestatic 79, 3) := by decide +kernel
theorem dX0_divideUpper_65 : decode cX0_divideUpper 65 = .ok (.iastore, 1) := by decide +kernel
theorem dX0_divideUpper_66 : decode cX0_divideUpper 66 = .ok (.iconst 0, 1) := by decide +kernel
theorem dX0_divideUpper_67 : decode cX0_divideUpper 67 = .ok (.ireturn, 1) := by decide +kernel
theorem dX0_testPoint_0 : decode cX0_testPoint 0 = .ok (.aload_n 0, 1) := by decide +kernel
theorem dX0_testPoint_1 : decode cX0_testPoint 1 = .ok (.getfield 16, 3) := by decide +kernel
theorem dX0_testPoint_4 : decode cX0_testPoint 4 = .ok (.iconst 1, 1) := by decide +kernel
theorem dX0_testPoint_5 : decode cX0_testPoint 5 = .ok (.if_icmp .ge 5, 3) := by decide +kernel
theorem dX0_testPoint_8 : decode cX0_testPoint 8 = .ok (.iconst 2, 1) := by decide +kernel
theorem dX0_testPoint_9 : decode cX0_testPoint 9 = .ok (.ireturn, 1) := by decide +kernel
theorem dX0_testPoint_10 : decode cX0_testPoint 10 = .ok (.aload_n 0, 1) := by decide +kernel
theorem dX0_testPoint_11 : decode cX0_testPoint 11 = .ok (.getfield 9, 3) := by decide +kernel
theorem dX0_testPoint_14 : decode cX0_testPoint 14 = .ok (.aload_n 0, 1) := by decide +kernel
theorem dX0_testPoint_15 : decode cX0_testPoint 15 = .ok (.getfield 16, 3) := by decide +kernel
theorem dX0_testPoint_18 : decode cX0_testPoint 18 = .ok (.iconst 1, 1) := by decide +kernel
theorem dX0_testPoint_19 : decode cX0_testPoint 19 = .ok (.isub, 1) := by decide +kernel
theorem dX0_testPoint_20 : decode cX0_testPoint 20 = .ok (.iaload, 1) := by decide +kernel
theorem dX0_testPoint_21 : decode cX0_testPoint 21 = .ok (.aload_n 0, 1) := by decide +kernel
theorem dX0_testPoint_22 : decode cX0_testPoint 22 = .ok (.getfield 13, 3) := by decide +kernel
theorem dX0_testPoint_25 : decode cX0_testPoint 25 = .ok (.aload_n 0, 1) := by decide +kernel
theorem dX0_testPoint_26 : decode cX0_testPoint 26 = .ok (.getfield 16, 3) := by decide +kernel
theorem dX0_testPoint_29 : decode cX0_testPoint 29 = .ok (.iconst 1, 1) := by decide +kernel
theorem dX0_testPoint_30 : decode cX0_testPoint 30 = .ok (.isub, 1) := by decide +kernel
theorem dX0_testPoint_31 : decode cX0_testPoint 31 = .ok (.iaload, 1) := by decide +kernel
theorem dX0_testPoint_32 : decode cX0_testPoint 32 = .ok (.if_icmp .ne 7, 3) := by decide +kernel
theorem dX0_testPoint_35 : decode cX0_testPoint 35 = .ok (.iconst 0, 1) := by decide +kernel
theorem dX0_testPoint_36 : decode cX0_testPoint 36 = .ok (.goto 4, 3) := by decide +kernel
theorem dX0_testPoint_39 : decode cX0_testPoint 39 = .ok (.iconst 4, 1) := by decide +kernel
theorem dX0_testPoint_40 : decode cX0_testPoint 40 = .ok (.ireturn, 1) := by decide +kernel
theorem dX0_keepUpper_0 : decode cX0_keepUpper 0 = .ok (.aload_n 0, 1) := by decide +kernel
theorem dX0_keepUpper_1 : decode cX0_keepUpper 1 = .ok (.getfield 16, 3) := by decide +kernel
theorem dX0_keepUpper_4 : decode cX0_keepUpper 4 = .ok (.iconst 1, 1) := by decide +kernel
theorem dX0_keepUpper_5 : decode cX0_keepUpper 5 = .ok (.if_icmp .lt 10, 3) := by decide +kernel
theorem dX0_keepUpper_8 : decode cX0_keepUpper 8 = .ok (.iload_n 1, 1) := by decide +kernel
theorem dX0_keepUpper_9 : decode cX0_keepUpper 9 = .ok (.invokestatic 87, 3) := by decide +kernel
theorem dX0_keepUpper_12 : decode cX0_keepUpper 12 = .ok (.ifCond .ne 5, 3) := by decide +kernel
theorem dX0_keepUpper_15 : decode cX0_keepUpper 15 = .ok (.iconst 2, 1) := by decide +kernel
theorem dX0_keepUpper_16 : decode cX0_keepUpper 16 = .ok (.ireturn, 1) := by decide +kernel
theorem dX0_keepUpper_17 : decode cX0_keepUpper 17 = .ok (.aload_n 0, 1) := by decide +kernel
theorem dX0_keepUpper_18 : decode cX0_keepUpper 18 = .ok (.dup, 1) := by decide +kernel
theorem dX0_keepUpper_19 : decode cX0_keepUpper 19 = .ok (.getfield 16, 3) := by decide +kernel
theorem dX0_keepUpper_22 : decode cX0_keepUpper 22 = .ok (.iconst 1, 1) := by decide +kernel
theorem dX0_keepUpper_23 : decode cX0_keepUpper 23 = .ok (.isub, 1) := by decide +kernel
theorem dX0_keepUpper_24 : decode cX0_keepUpper 24 = .ok (.putfield 16, 3) := by decide +kernel
theorem dX0_keepUpper_27 : decode cX0_keepUpper 27 = .ok (.aload_n 0, 1) := by decide +kernel
theorem dX0_keepUpper_28 : decode cX0_keepUpper 28 = .ok (.getfield 20, 3) := by decide +kernel
theorem dX0_keepUpper_31 : decode cX0_keepUpper 31 = .ok (.iload_n 1, 1) := by decide +kernel
theorem dX0_keepUpper_32 : decode cX0_keepUpper 32 = .ok (.iconst 1, 1) := by decide +kernel
theorem dX0_keepUpper_33 : decode cX0_keepUpper 33 = .ok (.bastore, 1) := by decide +kernel
theorem dX0_keepUpper_34 : decode cX0_keepUpper 34 = .ok (.aload_n 0, 1) := by decide +kernel
theorem dX0_keepUpper_35 : decode cX0_keepUpper 35 = .ok (.getfield 24, 3) := by decide +kernel
theorem dX0_keepUpper_38 : decode cX0_keepUpper 38 = .ok (.iload_n 1, 1) := by decide +kernel
theorem dX0_keepUpper_39 : decode cX0_keepUpper 39 = .ok (.aload_n 0, 1) := by decide +kernel
theorem dX0_keepUpper_40 : decode cX0_keepUpper 40 = .ok (.getfield 9, 3) := by decide +kernel
theorem dX0_keepUpper_43 : decode cX0_keepUpper 43 = .ok (.aload_n 0, 1) := by decide +kernel
theorem dX0_keepUpper_44 : decode cX0_keepUpper 44 = .ok (.getfield 16, 3) := by decide +kernel
theorem dX0_keepUpper_47 : decode cX0_keepUpper 47 = .ok (.iaload, 1) := by decide +kernel
theorem dX0_keepUpper_48 : decode cX0_keepUpper 48 = .ok (.iastore, 1) := by decide +kernel
theorem dX0_keepUpper_49 : decode cX0_keepUpper 49 = .ok (.aload_n 0, 1) := by decide +kernel
theorem dX0_keepUpper_50 : decode cX0_keepUpper 50 = .ok (.getfield 27, 3) := by decide +kernel
theorem dX0_keepUpper_53 : decode cX0_keepUpper 53 = .ok (.iload_n 1, 1) := by decide +kernel
theorem dX0_keepUpper_54 : decode cX0_keepUpper 54 = .ok (.aload_n 0, 1) := by decide +kernel
theorem dX0_keepUpper_55 : decode cX0_keepUpper 55 = .ok (.getfield 13, 3) := by decide +kernel
theorem dX0_keepUpper_58 : decode cX0_keepUpper 58 = .ok (.aload_n 0, 1) := by decide +kernel
theorem dX0_keepUpper_59 : decode cX0_keepUpper 59 = .ok (.getfield 16, 3) := by decide +kernel
theorem dX0_keepUpper_62 : decode cX0_keepUpper 62 = .ok (.iaload, 1) := by decide +kernel
theorem dX0_keepUpper_63 : decode cX0_keepUpper 63 = .ok (.iastore, 1) := by decide +kernel
theorem dX0_keepUpper_64 : decode cX0_keepUpper 64 = .ok (.iconst 0, 1) := by decide +kernel
theorem dX0_keepUpper_65 : decode cX0_keepUpper 65 = .ok (.ireturn, 1) := by decide +kernel
theorem dX0_takeItem_0 : decode cX0_takeItem 0 = .ok (.iload_n 1, 1) := by decide +kernel
theorem dX0_takeItem_1 : decode cX0_takeItem 1 = .ok (.invokestatic 87, 3) := by decide +kernel
theorem dX0_takeItem_4 : decode cX0_takeItem 4 = .ok (.ifCond .ne 5, 3) := by decide +kernel
theorem dX0_takeItem_7 : decode cX0_takeItem 7 = .ok (.iconst 2, 1) := by decide +kernel
theorem dX0_takeItem_8 : decode cX0_takeItem 8 = .ok (.ireturn, 1) := by decide +kernel
theorem dX0_takeItem_9 : decode cX0_takeItem 9 = .ok (.aload_n 0, 1) := by decide +kernel
theorem dX0_takeItem_10 : decode cX0_takeItem 10 = .ok (.getfield 20, 3) := by decide +kernel
theorem dX0_takeItem_13 : decode cX0_takeItem 13 = .ok (.iload_n 1, 1) := by decide +kernel
theorem dX0_takeItem_14 : decode cX0_takeItem 14 = .ok (.baload, 1) := by decide +kernel
theorem dX0_takeItem_15 : decode cX0_takeItem 15 = .ok (.ifCond .eq 22, 3) := by decide +kernel
theorem dX0_takeItem_18 : decode cX0_takeItem 18 = .ok (.aload_n 0, 1) := by decide +kernel
theorem dX0_takeItem_19 : decode cX0_takeItem 19 = .ok (.aload_n 0, 1) := by decide +kernel
theorem dX0_takeItem_20 : decode cX0_takeItem 20 = .ok (.getfield 24, 3) := by decide +kernel
theorem dX0_takeItem_23 : decode cX0_takeItem 23 = .ok (.iload_n 1, 1) := by decide +kernel
theorem dX0_takeItem_24 : decode cX0_takeItem 24 = .ok (.iaload, 1) := by decide +kernel
theorem dX0_takeItem_25 : decode cX0_takeItem 25 = .ok (.aload_n 0, 1) := by decide +kernel
theorem dX0_takeItem_26 : decode cX0_takeItem 26 = .ok (.getfield 27, 3) := by decide +kernel
theorem dX0_takeItem_29 : decode cX0_takeItem 29 = .ok (.iload_n 1, 1) := by decide +kernel
theorem dX0_takeItem_30 : decode cX0_takeItem 30 = .ok (.iaload, 1) := by decide +kernel
theorem dX0_takeItem_31 : decode cX0_takeItem 31 = .ok (.invokevirtual 30, 3) := by decide +kernel
theorem dX0_takeItem_34 : decode cX0_takeItem 34 = .ok (.goto 4, 3) := by decide +kernel
theorem dX0_takeItem_37 : decode cX0_takeItem 37 = .ok (.iconst 1, 1) := by decide +kernel
theorem dX0_takeItem_38 : decode cX0_takeItem 38 = .ok (.ireturn, 1) := by decide +kernel
theorem dX0_isItem_0 : decode cX0_isItem 0 = .ok (.iload_n 0, 1) := by decide +kernel
theorem dX0_isItem_1 : decode cX0_isItem 1 = .ok (.ifCond .lt 12, 3) := by decide +kernel
theorem dX0_isItem_4 : decode cX0_isItem 4 = .ok (.iload_n 0, 1) := by decide +kernel
theorem dX0_isItem_5 : decode cX0_isItem 5 = .ok (.iconst 3, 1) := by decide +kernel
theorem dX0_isItem_6 : decode cX0_isItem 6 = .ok (.if_icmp .ge 7, 3) := by decide +kernel
theorem dX0_isItem_9 : decode cX0_isItem 9 = .ok (.iconst 1, 1) := by decide +kernel
theorem dX0_isItem_10 : decode cX0_isItem 10 = .ok (.goto 4, 3) := by decide +kernel
theorem dX0_isItem_13 : decode cX0_isItem 13 = .ok (.iconst 0, 1) := by decide +kernel
theorem dX0_isItem_14 : decode cX0_isItem 14 = .ok (.ireturn, 1) := by decide +kernel
theorem dX1_init_0 : decode cX1_init 0 = .ok (.aload_n 0, 1) := by decide +kernel
theorem dX1_init_1 : decode cX1_init 1 = .ok (.invokespecial 3, 3) := by decide +kernel
theorem dX1_init_4 : decode cX1_init 4 = .ok (.aload_n 0, 1) := by decide +kernel
theorem dX1_init_5 : decode cX1_init 5 = .ok (.iconst 4, 1) := by decide +kernel
theorem dX1_init_6 : decode cX1_init 6 = .ok (.anewarray 11, 3) := by decide +kernel
theorem dX1_init_9 : decode cX1_init 9 = .ok (.putfield 13, 3) := by decide +kernel
theorem dX1_init_12 : decode cX1_init 12 = .ok (.aload_n 0, 1) := by decide +kernel
theorem dX1_init_13 : decode cX1_init 13 = .ok (.iconst 0, 1) := by decide +kernel
theorem dX1_init_14 : decode cX1_init 14 = .ok (.putfield 17, 3) := by decide +kernel
theorem dX1_init_17 : decode cX1_init 17 = .ok (.aload_n 0, 1) := by decide +kernel
theorem dX1_init_18 : decode cX1_init 18 = .ok (.iconst 0, 1) := by decide +kernel
theorem dX1_init_19 : decode cX1_init 19 = .ok (.putfield 21, 3) := by decide +kernel
theorem dX1_init_22 : decode cX1_init 22 = .ok (.aload_n 0, 1) := by decide +kernel
theorem dX1_init_23 : decode cX1_init 23 = .ok (.iconst 0, 1) := by decide +kernel
theorem dX1_init_24 : decode cX1_init 24 = .ok (.putfield 24, 3) := by decide +kernel
theorem dX1_init_27 : decode cX1_init 27 = .ok (.aload_n 0, 1) := by decide +kernel
theorem dX1_init_28 : decode cX1_init 28 = .ok (.ldc 27, 2) := by decide +kernel
theorem dX1_init_30 : decode cX1_init 30 = .ok (.putfield 28, 3) := by decide +kernel
theorem dX1_init_33 : decode cX1_init 33 = .ok (.iconst 0, 1) := by decide +kernel
theorem dX1_init_34 : decode cX1_init 34 = .ok (.istore_n 1, 1) := by decide +kernel
theorem dX1_init_35 : decode cX1_init 35 = .ok (.iload_n 1, 1) := by decide +kernel
theorem dX1_init_36 : decode cX1_init 36 = .ok (.iconst 4, 1) := by decide +kernel
theorem dX1_init_37 : decode cX1_init 37 = .ok (.if_icmp .ge 23, 3) := by decide +kernel
theorem dX1_init_40 : decode cX1_init 40 = .ok (.aload_n 0, 1) := by decide +kernel
theorem dX1_init_41 : decode cX1_init 41 = .ok (.getfield 13, 3) := by decide +kernel
theorem dX1_init_44 : decode cX1_init 44 = .ok (.iload_n 1, 1) := by decide +kernel
theorem dX1_init_45 : decode cX1_init 45 = .ok (.new 11, 3) := by decide +kernel
theorem dX1_init_48 : decode cX1_init 48 = .ok (.dup, 1) := by decide +kernel
theorem dX1_init_49 : decode cX1_init 49 = .ok (.iload_n 1, 1) := by decide +kernel
theorem dX1_init_50 : decode cX1_init 50 = .ok (.invokespecial 31, 3) := by decide +kernel
theorem dX1_init_53 : decode cX1_init 53 = .ok (.aastore, 1) := by decide +kernel
theorem dX1_init_54 : decode cX1_init 54 = .ok (.iinc 1 1, 3) := by decide +kernel
theorem dX1_init_57 : decode cX1_init 57 = .ok (.goto (-22), 3) := by decide +kernel
theorem dX1_init_60 : decode cX1_init 60 = .ok (.aload_n 0, 1) := by decide +kernel
theorem dX1_init_61 : decode cX1_init 61 = .ok (.iconst 1, 1) := by decide +kernel
theorem dX1_init_62 : decode cX1_init 62 = .ok (.invokevirtual 34, 3) := by decide +kernel
theorem dX1_init_65 : decode cX1_init 65 = .ok (.return_, 1) := by decide +kernel
theorem dX1_hire_0 : decode cX1_hire 0 = .ok (.aload_n 0, 1) := by decide +kernel
theorem dX1_hire_1 : decode cX1_hire 1 = .ok (.iload_n 1, 1) := by decide +kernel
theorem dX1_hire_2 : decode cX1_hire 2 = .ok (.putfield 17, 3) := by decide +kernel
theorem dX1_hire_5 : decode cX1_hire 5 = .ok (.iconst 0, 1) := by decide +kernel
theorem dX1_hire_6 : decode cX1_hire 6 = .ok (.istore_n 2, 1) := by decide +kernel
theorem dX1_hire_7 : decode cX1_hire 7 = .ok (.iload_n 2, 1) := by decide +kernel
theorem dX1_hire_8 : decode cX1_hire 8 = .ok (.iconst 4, 1) := by decide +kernel
theorem dX1_hire_9 : decode cX1_hire 9 = .ok (.if_icmp .ge 38, 3) := by decide +kernel
theorem dX1_hire_12 : decode cX1_hire 12 = .ok (.aload_n 0, 1) := by decide +kernel
theorem dX1_hire_13 : decode cX1_hire 13 = .ok (.getfield 13, 3) := by decide +kernel
theorem dX1_hire_16 : decode cX1_hire 16 = .ok (.iload_n 2, 1) := by decide +kernel
theorem dX1_hire_17 : decode cX1_hire 17 = .ok (.aaload, 1) := by decide +kernel
theorem dX1_hire_18 : decode cX1_hire 18 = .ok (.iload_n 2, 1) := by decide +kernel
theorem dX1_hire_19 : decode cX1_hire 19 = .ok (.iload_n 1, 1) := by decide +kernel
theorem dX1_hire_20 : decode cX1_hire 20 = .ok (.if_icmp .ge 7, 3) := by decide +kernel
theorem dX1_hire_23 : decode cX1_hire 23 = .ok (.iconst 1, 1) := by decide +kernel
theorem dX1_hire_24 : decode cX1_hire 24 = .ok (.goto 4, 3) := by decide +kernel
theorem dX1_hire_27 : decode cX1_hire 27 = .ok (.iconst 0, 1) := by decide +kernel
theorem dX1_hire_28 : decode cX1_hire 28 = .ok (.putfield 37, 3) := by decide +kernel
theorem dX1_hire_31 : decode cX1_hire 31 = .ok (.aload_n 0, 1) := by decide +kernel
theorem dX1_hire_32 : decode cX1_hire 32 = .ok (.getfield 13, 3) := by decide +kernel
theorem dX1_hire_35 : decode cX1_hire 35 = .ok (.iload_n 2, 1) := by decide +kernel
theorem dX1_hire_36 : decode cX1_hire 36 = .ok (.aaload, 1) := by decide +kernel
theorem dX1_hire_37 : decode cX1_hire 37 = .ok (.iconst 0, 1) := by decide +kernel
theorem dX1_hire_38 : decode cX1_hire 38 = .ok (.putfield 41, 3) := by decide +kernel
theorem dX1_hire_41 : decode cX1_hire 41 = .ok (.iinc 2 1, 3) := by decide +kernel
theorem dX1_hire_44 : decode cX1_hire 44 = .ok (.goto (-37), 3) := by decide +kernel
theorem dX1_hire_47 : decode cX1_hire 47 = .ok (.return_, 1) := by decide +kernel
theorem dX1_isHere_0 : decode cX1_isHere 0 = .ok (.iload_n 1, 1) := by decide +kernel
theorem dX1_isHere_1 : decode cX1_isHere 1 = .ok (.ifCond .lt 24, 3) := by decide +kernel
theorem dX1_isHere_4 : decode cX1_isHere 4 = .ok (.iload_n 1, 1) := by decide +kernel
theorem dX1_isHere_5 : decode cX1_isHere 5 = .ok (.iconst 4, 1) := by decide +kernel
theorem dX1_isHere_6 : decode cX1_isHere 6 = .ok (.if_icmp .ge 19, 3) := by decide +kernel
theorem dX1_isHere_9 : decode cX1_isHere 9 = .ok (.aload_n 0, 1) := by decide +kernel
theorem dX1_isHere_10 : decode cX1_isHere 10 = .ok (.getfield 13, 3) := by decide +kernel
theorem dX1_isHere_13 : decode cX1_isHere 13 = .ok (.iload_n 1, 1) := by decide +kernel
theorem dX1_isHere_14 : decode cX1_isHere 14 = .ok (.aaload, 1) := by decide +kernel
theorem dX1_isHere_15 : decode cX1_isHere 15 = .ok (.getfield 37, 3) := by decide +kernel
theorem dX1_isHere_18 : decode cX1_isHere 18 = .ok (.ifCond .eq 7, 3) := by decide +kernel
theorem dX1_isHere_21 : decode cX1_isHere 21 = .ok (.iconst 1, 1) := by decide +kernel
theorem dX1_isHere_22 : decode cX1_isHere 22 = .ok (.goto 4, 3) := by decide +kernel
theorem dX1_isHere_25 : decode cX1_isHere 25 = .ok (.iconst 0, 1) := by decide +kernel
theorem dX1_isHere_26 : decode cX1_isHere 26 = .ok (.ireturn, 1) := by decide +kernel
theorem dX1_remove_0 : decode cX1_remove 0 = .ok (.aload_n 1, 1) := by decide +kernel
theorem dX1_remove_1 : decode cX1_remove 1 = .ok (.iconst 0, 1) := by decide +kernel
theorem dX1_remove_2 : decode cX1_remove 2 = .ok (.putfield 37, 3) := by decide +kernel
theorem dX1_remove_5 : decode cX1_remove 5 = .ok (.aload_n 0, 1) := by decide +kernel
theorem dX1_remove_6 : decode cX1_remove 6 = .ok (.dup, 1) := by decide +kernel
theorem dX1_remove_7 : decode cX1_remove 7 = .ok (.getfield 17, 3) := by decide +kernel
theorem dX1_remove_10 : decode cX1_remove 10 = .ok (.iconst 1, 1) := by decide +kernel
theorem dX1_remove_11 : decode cX1_remove 11 = .ok (.isub, 1) := by decide +kernel
theorem dX1_remove_12 : decode cX1_remove 12 = .ok (.putfield 17, 3) := by decide +kernel
theorem dX1_remove_15 : decode cX1_remove 15 = .ok (.return_, 1) := by decide +kernel
theorem dX1_nextToMove_0 : decode cX1_nextToMove 0 = .ok (.aload_n 0, 1) := by decide +kernel
theorem dX1_nextToMove_1 : decode cX1_nextToMove 1 = .ok (.getfield 17, 3) := by decide +kernel
theorem dX1_nextToMove_4 : decode cX1_nextToMove 4 = .ok (.ifCond .gt 5, 3) := by decide +kernel
theorem dX1_nextToMove_7 : decode cX1_nextToMove 7 = .ok (.aconst_null, 1) := by decide +kernel
theorem dX1_nextToMove_8 : decode cX1_nextToMove 8 = .ok (.areturn, 1) := by decide +kernel
theorem dX1_nextToMove_9 : decode cX1_nextToMove 9 = .ok (.aload_n 0, 1) := by decide +kernel
theorem dX1_nextToMove_10 : decode cX1_nextToMove 10 = .ok (.aload_n 0, 1) := by decide +kernel
theorem dX1_nextToMove_11 : decode cX1_nextToMove 11 = .ok (.getfield 21, 3) := by decide +kernel
theorem dX1_nextToMove_14 : decode cX1_nextToMove 14 = .ok (.ldc 44, 2) := by decide +kernel
theorem dX1_nextToMove_16 : decode cX1_nextToMove 16 = .ok (.imul, 1) := by decide +kernel
theorem dX1_nextToMove_17 : decode cX1_nextToMove 17 = .ok (.sipush 12345, 3) := by decide +kernel
theorem dX1_nextToMove_20 : decode cX1_nextToMove 20 = .ok (.iadd, 1) := by decide +kernel
theorem dX1_nextToMove_21 : decode cX1_nextToMove 21 = .ok (.putfield 21, 3) := by decide +kernel
theorem dX1_nextToMove_24 : decode cX1_nextToMove 24 = .ok (.aload_n 0, 1) := by decide +kernel
theorem dX1_nextToMove_25 : decode cX1_nextToMove 25 = .ok (.dup, 1) := by decide +kernel
theorem dX1_nextToMove_26 : decode cX1_nextToMove 26 = .ok (.getfield 24, 3) := by decide +kernel
theorem dX1_nextToMove_29 : decode cX1_nextToMove 29 = .ok (.iconst 1, 1) := by decide +kernel
theorem dX1_nextToMove_30 : decode cX1_nextToMove 30 = .ok (.iadd, 1) := by decide +kernel
theorem dX1_nextToMove_31 : decode cX1_nextToMove 31 = .ok (.putfield 24, 3) := by decide +kernel
theorem dX1_nextToMove_34 : decode cX1_nextToMove 34 = .ok (.aload_n 0, 1) := by decide +kernel
theorem dX1_nextToMove_35 : decode cX1_nextToMove 35 = .ok (.aload_n 0, 1) := by decide +kernel
theorem dX1_nextToMove_36 : decode cX1_nextToMove 36 = .ok (.getfield 21, 3) := by decide +kernel
theorem dX1_nextToMove_39 : decode cX1_nextToMove 39 = .ok (.bipush 16, 2) := by decide +kernel
theorem dX1_nextToMove_41 : decode cX1_nextToMove 41 = .ok (.iushr, 1) := by decide +kernel
theorem dX1_nextToMove_42 : decode cX1_nextToMove 42 = .ok (.aload_n 0, 1) := by decide +kernel
theorem dX1_nextToMove_43 : decode cX1_nextToMove 43 = .ok (.getfield 17, 3) := by decide +kernel
theorem dX1_nextToMove_46 : decode cX1_nextToMove 46 = .ok (.irem, 1) := by decide +kernel
theorem dX1_nextToMove_47 : decode cX1_nextToMove 47 = .ok (.invokevirtual 45, 3) := by decide +kernel
theorem dX1_nextToMove_50 : decode cX1_nextToMove 50 = .ok (.astore_n 1, 1) := by decide +kernel
theorem dX1_nextToMove_51 : decode cX1_nextToMove 51 = .ok (.aload_n 1, 1) := by decide +kernel
theorem dX1_nextToMove_52 : decode cX1_nextToMove 52 = .ok (.ifnull 11, 3) := by decide +kernel
theorem dX1_nextToMove_55 : decode cX1_nextToMove 55 = .ok (.aload_n 0, 1) := by decide +kernel
theorem dX1_nextToMove_56 : decode cX1_nextToMove 56 = .ok (.aload_n 1, 1) := by decide +kernel
theorem dX1_nextToMove_57 : decode cX1_nextToMove 57 = .ok (.getfield 49, 3) := by decide +kernel
theorem dX1_nextToMove_60 : decode cX1_nextToMove 60 = .ok (.putfield 28, 3) := by decide +kernel
theorem dX1_nextToMove_63 : decode cX1_nextToMove 63 = .ok (.aload_n 1, 1) := by decide +kernel
theorem dX1_nextToMove_64 : decode cX1_nextToMove 64 = .ok (.areturn, 1) := by decide +kernel
theorem dX1_leftAt_0 : decode cX1_leftAt 0 = .ok (.iconst 0, 1) := by decide +kernel
theorem dX1_leftAt_1 : decode cX1_leftAt 1 = .ok (.istore_n 2, 1) := by decide +kernel
theorem dX1_leftAt_2 : decode cX1_leftAt 2 = .ok (.iconst 0, 1) := by decide +kernel
theorem dX1_leftAt_3 : decode cX1_leftAt 3 = .ok (.istore_n 3, 1) := by decide +kernel
theorem dX1_leftAt_4 : decode cX1_leftAt 4 = .ok (.iload_n 3, 1) := by decide +kernel
theorem dX1_leftAt_5 : decode cX1_leftAt 5 = .ok (.iconst 4, 1) := by decide +kernel
theorem dX1_leftAt_6 : decode cX1_leftAt 6 = .ok (.if_icmp .ge 36, 3) := by decide +kernel
theorem dX1_leftAt_9 : decode cX1_leftAt 9 = .ok (.aload_n 0, 1) := by decide +kernel
theorem dX1_leftAt_10 : decode cX1_leftAt 10 = .ok (.getfield 13, 3) := by decide +kernel
theorem dX1_leftAt_13 : decode cX1_leftAt 13 = .ok (.iload_n 3, 1) := by decide +kernel
theorem dX1_leftAt_14 : decode cX1_leftAt 14 = .ok (.aaload, 1) := by decide +kernel
theorem dX1_leftAt_15 : decode cX1_leftAt 15 = .ok (.getfield 37, 3) := by decide +kernel
theorem dX1_leftAt_18 : decode cX1_leftAt 18 = .ok (.ifCond .eq 18, 3) := by decide +kernel
theorem dX1_leftAt_21 : decode cX1_leftAt 21 = .ok (.iload_n 2, 1) := by decide +kernel
theorem dX1_leftAt_22 : decode cX1_leftAt 22 = .ok (.iload_n 1, 1) := by decide +kernel
theorem dX1_leftAt_23 : decode cX1_leftAt 23 = .ok (.if_icmp .ne 10, 3) := by decide +kernel
theorem dX1_leftAt_26 : decode cX1_leftAt 26 = .ok (.aload_n 0, 1) := by decide +kernel
theorem dX1_leftAt_27 : decode cX1_leftAt 27 = .ok (.getfield 13, 3) := by decide +kernel
theorem dX1_leftAt_30 : decode cX1_leftAt 30 = .ok (.iload_n 3, 1) := by decide +kernel
theorem dX1_leftAt_31 : decode cX1_leftAt 31 = .ok (.aaload, 1) := by decide +kernel
theorem dX1_leftAt_32 : decode cX1_leftAt 32 = .ok (.areturn, 1) := by decide +kernel
theorem dX1_leftAt_33 : decode cX1_leftAt 33 = .ok (.iinc 2 1, 3) := by decide +kernel
theorem dX1_leftAt_36 : decode cX1_leftAt 36 = .ok (.iinc 3 1, 3) := by decide +kernel
theorem dX1_leftAt_39 : decode cX1_leftAt 39 = .ok (.goto (-35), 3) := by decide +kernel
theorem dX1_leftAt_42 : decode cX1_leftAt 42 = .ok (.aconst_null, 1) := by decide +kernel
theorem dX1_leftAt_43 : decode cX1_leftAt 43 = .ok (.areturn, 1) := by decide +kernel
theorem dX2_init_0 : decode cX2_init 0 = .ok (.aload_n 0, 1) := by decide +kernel
theorem dX2_init_1 : decode cX2_init 1 = .ok (.invokespecial 3, 3) := by decide +kernel
theorem dX2_init_4 : decode cX2_init 4 = .ok (.aload_n 0, 1) := by decide +kernel
theorem dX2_init_5 : decode cX2_init 5 = .ok (.bipush 10, 2) := by decide +kernel
theorem dX2_init_7 : decode cX2_init 7 = .ok (.newarray .boolean, 2) := by decide +kernel
theorem dX2_init_9 : decode cX2_init 9 = .ok (.putfield 9, 3) := by decide +kernel
theorem dX2_init_12 : decode cX2_init 12 = .ok (.aload_n 0, 1) := by decide +kernel
theorem dX2_init_13 : decode cX2_init 13 = .ok (.bipush 10, 2) := by decide +kernel
theorem dX2_init_15 : decode cX2_init 15 = .ok (.newarray .int, 2) := by decide +kernel
theorem dX2_init_17 : decode cX2_init 17 = .ok (.putfield 15, 3) := by decide +kernel
theorem dX2_init_20 : decode cX2_init 20 = .ok (.aload_n 0, 1) := by decide +kernel
theorem dX2_init_21 : decode cX2_init 21 = .ok (.bipush 10, 2) := by decide +kernel
theorem dX2_init_23 : decode cX2_init 23 = .ok (.newarray .int, 2) := by decide +kernel
theorem dX2_init_25 : decode cX2_init 25 = .ok (.putfield 19, 3) := by decide +kernel
theorem dX2_init_28 : decode cX2_init 28 = .ok (.return_, 1) := by decide +kernel
theorem dX2_put_0 : decode cX2_put 0 = .ok (.iload_n 1, 1) := by decide +kernel
theorem dX2_put_1 : decode cX2_put 1 = .ok (.invokestatic 22, 3) := by decide +kernel
theorem dX2_put_4 : decode cX2_put 4 = .ok (.ifCond .ne 4, 3) := by decide +kernel
theorem dX2_put_7 : decode cX2_put 7 = .ok (.return_, 1) := by decide +kernel
theorem dX2_put_8 : decode cX2_put 8 = .ok (.aload_n 0, 1) := by decide +kernel
theorem dX2_put_9 : decode cX2_put 9 = .ok (.getfield 9, 3) := by decide +kernel
theorem dX2_put_12 : decode cX2_put 12 = .ok (.iload_n 1, 1) := by decide +kernel
theorem dX2_put_13 : decode cX2_put 13 = .ok (.iconst 1, 1) := by decide +kernel
theorem dX2_put_14 : decode cX2_put 14 = .ok (.bastore, 1) := by decide +kernel
theorem dX2_put_15 : decode cX2_put 15 = .ok (.aload_n 0, 1) := by decide +kernel
theorem dX2_put_16 : decode cX2_put 16 = .ok (.getfield 15, 3) := by decide +kernel
theorem dX2_put_19 : decode cX2_put 19 = .ok (.iload_n 1, 1) := by decide +kernel
theorem dX2_put_20 : decode cX2_put 20 = .ok (.iload_n 2, 1) := by decide +kernel
theorem dX2_put_21 : decode cX2_put 21 = .ok (.iastore, 1) := by decide +kernel
theorem dX2_put_22 : decode cX2_put 22 = .ok (.aload_n 0, 1) := by decide +kernel
theorem dX2_put_23 : decode cX2_put 23 = .ok (.getfield 19, 3) := by decide +kernel
theorem dX2_put_26 : decode cX2_put 26 = .ok (.iload_n 1, 1) := by decide +kernel
theorem dX2_put_27 : decode cX2_put 27 = .ok (.iload_n 3, 1) := by decide +kernel
theorem dX2_put_28 : decode cX2_put 28 = .ok (.iastore, 1) := by decide +kernel
theorem dX2_put_29 : decode cX2_put 29 = .ok (.return_, 1) := by decide +kernel
theorem dX2_join_0 : decode cX2_join 0 = .ok (.aload_n 1, 1) := by decide +kernel
theorem dX2_join_1 : decode cX2_join 1 = .ok (.getfield 26, 3) := by decide +kernel
theorem dX2_join_4 : decode cX2_join 4 = .ok (.istore_n 3, 1) := by decide +kernel
theorem dX2_join_5 : decode cX2_join 5 = .ok (.iload_n 3, 1) := by decide +kernel
theorem dX2_join_6 : decode cX2_join 6 = .ok (.invokestatic 22, 3) := by decide +kernel
theorem dX2_join_9 : decode cX2_join 9 = .ok (.ifCond .ne 5, 3) := by decide +kernel
theorem dX2_join_12 : decode cX2_join 12 = .ok (.iconst 0, 1) := by decide +kernel
theorem dX2_join_13 : decode cX2_join 13 = .ok (.ireturn, 1) := by decide +kernel
theorem dX2_join_14 : decode cX2_join 14 = .ok (.aload_n 0, 1) := by decide +kernel
theorem dX2_join_15 : decode cX2_join 15 = .ok (.getfield 9, 3) := by decide +kernel
theorem dX2_join_18 : decode cX2_join 18 = .ok (.iload_n 3, 1) := by decide +kernel
theorem dX2_join_19 : decode cX2_join 19 = .ok (.baload, 1) := by decide +kernel
theorem dX2_join_20 : decode cX2_join 20 = .ok (.ifCond .ne 18, 3) := by decide +kernel
theorem dX2_join_23 : decode cX2_join 23 = .ok (.aload_n 0, 1) := by decide +kernel
theorem dX2_join_24 : decode cX2_join 24 = .ok (.iload_n 3, 1) := by decide +kernel
theorem dX2_join_25 : decode cX2_join 25 = .ok (.aload_n 1, 1) := by decide +kernel
theorem dX2_join_26 : decode cX2_join 26 = .ok (.getfield 32, 3) := by decide +kernel
theorem dX2_join_29 : decode cX2_join 29 = .ok (.aload_n 1, 1) := by decide +kernel
theorem dX2_join_30 : decode cX2_join 30 = .ok (.getfield 35, 3) := by decide +kernel
theorem dX2_join_33 : decode cX2_join 33 = .ok (.invokevirtual 38, 3) := by decide +kernel
theorem dX2_join_36 : decode cX2_join 36 = .ok (.iconst 1, 1) := by decide +kernel
theorem dX2_join_37 : decode cX2_join 37 = .ok (.ireturn, 1) := by decide +kernel
theorem dX2_join_38 : decode cX2_join 38 = .ok (.aload_n 1, 1) := by decide +kernel
theorem dX2_join_39 : decode cX2_join 39 = .ok (.getfield 32, 3) := by decide +kernel
theorem dX2_join_42 : decode cX2_join 42 = .ok (.aload_n 0, 1) := by decide +kernel
theorem dX2_join_43 : decode cX2_join 43 = .ok (.getfield 15, 3) := by decide +kernel
theorem dX2_join_46 : decode cX2_join 46 = .ok (.iload_n 3, 1) := by decide +kernel
theorem dX2_join_47 : decode cX2_join 47 = .ok (.iaload, 1) := by decide +kernel
theorem dX2_join_48 : decode cX2_join 48 = .ok (.if_icmp .ge 7, 3) := by decide +kernel
theorem dX2_join_51 : decode cX2_join 51 = .ok (.iconst 1, 1) := by decide +kernel
theorem dX2_join_52 : decode cX2_join 52 = .ok (.goto 4, 3) := by decide +kernel
theorem dX2_join_55 : decode cX2_join 55 = .ok (.iconst 0, 1) := by decide +kernel
theorem dX2_join_56 : decode cX2_join 56 = .ok (.istore 4, 2) := by decide +kernel
theorem dX2_join_58 : decode cX2_join 58 = .ok (.aload_n 1, 1) := by decide +kernel
theorem dX2_join_59 : decode cX2_join 59 = .ok (.getfield 35, 3) := by decide +kernel
theorem dX2_join_62 : decode cX2_join 62 = .ok (.aload_n 0, 1) := by decide +kernel
theorem dX2_join_63 : decode cX2_join 63 = .ok (.getfield 19, 3) := by decide +kernel
theorem dX2_join_66 : decode cX2_join 66 = .ok (.iload_n 3, 1) := by decide +kernel
theorem dX2_join_67 : decode cX2_join 67 = .ok (.iaload, 1) := by decide +kernel
theorem dX2_join_68 : decode cX2_join 68 = .ok (.if_icmp .le 7, 3) := by decide +kernel
theorem dX2_join_71 : decode cX2_join 71 = .ok (.iconst 1, 1) := by decide +kernel
theorem dX2_join_72 : decode cX2_join 72 = .ok (.goto 4, 3) := by decide +kernel
theorem dX2_join_75 : decode cX2_join 75 = .ok (.iconst 0, 1) := by decide +kernel
theorem dX2_join_76 : decode cX2_join 76 = .ok (.istore 5, 2) := by decide +kernel
theorem dX2_join_78 : decode cX2_join 78 = .ok (.iload 4, 2) := by decide +kernel
theorem dX2_join_80 : decode cX2_join 80 = .ok (.ifCond .eq 27, 3) := by decide +kernel
theorem dX2_join_83 : decode cX2_join 83 = .ok (.aload_n 0, 1) := by decide +kernel
theorem dX2_join_84 : decode cX2_join 84 = .ok (.getfield 15, 3) := by decide +kernel
theorem dX2_join_87 : decode cX2_join 87 = .ok (.iload_n 3, 1) := by decide +kernel
theorem dX2_join_88 : decode cX2_join 88 = .ok (.iload_n 2, 1) := by decide +kernel
theorem dX2_join_89 : decode cX2_join 89 = .ok (.ifCond .eq 13, 3) := by decide +kernel
theorem dX2_join_92 : decode cX2_join 92 = .ok (.aload_n 1, 1) := by decide +kernel
theorem dX2_join_93 : decode cX2_join 93 = .ok (.getfield 32, 3) := by decide +kernel
theorem dX2_join_96 : decode cX2_join 96 = .ok (.invokestatic 42, 3) := by decide +kernel
theorem dX2_join_99 : decode cX2_join 99 = .ok (.goto 7, 3) := by decide +kernel
theorem dX2_join_102 : decode cX2_join 102 = .ok (.aload_n 1, 1) := by decide +kernel
theorem dX2_join_103 : decode cX2_join 103 = .ok (.getfield 32, 3) := by decide +kernel
theorem dX2_join_106 : decode cX2_join 106 = .ok (.iastore, 1) := by decide +kernel
theorem dX2_join_107 : decode cX2_join 107 = .ok (.iload 5, 2) := by decide +kernel
theorem dX2_join_109 : decode cX2_join 109 = .ok (.ifCond .eq 27, 3) := by decide +kernel
theorem dX2_join_112 : decode cX2_join 112 = .ok (.aload_n 0, 1) := by decide +kernel
theorem dX2_join_113 : decode cX2_join 113 = .ok (.getfield 19, 3) := by decide +kernel
theorem dX2_join_116 : decode cX2_join 116 = .ok (.iload_n 3, 1) := by decide +kernel
theorem dX2_join_117 : decode cX2_join 117 = .ok (.iload_n 2, 1) := by decide +kernel
theorem dX2_join_118 : decode cX2_join 118 = .ok (.ifCond .eq 13, 3) := by decide +kernel
theorem dX2_join_121 : decode cX2_join 121 = .ok (.aload_n 1, 1) := by decide +kernel
theorem dX2_join_122 : decode cX2_join 122 = .ok (.getfield 35, 3) := by decide +kernel
theorem dX2_join_125 : decode cX2_join 125 = .ok (.invokestatic 46, 3) := by decide +kernel
theorem dX2_join_128 : decode cX2_join 128 = .ok (.goto 7, 3) := by decide +kernel
theorem dX2_join_131 : decode cX2_join 131 = .ok (.aload_n 1, 1) := by decide +kernel
theorem dX2_join_132 : decode cX2_join 132 = .ok (.getfield 35, 3) := by decide +kernel
theorem dX2_join_135 : decode cX2_join 135 = .ok (.iastore, 1) := by decide +kernel
theorem dX2_join_136 : decode cX2_join 136 = .ok (.iload 4, 2) := by decide +kernel
theorem dX2_join_138 : decode cX2_join 138 = .ok (.ifCond .ne 8, 3) := by decide +kernel
theorem dX2_join_141 : decode cX2_join 141 = .ok (.iload 5, 2) := by decide +kernel
theorem dX2_join_143 : decode cX2_join 143 = .ok (.ifCond .eq 7, 3) := by decide +kernel
theorem dX2_join_146 : decode cX2_join 146 = .ok (.iconst 1, 1) := by decide +kernel
theorem dX2_join_147 : decode cX2_join 147 = .ok (.goto 4, 3) := by decide +kernel
theorem dX2_join_150 : decode cX2_join 150 = .ok (.iconst 0, 1) := by decide +kernel
theorem dX2_join_151 : decode cX2_join 151 = .ok (.ireturn, 1) := by decide +kernel
theorem dX2_forgetAll_0 : decode cX2_forgetAll 0 = .ok (.iconst 0, 1) := by decide +kernel
theorem dX2_forgetAll_1 : decode cX2_forgetAll 1 = .ok (.istore_n 1, 1) := by decide +kernel
theorem dX2_forgetAll_2 : decode cX2_forgetAll 2 = .ok (.iconst 0, 1) := by decide +kernel
theorem dX2_forgetAll_3 : decode cX2_forgetAll 3 = .ok (.istore_n 2, 1) := by decide +kernel
theorem dX2_forgetAll_4 : decode cX2_forgetAll 4 = .ok (.iload_n 2, 1) := by decide +kernel
theorem dX2_forgetAll_5 : decode cX2_forgetAll 5 = .ok (.bipush 10, 2) := by decide +kernel
theorem dX2_forgetAll_7 : decode cX2_forgetAll 7 = .ok (.if_icmp .ge 28, 3) := by decide +kernel
theorem dX2_forgetAll_10 : decode cX2_forgetAll 10 = .ok (.aload_n 0, 1) := by decide +kernel
theorem dX2_forgetAll_11 : decode cX2_forgetAll 11 = .ok (.getfield 9, 3) := by decide +kernel
theorem dX2_forgetAll_14 : decode cX2_forgetAll 14 = .ok (.iload_n 2, 1) := by decide +kernel
theorem dX2_forgetAll_15 : decode cX2_forgetAll 15 = .ok (.baload, 1) := by decide +kernel
theorem dX2_forgetAll_16 : decode cX2_forgetAll 16 = .ok (.ifCond .eq 13, 3) := by decide +kernel
theorem dX2_forgetAll_19 : decode cX2_forgetAll 19 = .ok (.iinc 1 1, 3) := by decide +kernel
theorem dX2_forgetAll_22 : decode cX2_forgetAll 22 = .ok (.aload_n 0, 1) := by decide +kernel
theorem dX2_forgetAll_23 : decode cX2_forgetAll 23 = .ok (.getfield 9, 3) := by decide +kernel
theorem dX2_forgetAll_26 : decode cX2_forgetAll 26 = .ok (.iload_n 2, 1) := by decide +kernel
theorem dX2_forgetAll_27 : decode cX2_forgetAll 27 = .ok (.iconst 0, 1) := by decide +kernel
theorem dX2_forgetAll_28 : decode cX2_forgetAll 28 = .ok (.bastore, 1) := by decide +kernel
theorem dX2_forgetAll_29 : decode cX2_forgetAll 29 = .ok (.iinc 2 1, 3) := by decide +kernel
theorem dX2_forgetAll_32 : decode cX2_forgetAll 32 = .ok (.goto (-28), 3) := by decide +kernel
theorem dX2_forgetAll_35 : decode cX2_forgetAll 35 = .ok (.iload_n 1, 1) := by decide +kernel
theorem dX2_forgetAll_36 : decode cX2_forgetAll 36 = .ok (.ireturn, 1) := by decide +kernel
theorem dX2_boundBelow_0 : decode cX2_boundBelow 0 = .ok (.getstatic 49, 3) := by decide +kernel
theorem dX2_boundBelow_3 : decode cX2_boundBelow 3 = .ok (.arraylength, 1) := by decide +kernel
theorem dX2_boundBelow_4 : decode cX2_boundBelow 4 = .ok (.iconst 1, 1) := by decide +kernel
theorem dX2_boundBelow_5 : decode cX2_boundBelow 5 = .ok (.isub, 1) := by decide +kernel
theorem dX2_boundBelow_6 : decode cX2_boundBelow 6 = .ok (.istore_n 1, 1) := by decide +kernel
theorem dX2_boundBelow_7 : decode cX2_boundBelow 7 = .ok (.iload_n 1, 1) := by decide +kernel
theorem dX2_boundBelow_8 : decode cX2_boundBelow 8 = .ok (.ifCond .lt 24, 3) := by decide +kernel
theorem dX2_boundBelow_11 : decode cX2_boundBelow 11 = .ok (.getstatic 49, 3) := by decide +kernel
theorem dX2_boundBelow_14 : decode cX2_boundBelow 14 = .ok (.iload_n 1, 1) := by decide +kernel
theorem dX2_boundBelow_15 : decode cX2_boundBelow 15 = .ok (.iaload, 1) := by decide +kernel
theorem dX2_boundBelow_16 : decode cX2_boundBelow 16 = .ok (.iload_n 0, 1) := by decide +kernel
theorem dX2_boundBelow_17 : decode cX2_boundBelow 17 = .ok (.if_icmp .gt 9, 3) := by decide +kernel
theorem dX2_boundBelow_20 : decode cX2_boundBelow 20 = .ok (.getstatic 49, 3) := by decide +kernel
theorem dX2_boundBelow_23 : decode cX2_boundBelow 23 = .ok (.iload_n 1, 1) := by decide +kernel
theorem dX2_boundBelow_24 : decode cX2_boundBelow 24 = .ok (.iaload, 1) := by decide +kernel
theorem dX2_boundBelow_25 : decode cX2_boundBelow 25 = .ok (.ireturn, 1) := by decide +kernel
theorem dX2_boundBelow_26 : decode cX2_boundBelow 26 = .ok (.iinc 1 (-1), 3) := by decide +kernel
theorem dX2_boundBelow_29 : decode cX2_boundBelow 29 = .ok (.goto (-22), 3) := by decide +kernel
theorem dX2_boundBelow_32 : decode cX2_boundBelow 32 = .ok (.ldc 52, 2) := by decide +kernel
theorem dX2_boundBelow_34 : decode cX2_boundBelow 34 = .ok (.ireturn, 1) := by decide +kernel
theorem dX2_boundAbove_0 : decode cX2_boundAbove 0 = .ok (.iconst 0, 1) := by decide +kernel
theorem dX2_boundAbove_1 : decode cX2_boundAbove 1 = .ok (.istore_n 1, 1) := by decide +kernel
theorem dX2_boundAbove_2 : decode cX2_boundAbove 2 = .ok (.iload_n 1, 1) := by decide +kernel
theorem dX2_boundAbove_3 : decode cX2_boundAbove 3 = .ok (.getstatic 49, 3) := by decide +kernel
theorem dX2_boundAbove_6 : decode cX2_boundAbove 6 = .ok (.arraylength, 1) := by decide +kernel
theorem dX2_boundAbove_7 : decode cX2_boundAbove 7 = .ok (.if_icmp .ge 24, 3) := by decide +kernel
theorem dX2_boundAbove_10 : decode cX2_boundAbove 10 = .ok (.getstatic 49, 3) := by decide +kernel
theorem dX2_boundAbove_13 : decode cX2_boundAbove 13 = .ok (.iload_n 1, 1) := by decide +kernel
theorem dX2_boundAbove_14 : decode cX2_boundAbove 14 = .ok (.iaload, 1) := by decide +kernel
theorem dX2_boundAbove_15 : decode cX2_boundAbove 15 = .ok (.iload_n 0, 1) := by decide +kernel
theorem dX2_boundAbove_16 : decode cX2_boundAbove 16 = .ok (.if_icmp .lt 9, 3) := by decide +kernel
theorem dX2_boundAbove_19 : decode cX2_boundAbove 19 = .ok (.getstatic 49, 3) := by decide +kernel
theorem dX2_boundAbove_22 : decode cX2_boundAbove 22 = .ok (.iload_n 1, 1) := by decide +kernel
theorem dX2_boundAbove_23 : decode cX2_boundAbove 23 = .ok (.iaload, 1) := by decide +kernel
theorem dX2_boundAbove_24 : decode cX2_boundAbove 24 = .ok (.ireturn, 1) := by decide +kernel
theorem dX2_boundAbove_25 : decode cX2_boundAbove 25 = .ok (.iinc 1 1, 3) := by decide +kernel
theorem dX2_boundAbove_28 : decode cX2_boundAbove 28 = .ok (.goto (-26), 3) := by decide +kernel
theorem dX2_boundAbove_31 : decode cX2_boundAbove 31 = .ok (.ldc 53, 2) := by decide +kernel
theorem dX2_boundAbove_33 : decode cX2_boundAbove 33 = .ok (.ireturn, 1) := by decide +kernel
theorem dX3_init_0 : decode cX3_init 0 = .ok (.aload_n 0, 1) := by decide +kernel
theorem dX3_init_1 : decode cX3_init 1 = .ok (.invokespecial 3, 3) := by decide +kernel
theorem dX3_init_4 : decode cX3_init 4 = .ok (.aload_n 0, 1) := by decide +kernel
theorem dX3_init_5 : decode cX3_init 5 = .ok (.bipush 10, 2) := by decide +kernel
theorem dX3_init_7 : decode cX3_init 7 = .ok (.anewarray 9, 3) := by decide +kernel
theorem dX3_init_10 : decode cX3_init 10 = .ok (.putfield 11, 3) := by decide +kernel
theorem dX3_init_13 : decode cX3_init 13 = .ok (.aload_n 0, 1) := by decide +kernel
theorem dX3_init_14 : decode cX3_init 14 = .ok (.iconst 0, 1) := by decide +kernel
theorem dX3_init_15 : decode cX3_init 15 = .ok (.putfield 17, 3) := by decide +kernel
theorem dX3_init_18 : decode cX3_init 18 = .ok (.aload_n 0, 1) := by decide +kernel
theorem dX3_init_19 : decode cX3_init 19 = .ok (.iconst 0, 1) := by decide +kernel
theorem dX3_init_20 : decode cX3_init 20 = .ok (.putfield 21, 3) := by decide +kernel
theorem dX3_init_23 : decode cX3_init 23 = .ok (.return_, 1) := by decide +kernel
theorem dX3_fill_0 : decode cX3_fill 0 = .ok (.aload_n 0, 1) := by decide +kernel
theorem dX3_fill_1 : decode cX3_fill 1 = .ok (.iconst 0, 1) := by decide +kernel
theorem dX3_fill_2 : decode cX3_fill 2 = .ok (.putfield 17, 3) := by decide +kernel
theorem dX3_fill_5 : decode cX3_fill 5 = .ok (.aload_n 0, 1) := by decide +kernel
theorem dX3_fill_6 : decode cX3_fill 6 = .ok (.iload_n 2, 1) := by decide +kernel
theorem dX3_fill_7 : decode cX3_fill 7 = .ok (.aload_n 1, 1) := by decide +kernel
theorem dX3_fill_8 : decode cX3_fill 8 = .ok (.arraylength, 1) := by decide +kernel
theorem dX3_fill_9 : decode cX3_fill 9 = .ok (.bipush 10, 2) := by decide +kernel
theorem dX3_fill_11 : decode cX3_fill 11 = .ok (.invokestatic 24, 3) := by decide +kernel
theorem dX3_fill_14 : decode cX3_fill 14 = .ok (.invokestatic 24, 3) := by decide +kernel
theorem dX3_fill_17 : decode cX3_fill 17 = .ok (.putfield 21, 3) := by decide +kernel
theorem dX3_fill_20 : decode cX3_fill 20 = .ok (.iconst 0, 1) := by decide +kernel
theorem dX3_fill_21 : decode cX3_fill 21 = .ok (.istore_n 3, 1) := by decide +kernel
theorem dX3_fill_22 : decode cX3_fill 22 = .ok (.iload_n 3, 1) := by decide +kernel
theorem dX3_fill_23 : decode cX3_fill 23 = .ok (.aload_n 0, 1) := by decide +kernel
theorem dX3_fill_24 : decode cX3_fill 24 = .ok (.getfield 21, 3) := by decide +kernel
theorem dX3_fill_27 : decode cX3_fill 27 = .ok (.if_icmp .ge 18, 3) := by decide +kernel
theorem dX3_fill_30 : decode cX3_fill 30 = .ok (.aload_n 0, 1) := by decide +kernel
theorem dX3_fill_31 : decode cX3_fill 31 = .ok (.getfield 11, 3) := by decide +kernel
theorem dX3_fill_34 : decode cX3_fill 34 = .ok (.iload_n 3, 1) := by decide +kernel
theorem dX3_fill_35 : decode cX3_fill 35 = .ok (.aload_n 1, 1) := by decide +kernel
theorem dX3_fill_36 : decode cX3_fill 36 = .ok (.iload_n 3, 1) := by decide +kernel
theorem dX3_fill_37 : decode cX3_fill 37 = .ok (.aaload, 1) := by decide +kernel
theorem dX3_fill_38 : decode cX3_fill 38 = .ok (.aastore, 1) := by decide +kernel
theorem dX3_fill_39 : decode cX3_fill 39 = .ok (.iinc 3 1, 3) := by decide +kernel
theorem dX3_fill_42 : decode cX3_fill 42 = .ok (.goto (-20), 3) := by decide +kernel
theorem dX3_fill_45 : decode cX3_fill 45 = .ok (.return_, 1) := by decide +kernel
theorem dX3_takeFirst_0 : decode cX3_takeFirst 0 = .ok (.aload_n 0, 1) := by decide +kernel
theorem dX3_takeFirst_1 : decode cX3_takeFirst 1 = .ok (.getfield 17, 3) := by decide +kernel
theorem dX3_takeFirst_4 : decode cX3_takeFirst 4 = .ok (.aload_n 0, 1) := by decide +kernel
theorem dX3_takeFirst_5 : decode cX3_takeFirst 5 = .ok (.getfield 21, 3) := by decide +kernel
theorem dX3_takeFirst_8 : decode cX3_takeFirst 8 = .ok (.if_icmp .lt 5, 3) := by decide +kernel
theorem dX3_takeFirst_11 : decode cX3_takeFirst 11 = .ok (.aconst_null, 1) := by decide +kernel
theorem dX3_takeFirst_12 : decode cX3_takeFirst 12 = .ok (.areturn, 1) := by decide +kernel
theorem dX3_takeFirst_13 : decode cX3_takeFirst 13 = .ok (.aload_n 0, 1) := by decide +kernel
theorem dX3_takeFirst_14 : decode cX3_takeFirst 14 = .ok (.dup, 1) := by decide +kernel
theorem dX3_takeFirst_15 : decode cX3_takeFirst 15 = .ok (.getfield 17, 3) := by decide +kernel
theorem dX3_takeFirst_18 : decode cX3_takeFirst 18 = .ok (.iconst 1, 1) := by decide +kernel
theorem dX3_takeFirst_19 : decode cX3_takeFirst 19 = .ok (.iadd, 1) := by decide +kernel
theorem dX3_takeFirst_20 : decode cX3_takeFirst 20 = .ok (.putfield 17, 3) := by decide +kernel
theorem dX3_takeFirst_23 : decode cX3_takeFirst 23 = .ok (.aload_n 0, 1) := by decide +kernel
theorem dX3_takeFirst_24 : decode cX3_takeFirst 24 = .ok (.getfield 11, 3) := by decide +kernel
theorem dX3_takeFirst_27 : decode cX3_takeFirst 27 = .ok (.aload_n 0, 1) := by decide +kernel
theorem dX3_takeFirst_28 : decode cX3_takeFirst 28 = .ok (.getfield 17, 3) := by decide +kernel
theorem dX3_takeFirst_31 : decode cX3_takeFirst 31 = .ok (.iconst 1, 1) := by decide +kernel
theorem dX3_takeFirst_32 : decode cX3_takeFirst 32 = .ok (.isub, 1) := by decide +kernel
theorem dX3_takeFirst_33 : decode cX3_takeFirst 33 = .ok (.aaload, 1) := by decide +kernel
theorem dX3_takeFirst_34 : decode cX3_takeFirst 34 = .ok (.areturn, 1) := by decide +kernel
theorem dX3_putInFront_0 : decode cX3_putInFront 0 = .ok (.aload_n 0, 1) := by decide +kernel
theorem dX3_putInFront_1 : decode cX3_putInFront 1 = .ok (.getfield 17, 3) := by decide +kernel
theorem dX3_putInFront_4 : decode cX3_putInFront 4 = .ok (.ifCond .le 23, 3) := by decide +kernel
theorem dX3_putInFront_7 : decode cX3_putInFront 7 = .ok (.aload_n 0, 1) := by decide +kernel
theorem dX3_putInFront_8 : decode cX3_putInFront 8 = .ok (.dup, 1) := by decide +kernel
theorem dX3_putInFront_9 : decode cX3_putInFront 9 = .ok (.getfield 17, 3) := by decide +kernel
theorem dX3_putInFront_12 : decode cX3_putInFront 12 = .ok (.iconst 1, 1) := by decide +kernel
theorem dX3_putInFront_13 : decode cX3_putInFront 13 = .ok (.isub, 1) := by decide +kernel
theorem dX3_putInFront_14 : decode cX3_putInFront 14 = .ok (.putfield 17, 3) := by decide +kernel
theorem dX3_putInFront_17 : decode cX3_putInFront 17 = .ok (.aload_n 0, 1) := by decide +kernel
theorem dX3_putInFront_18 : decode cX3_putInFront 18 = .ok (.getfield 11, 3) := by decide +kernel
theorem dX3_putInFront_21 : decode cX3_putInFront 21 = .ok (.aload_n 0, 1) := by decide +kernel
theorem dX3_putInFront_22 : decode cX3_putInFront 22 = .ok (.getfield 17, 3) := by decide +kernel
theorem dX3_putInFront_25 : decode cX3_putInFront 25 = .ok (.aload_n 1, 1) := by decide +kernel
theorem dX3_putInFront_26 : decode cX3_putInFront 26 = .ok (.aastore, 1) := by decide +kernel
theorem dX3_putInFront_27 : decode cX3_putInFront 27 = .ok (.return_, 1) := by decide +kernel
theorem dX4_init_0 : decode cX4_init 0 = .ok (.aload_n 0, 1) := by decide +kernel
theorem dX4_init_1 : decode cX4_init 1 = .ok (.invokespecial 3, 3) := by decide +kernel
theorem dX4_init_4 : decode cX4_init 4 = .ok (.aload_n 0, 1) := by decide +kernel
theorem dX4_init_5 : decode cX4_init 5 = .ok (.bipush 8, 2) := by decide +kernel
theorem dX4_init_7 : decode cX4_init 7 = .ok (.newarray .int, 2) := by decide +kernel
theorem dX4_init_9 : decode cX4_init 9 = .ok (.putfield 11, 3) := by decide +kernel
theorem dX4_init_12 : decode cX4_init 12 = .ok (.aload_n 0, 1) := by decide +kernel
theorem dX4_init_13 : decode cX4_init 13 = .ok (.bipush 8, 2) := by decide +kernel
theorem dX4_init_15 : decode cX4_init 15 = .ok (.newarray .int, 2) := by decide +kernel
theorem dX4_init_17 : decode cX4_init 17 = .ok (.putfield 15, 3) := by decide +kernel
theorem dX4_init_20 : decode cX4_init 20 = .ok (.aload_n 0, 1) := by decide +kernel
theorem dX4_init_21 : decode cX4_init 21 = .ok (.bipush 8, 2) := by decide +kernel
theorem dX4_init_23 : decode cX4_init 23 = .ok (.newarray .int, 2) := by decide +kernel
theorem dX4_init_25 : decode cX4_init 25 = .ok (.putfield 18, 3) := by decide +kernel
theorem dX4_init_28 : decode cX4_init 28 = .ok (.aload_n 0, 1) := by decide +kernel
theorem dX4_init_29 : decode cX4_init 29 = .ok (.iconst 0, 1) := by decide +kernel
theorem dX4_init_30 : decode cX4_init 30 = .ok (.putfield 21, 3) := by decide +kernel
theorem dX4_init_33 : decode cX4_init 33 = .ok (.aload_n 0, 1) := by decide +kernel
theorem dX4_init_34 : decode cX4_init 34 = .ok (.iconst 0, 1) := by decide +kernel
theorem dX4_init_35 : decode cX4_init 35 = .ok (.putfield 25, 3) := by decide +kernel
theorem dX4_init_38 : decode cX4_init 38 = .ok (.aload_n 0, 1) := by decide +kernel
theorem dX4_init_39 : decode cX4_init 39 = .ok (.ldc 28, 2) := by decide +kernel
theorem dX4_init_41 : decode cX4_init 41 = .ok (.putfield 29, 3) := by decide +kernel
theorem dX4_init_44 : decode cX4_init 44 = .ok (.aload_n 0, 1) := by decide +kernel
theorem dX4_init_45 : decode cX4_init 45 = .ok (.iconst 0, 1) := by decide +kernel
theorem dX4_init_46 : decode cX4_init 46 = .ok (.putfield 34, 3) := by decide +kernel
theorem dX4_init_49 : decode cX4_init 49 = .ok (.aload_n 0, 1) := by decide +kernel
theorem dX4_init_50 : decode cX4_init 50 = .ok (.iconst 0, 1) := by decide +kernel
theorem dX4_init_51 : decode cX4_init 51 = .ok (.putfield 37, 3) := by decide +kernel
theorem dX4_init_54 : decode cX4_init 54 = .ok (.aload_n 0, 1) := by decide +kernel
theorem dX4_init_55 : decode cX4_init 55 = .ok (.iconst 0, 1) := by decide +kernel
theorem dX4_init_56 : decode cX4_init 56 = .ok (.putfield 40, 3) := by decide +kernel
theorem dX4_init_59 : decode cX4_init 59 = .ok (.return_, 1) := by decide +kernel
theorem dX4_addAct_0 : decode cX4_addAct 0 = .ok (.aload_n 0, 1) := by decide +kernel
theorem dX4_addAct_1 : decode cX4_addAct 1 = .ok (.getfield 25, 3) := by decide +kernel
theorem dX4_addAct_4 : decode cX4_addAct 4 = .ok (.bipush 8, 2) := by decide +kernel
theorem dX4_addAct_6 : decode cX4_addAct 6 = .ok (.if_icmp .lt 5, 3) := by decide +kernel
theorem dX4_addAct_9 : decode cX4_addAct 9 = .ok (.iconst 0, 1) := by decide +kernel
theorem dX4_addAct_10 : decode cX4_addAct 10 = .ok (.ireturn, 1) := by decide +kernel
theorem dX4_addAct_11 : decode cX4_addAct 11 = .ok (.aload_n 0, 1) := by decide +kernel
theorem dX4_addAct_12 : decode cX4_addAct 12 = .ok (.getfield 11, 3) := by decide +kernel
theorem dX4_addAct_15 : decode cX4_addAct 15 = .ok (.aload_n 0, 1) := by decide +kernel
theorem dX4_addAct_16 : decode cX4_addAct 16 = .ok (.getfield 25, 3) := by decide +kernel
theorem dX4_addAct_19 : decode cX4_addAct 19 = .ok (.iload_n 1, 1) := by decide +kernel
theorem dX4_addAct_20 : decode cX4_addAct 20 = .ok (.iastore, 1) := by decide +kernel
theorem dX4_addAct_21 : decode cX4_addAct 21 = .ok (.aload_n 0, 1) := by decide +kernel
theorem dX4_addAct_22 : decode cX4_addAct 22 = .ok (.getfield 15, 3) := by decide +kernel
theorem dX4_addAct_25 : decode cX4_addAct 25 = .ok (.aload_n 0, 1) := by decide +kernel
theorem dX4_addAct_26 : decode cX4_addAct 26 = .ok (.getfield 25, 3) := by decide +kernel
theorem dX4_addAct_29 : decode cX4_addAct 29 = .ok (.iload_n 2, 1) := by decide +kernel
theorem dX4_addAct_30 : decode cX4_addAct 30 = .ok (.iastore, 1) := by decide +kernel
theorem dX4_addAct_31 : decode cX4_addAct 31 = .ok (.aload_n 0, 1) := by decide +kernel
theorem dX4_addAct_32 : decode cX4_addAct 32 = .ok (.getfield 18, 3) := by decide +kernel
theorem dX4_addAct_35 : decode cX4_addAct 35 = .ok (.aload_n 0, 1) := by decide +kernel
theorem dX4_addAct_36 : decode cX4_addAct 36 = .ok (.getfield 25, 3) := by decide +kernel
theorem dX4_addAct_39 : decode cX4_addAct 39 = .ok (.iload_n 3, 1) := by decide +kernel
theorem dX4_addAct_40 : decode cX4_addAct 40 = .ok (.iastore, 1) := by decide +kernel
theorem dX4_addAct_41 : decode cX4_addAct 41 = .ok (.aload_n 0, 1) := by decide +kernel
theorem dX4_addAct_42 : decode cX4_addAct 42 = .ok (.dup, 1) := by decide +kernel
theorem dX4_addAct_43 : decode cX4_addAct 43 = .ok (.getfield 25, 3) := by decide +kernel
theorem dX4_addAct_46 : decode cX4_addAct 46 = .ok (.iconst 1, 1) := by decide +kernel
theorem dX4_addAct_47 : decode cX4_addAct 47 = .ok (.iadd, 1) := by decide +kernel
theorem dX4_addAct_48 : decode cX4_addAct 48 = .ok (.putfield 25, 3) := by decide +kernel
theorem dX4_addAct_51 : decode cX4_addAct 51 = .ok (.iconst 1, 1) := by decide +kernel
theorem dX4_addAct_52 : decode cX4_addAct 52 = .ok (.ireturn, 1) := by decide +kernel
theorem dX5_init_0 : decode cX5_init 0 = .ok (.aload_n 0, 1) := by decide +kernel
theorem dX5_init_1 : decode cX5_init 1 = .ok (.invokespecial 3, 3) := by decide +kernel
theorem dX5_init_4 : decode cX5_init 4 = .ok (.aload_n 0, 1) := by decide +kernel
theorem dX5_init_5 : decode cX5_init 5 = .ok (.iconst 0, 1) := by decide +kernel
theorem dX5_init_6 : decode cX5_init 6 = .ok (.putfield 9, 3) := by decide +kernel
theorem dX5_init_9 : decode cX5_init 9 = .ok (.aload_n 0, 1) := by decide +kernel
theorem dX5_init_10 : decode cX5_init 10 = .ok (.ldc 15, 2) := by decide +kernel
theorem dX5_init_12 : decode cX5_init 12 = .ok (.putfield 16, 3) := by decide +kernel
theorem dX5_init_15 : decode cX5_init 15 = .ok (.aload_n 0, 1) := by decide +kernel
theorem dX5_init_16 : decode cX5_init 16 = .ok (.iconst 0, 1) := by decide +kernel
theorem dX5_init_17 : decode cX5_init 17 = .ok (.putfield 21, 3) := by decide +kernel
theorem dX5_init_20 : decode cX5_init 20 = .ok (.aload_n 0, 1) := by decide +kernel
theorem dX5_init_21 : decode cX5_init 21 = .ok (.iconst 0, 1) := by decide +kernel
theorem dX5_init_22 : decode cX5_init 22 = .ok (.putfield 24, 3) := by decide +kernel
theorem dX5_init_25 : decode cX5_init 25 = .ok (.aload_n 0, 1) := by decide +kernel
theorem dX5_init_26 : decode cX5_init 26 = .ok (.iconst 0, 1) := by decide +kernel
theorem dX5_init_27 : decode cX5_init 27 = .ok (.putfield 27, 3) := by decide +kernel
theorem dX5_init_30 : decode cX5_init 30 = .ok (.aload_n 0, 1) := by decide +kernel
theorem dX5_init_31 : decode cX5_init 31 = .ok (.iconst 0, 1) := by decide +kernel
theorem dX5_init_32 : decode cX5_init 32 = .ok (.putfield 30, 3) := by decide +kernel
theorem dX5_init_35 : decode cX5_init 35 = .ok (.return_, 1) := by decide +kernel
theorem dX5_beginRun_0 : decode cX5_beginRun 0 = .ok (.aload_n 0, 1) := by decide +kernel
theorem dX5_beginRun_1 : decode cX5_beginRun 1 = .ok (.iconst 0, 1) := by decide +kernel
theorem dX5_beginRun_2 : decode cX5_beginRun 2 = .ok (.putfield 9, 3) := by decide +kernel
theorem dX5_beginRun_5 : decode cX5_beginRun 5 = .ok (.aload_n 0, 1) := by decide +kernel
theorem dX5_beginRun_6 : decode cX5_beginRun 6 = .ok (.ldc 15, 2) := by decide +kernel
theorem dX5_beginRun_8 : decode cX5_beginRun 8 = .ok (.putfield 16, 3) := by decide +kernel
theorem dX5_beginRun_11 : decode cX5_beginRun 11 = .ok (.aload_n 0, 1) := by decide +kernel
theorem dX5_beginRun_12 : decode cX5_beginRun 12 = .ok (.iconst 0, 1) := by decide +kernel
theorem dX5_beginRun_13 : decode cX5_beginRun 13 = .ok (.putfield 21, 3) := by decide +kernel
theorem dX5_beginRun_16 : decode cX5_beginRun 16 = .ok (.aload_n 0, 1) := by decide +kernel
theorem dX5_beginRun_17 : decode cX5_beginRun 17 = .ok (.iconst 0, 1) := by decide +kernel
theorem dX5_beginRun_18 : decode cX5_beginRun 18 = .ok (.putfield 24, 3) := by decide +kernel
theorem dX5_beginRun_21 : decode cX5_beginRun 21 = .ok (.aload_n 0, 1) := by decide +kernel
theorem dX5_beginRun_22 : decode cX5_beginRun 22 = .ok (.iconst 0, 1) := by decide +kernel
theorem dX5_beginRun_23 : decode cX5_beginRun 23 = .ok (.putfield 27, 3) := by decide +kernel
theorem dX5_beginRun_26 : decode cX5_beginRun 26 = .ok (.aload_n 0, 1) := by decide +kernel
theorem dX5_beginRun_27 : decode cX5_beginRun 27 = .ok (.iconst 0, 1) := by decide +kernel
theorem dX5_beginRun_28 : decode cX5_beginRun 28 = .ok (.putfield 30, 3) := by decide +kernel
theorem dX5_beginRun_31 : decode cX5_beginRun 31 = .ok (.return_, 1) := by decide +kernel
theorem dX6_init_0 : decode cX6_init 0 = .ok (.aload_n 0, 1) := by decide +kernel
theorem dX6_init_1 : decode cX6_init 1 = .ok (.invokespecial 1, 3) := by decide +kernel
theorem dX6_init_4 : decode cX6_init 4 = .ok (.aload_n 0, 1) := by decide +kernel
theorem dX6_init_5 : decode cX6_init 5 = .ok (.new 7, 3) := by decide +kernel
theorem dX6_init_8 : decode cX6_init 8 = .ok (.dup, 1) := by decide +kernel
theorem dX6_init_9 : decode cX6_init 9 = .ok (.invokespecial 9, 3) := by decide +kernel
theorem dX6_init_12 : decode cX6_init 12 = .ok (.putfield 10, 3) := by decide +kernel
theorem dX6_init_15 : decode cX6_init 15 = .ok (.aload_n 0, 1) := by decide +kernel
theorem dX6_init_16 : decode cX6_init 16 = .ok (.iconst 0, 1) := by decide +kernel
theorem dX6_init_17 : decode cX6_init 17 = .ok (.putfield 16, 3) := by decide +kernel
theorem dX6_init_20 : decode cX6_init 20 = .ok (.aload_n 0, 1) := by decide +kernel
theorem dX6_init_21 : decode cX6_init 21 = .ok (.iconst 0, 1) := by decide +kernel
theorem dX6_init_22 : decode cX6_init 22 = .ok (.putfield 20, 3) := by decide +kernel
theorem dX6_init_25 : decode cX6_init 25 = .ok (.aload_n 0, 1) := by decide +kernel
theorem dX6_init_26 : decode cX6_init 26 = .ok (.aconst_null, 1) := by decide +kernel
theorem dX6_init_27 : decode cX6_init 27 = .ok (.putfield 24, 3) := by decide +kernel
theorem dX6_init_30 : decode cX6_init 30 = .ok (.aload_n 0, 1) := by decide +kernel
theorem dX6_init_31 : decode cX6_init 31 = .ok (.iconst 0, 1) := by decide +kernel
theorem dX6_init_32 : decode cX6_init 32 = .ok (.putfield 28, 3) := by decide +kernel
theorem dX6_init_35 : decode cX6_init 35 = .ok (.aload_n 0, 1) := by decide +kernel
theorem dX6_init_36 : decode cX6_init 36 = .ok (.iload_n 1, 1) := by decide +kernel
theorem dX6_init_37 : decode cX6_init 37 = .ok (.putfield 31, 3) := by decide +kernel
theorem dX6_init_40 : decode cX6_init 40 = .ok (.return_, 1) := by decide +kernel
theorem dX6_isToBeLost_0 : decode cX6_isToBeLost 0 = .ok (.aload_n 0, 1) := by decide +kernel
theorem dX6_isToBeLost_1 : decode cX6_isToBeLost 1 = .ok (.getfield 20, 3) := by decide +kernel
theorem dX6_isToBeLost_4 : decode cX6_isToBeLost 4 = .ok (.ifCond .eq 15, 3) := by decide +kernel
theorem dX6_isToBeLost_7 : decode cX6_isToBeLost 7 = .ok (.iload_n 1, 1) := by decide +kernel
theorem dX6_isToBeLost_8 : decode cX6_isToBeLost 8 = .ok (.aload_n 0, 1) := by decide +kernel
theorem dX6_isToBeLost_9 : decode cX6_isToBeLost 9 = .ok (.getfield 20, 3) := by decide +kernel
theorem dX6_isToBeLost_12 : decode cX6_isToBeLost 12 = .ok (.if_icmp .lt 7, 3) := by decide +kernel
theorem dX6_isToBeLost_15 : decode cX6_isToBeLost 15 = .ok (.iconst 1, 1) := by decide +kernel
theorem dX6_isToBeLost_16 : decode cX6_isToBeLost 16 = .ok (.goto 4, 3) := by decide +kernel
theorem dX6_isToBeLost_19 : decode cX6_isToBeLost 19 = .ok (.iconst 0, 1) := by decide +kernel
theorem dX6_isToBeLost_20 : decode cX6_isToBeLost 20 = .ok (.ireturn, 1) := by decide +kernel
theorem dX6_begin_0 : decode cX6_begin 0 = .ok (.aload_n 0, 1) := by decide +kernel
theorem dX6_begin_1 : decode cX6_begin 1 = .ok (.aload_n 1, 1) := by decide +kernel
theorem dX6_begin_2 : decode cX6_begin 2 = .ok (.putfield 24, 3) := by decide +kernel
theorem dX6_begin_5 : decode cX6_begin 5 = .ok (.aload_n 0, 1) := by decide +kernel
theorem dX6_begin_6 : decode cX6_begin 6 = .ok (.iconst 0, 1) := by decide +kernel
theorem dX6_begin_7 : decode cX6_begin 7 = .ok (.putfield 28, 3) := by decide +kernel
theorem dX6_begin_10 : decode cX6_begin 10 = .ok (.aload_n 0, 1) := by decide +kernel
theorem dX6_begin_11 : decode cX6_begin 11 = .ok (.getfield 10, 3) := by decide +kernel
theorem dX6_begin_14 : decode cX6_begin 14 = .ok (.invokevirtual 34, 3) := by decide +kernel
theorem dX6_begin_17 : decode cX6_begin 17 = .ok (.return_, 1) := by decide +kernel
theorem dX7_init_0 : decode cX7_init 0 = .ok (.aload_n 0, 1) := by decide +kernel
theorem dX7_init_1 : decode cX7_init 1 = .ok (.invokespecial 1, 3) := by decide +kernel
theorem dX7_init_4 : decode cX7_init 4 = .ok (.aload_n 0, 1) := by decide +kernel
theorem dX7_init_5 : decode cX7_init 5 = .ok (.new 7, 3) := by decide +kernel
theorem dX7_init_8 : decode cX7_init 8 = .ok (.dup, 1) := by decide +kernel
theorem dX7_init_9 : decode cX7_init 9 = .ok (.invokespecial 9, 3) := by decide +kernel
theorem dX7_init_12 : decode cX7_init 12 = .ok (.putfield 10, 3) := by decide +kernel
theorem dX7_init_15 : decode cX7_init 15 = .ok (.aload_n 0, 1) := by decide +kernel
theorem dX7_init_16 : decode cX7_init 16 = .ok (.bipush 10, 2) := by decide +kernel
theorem dX7_init_18 : decode cX7_init 18 = .ok (.anewarray 16, 3) := by decide +kernel
theorem dX7_init_21 : decode cX7_init 21 = .ok (.putfield 18, 3) := by decide +kernel
theorem dX7_init_24 : decode cX7_init 24 = .ok (.aload_n 0, 1) := by decide +kernel
theorem dX7_init_25 : decode cX7_init 25 = .ok (.new 22, 3) := by decide +kernel
theorem dX7_init_28 : decode cX7_init 28 = .ok (.dup, 1) := by decide +kernel
theorem dX7_init_29 : decode cX7_init 29 = .ok (.invokespecial 24, 3) := by decide +kernel
theorem dX7_init_32 : decode cX7_init 32 = .ok (.putfield 25, 3) := by decide +kernel
theorem dX7_init_35 : decode cX7_init 35 = .ok (.aload_n 0, 1) := by decide +kernel
theorem dX7_init_36 : decode cX7_init 36 = .ok (.new 29, 3) := by decide +kernel
theorem dX7_init_39 : decode cX7_init 39 = .ok (.dup, 1) := by decide +kernel
theorem dX7_init_40 : decode cX7_init 40 = .ok (.invokespecial 31, 3) := by decide +kernel
theorem dX7_init_43 : decode cX7_init 43 = .ok (.putfield 32, 3) := by decide +kernel
theorem dX7_init_46 : decode cX7_init 46 = .ok (.aload_n 0, 1) := by decide +kernel
theorem dX7_init_47 : decode cX7_init 47 = .ok (.new 36, 3) := by decide +kernel
theorem dX7_init_50 : decode cX7_init 50 = .ok (.dup, 1) := by decide +kernel
theorem dX7_init_51 : decode cX7_init 51 = .ok (.invokespecial 38, 3) := by decide +kernel
theorem dX7_init_54 : decode cX7_init 54 = .ok (.putfield 39, 3) := by decide +kernel
theorem dX7_init_57 : decode cX7_init 57 = .ok (.aload_n 0, 1) := by decide +kernel
theorem dX7_init_58 : decode cX7_init 58 = .ok (.iconst 0, 1) := by decide +kernel
theorem dX7_init_59 : decode cX7_init 59 = .ok (.putfield 43, 3) := by decide +kernel
theorem dX7_init_62 : decode cX7_init 62 = .ok (.aload_n 0, 1) := by decide +kernel
theorem dX7_init_63 : decode cX7_init 63 = .ok (.iconst 0, 1) := by decide +kernel
theorem dX7_init_64 : decode cX7_init 64 = .ok (.putfield 47, 3) := by decide +kernel
theorem dX7_init_67 : decode cX7_init 67 = .ok (.aload_n 0, 1) := by decide +kernel
theorem dX7_init_68 : decode cX7_init 68 = .ok (.iconst 3, 1) := by decide +kernel
theorem dX7_init_69 : decode cX7_init 69 = .ok (.putfield 50, 3) := by decide +kernel
theorem dX7_init_72 : decode cX7_init 72 = .ok (.aload_n 0, 1) := by decide +kernel
theorem dX7_init_73 : decode cX7_init 73 = .ok (.sipush 1000, 3) := by decide +kernel
theorem dX7_init_76 : decode cX7_init 76 = .ok (.putfield 53, 3) := by decide +kernel
theorem dX7_init_79 : decode cX7_init 79 = .ok (.iconst 0, 1) := by decide +kernel
theorem dX7_init_80 : decode cX7_init 80 = .ok (.istore_n 1, 1) := by decide +kernel
theorem dX7_init_81 : decode cX7_init 81 = .ok (.iload_n 1, 1) := by decide +kernel
theorem dX7_init_82 : decode cX7_init 82 = .ok (.bipush 10, 2) := by decide +kernel
theorem dX7_init_84 : decode cX7_init 84 = .ok (.if_icmp .ge 22, 3) := by decide +kernel
theorem dX7_init_87 : decode cX7_init 87 = .ok (.aload_n 0, 1) := by decide +kernel
theorem dX7_init_88 : decode cX7_init 88 = .ok (.getfield 18, 3) := by decide +kernel
theorem dX7_init_91 : decode cX7_init 91 = .ok (.iload_n 1, 1) := by decide +kernel
theorem dX7_init_92 : decode cX7_init 92 = .ok (.new 16, 3) := by decide +kernel
theorem dX7_init_95 : decode cX7_init 95 = .ok (.dup, 1) := by decide +kernel
theorem dX7_init_96 : decode cX7_init 96 = .ok (.invokespecial 56, 3) := by decide +kernel
theorem dX7_init_99 : decode cX7_init 99 = .ok (.aastore, 1) := by decide +kernel
theorem dX7_init_100 : decode cX7_init 100 = .ok (.iinc 1 1, 3) := by decide +kernel
theorem dX7_init_103 : decode cX7_init 103 = .ok (.goto (-22), 3) := by decide +kernel
theorem dX7_init_106 : decode cX7_init 106 = .ok (.return_, 1) := by decide +kernel
theorem dX7_share_0 : decode cX7_share 0 = .ok (.iload_n 1, 1) := by decide +kernel
theorem dX7_share_1 : decode cX7_share 1 = .ok (.invokestatic 57, 3) := by decide +kernel
theorem dX7_share_4 : decode cX7_share 4 = .ok (.ifCond .ne 6, 3) := by decide +kernel
theorem dX7_share_7 : decode cX7_share 7 = .ok (.ldc 61, 2) := by decide +kernel
theorem dX7_share_9 : decode cX7_share 9 = .ok (.ireturn, 1) := by decide +kernel
theorem dX7_share_10 : decode cX7_share 10 = .ok (.aload_n 0, 1) := by decide +kernel
theorem dX7_share_11 : decode cX7_share 11 = .ok (.getfield 43, 3) := by decide +kernel
theorem dX7_share_14 : decode cX7_share 14 = .ok (.bipush 10, 2) := by decide +kernel
theorem dX7_share_16 : decode cX7_share 16 = .ok (.if_icmp .lt 6, 3) := by decide +kernel
theorem dX7_share_19 : decode cX7_share 19 = .ok (.ldc 62, 2) := by decide +kernel
theorem dX7_share_21 : decode cX7_share 21 = .ok (.ireturn, 1) := by decide +kernel
theorem dX7_share_22 : decode cX7_share 22 = .ok (.aload_n 0, 1) := by decide +kernel
theorem dX7_share_23 : decode cX7_share 23 = .ok (.getfield 18, 3) := by decide +kernel
theorem dX7_share_26 : decode cX7_share 26 = .ok (.aload_n 0, 1) := by decide +kernel
theorem dX7_share_27 : decode cX7_share 27 = .ok (.getfield 43, 3) := by decide +kernel
theorem dX7_share_30 : decode cX7_share 30 = .ok (.aaload, 1) := by decide +kernel
theorem dX7_share_31 : decode cX7_share 31 = .ok (.iload_n 1, 1) := by decide +kernel
theorem dX7_share_32 : decode cX7_share 32 = .ok (.putfield 63, 3) := by decide +kernel
theorem dX7_share_35 : decode cX7_share 35 = .ok (.aload_n 0, 1) := by decide +kernel
theorem dX7_share_36 : decode cX7_share 36 = .ok (.dup, 1) := by decide +kernel
theorem dX7_share_37 : decode cX7_share 37 = .ok (.getfield 43, 3) := by decide +kernel
theorem dX7_share_40 : decode cX7_share 40 = .ok (.iconst 1, 1) := by decide +kernel
theorem dX7_share_41 : decode cX7_share 41 = .ok (.iadd, 1) := by decide +kernel
theorem dX7_share_42 : decode cX7_share 42 = .ok (.putfield 43, 3) := by decide +kernel
theorem dX7_share_45 : decode cX7_share 45 = .ok (.aload_n 0, 1) := by decide +kernel
theorem dX7_share_46 : decode cX7_share 46 = .ok (.getfield 43, 3) := by decide +kernel
theorem dX7_share_49 : decode cX7_share 49 = .ok (.iconst 1, 1) := by decide +kernel
theorem dX7_share_50 : decode cX7_share 50 = .ok (.isub, 1) := by decide +kernel
theorem dX7_share_51 : decode cX7_share 51 = .ok (.ireturn, 1) := by decide +kernel
theorem dX7_act_0 : decode cX7_act 0 = .ok (.aload_n 0, 1) := by decide +kernel
theorem dX7_act_1 : decode cX7_act 1 = .ok (.iload_n 1, 1) := by decide +kernel
theorem dX7_act_2 : decode cX7_act 2 = .ok (.invokevirtual 66, 3) := by decide +kernel
theorem dX7_act_5 : decode cX7_act 5 = .ok (.ifCond .ne 6, 3) := by decide +kernel
theorem dX7_act_8 : decode cX7_act 8 = .ok (.ldc 61, 2) := by decide +kernel
theorem dX7_act_10 : decode cX7_act 10 = .ok (.ireturn, 1) := by decide +kernel
theorem dX7_act_11 : decode cX7_act 11 = .ok (.iload_n 2, 1) := by decide +kernel
theorem dX7_act_12 : decode cX7_act 12 = .ok (.ifCond .lt 9, 3) := by decide +kernel
theorem dX7_act_15 : decode cX7_act 15 = .ok (.iload_n 2, 1) := by decide +kernel
theorem dX7_act_16 : decode cX7_act 16 = .ok (.bipush 9, 2) := by decide +kernel
theorem dX7_act_18 : decode cX7_act 18 = .ok (.if_icmp .le 6, 3) := by decide +kernel
theorem dX7_act_21 : decode cX7_act 21 = .ok (.ldc 71, 2) := by decide +kernel
theorem dX7_act_23 : decode cX7_act 23 = .ok (.ireturn, 1) := by decide +kernel
theorem dX7_act_24 : decode cX7_act 24 = .ok (.iload_n 2, 1) := by decide +kernel
theorem dX7_act_25 : decode cX7_act 25 = .ok (.ifCond .ne 21, 3) := by decide +kernel
theorem dX7_act_28 : decode cX7_act 28 = .ok (.iload_n 3, 1) := by decide +kernel
theorem dX7_act_29 : decode cX7_act 29 = .ok (.invokestatic 72, 3) := by decide +kernel
theorem dX7_act_32 : decode cX7_act 32 = .ok (.ifCond .eq 11, 3) := by decide +kernel
theorem dX7_act_35 : decode cX7_act 35 = .ok (.iload 4, 2) := by decide +kernel
theorem dX7_act_37 : decode cX7_act 37 = .ok (.invokestatic 72, 3) := by decide +kernel
theorem dX7_act_40 : decode cX7_act 40 = .ok (.ifCond .ne 6, 3) := by decide +kernel
theorem dX7_act_43 : decode cX7_act 43 = .ok (.ldc 71, 2) := by decide +kernel
theorem dX7_act_45 : decode cX7_act 45 = .ok (.ireturn, 1) := by decide +kernel
theorem dX7_act_46 : decode cX7_act 46 = .ok (.aload_n 0, 1) := by decide +kernel
theorem dX7_act_47 : decode cX7_act 47 = .ok (.getfield 18, 3) := by decide +kernel
theorem dX7_act_50 : decode cX7_act 50 = .ok (.iload_n 1, 1) := by decide +kernel
theorem dX7_act_51 : decode cX7_act 51 = .ok (.aaload, 1) := by decide +kernel
theorem dX7_act_52 : decode cX7_act 52 = .ok (.iload_n 2, 1) := by decide +kernel
theorem dX7_act_53 : decode cX7_act 53 = .ok (.iload_n 3, 1) := by decide +kernel
theorem dX7_act_54 : decode cX7_act 54 = .ok (.iload 4, 2) := by decide +kernel
theorem dX7_act_56 : decode cX7_act 56 = .ok (.invokevirtual 75, 3) := by decide +kernel
theorem dX7_act_59 : decode cX7_act 59 = .ok (.ifCond .eq 15, 3) := by decide +kernel
theorem dX7_act_62 : decode cX7_act 62 = .ok (.aload_n 0, 1) := by decide +kernel
theorem dX7_act_63 : decode cX7_act 63 = .ok (.getfield 18, 3) := by decide +kernel
theorem dX7_act_66 : decode cX7_act 66 = .ok (.iload_n 1, 1) := by decide +kernel
theorem dX7_act_67 : decode cX7_act 67 = .ok (.aaload, 1) := by decide +kernel
theorem dX7_act_68 : decode cX7_act 68 = .ok (.getfield 79, 3) := by decide +kernel
theorem dX7_act_71 : decode cX7_act 71 = .ok (.goto 5, 3) := by decide +kernel
theorem dX7_act_74 : decode cX7_act 74 = .ok (.ldc 62, 2) := by decide +kernel
theorem dX7_act_76 : decode cX7_act 76 = .ok (.ireturn, 1) := by decide +kernel
theorem dX7_fact_0 : decode cX7_fact 0 = .ok (.iload_n 1, 1) := by decide +kernel
theorem dX7_fact_1 : decode cX7_fact 1 = .ok (.invokestatic 57, 3) := by decide +kernel
theorem dX7_fact_4 : decode cX7_fact 4 = .ok (.ifCond .ne 6, 3) := by decide +kernel
theorem dX7_fact_7 : decode cX7_fact 7 = .ok (.ldc 61, 2) := by decide +kernel
theorem dX7_fact_9 : decode cX7_fact 9 = .ok (.ireturn, 1) := by decide +kernel
theorem dX7_fact_10 : decode cX7_fact 10 = .ok (.iload_n 2, 1) := by decide +kernel
theorem dX7_fact_11 : decode cX7_fact 11 = .ok (.invokestatic 72, 3) := by decide +kernel
theorem dX7_fact_14 : decode cX7_fact 14 = .ok (.ifCond .eq 15, 3) := by decide +kernel
theorem dX7_fact_17 : decode cX7_fact 17 = .ok (.iload_n 3, 1) := by decide +kernel
theorem dX7_fact_18 : decode cX7_fact 18 = .ok (.invokestatic 72, 3) := by decide +kernel
theorem dX7_fact_21 : decode cX7_fact 21 = .ok (.ifCond .eq 8, 3) := by decide +kernel
theorem dX7_fact_24 : decode cX7_fact 24 = .ok (.iload_n 2, 1) := by decide +kernel
theorem dX7_fact_25 : decode cX7_fact 25 = .ok (.iload_n 3, 1) := by decide +kernel
theorem dX7_fact_26 : decode cX7_fact 26 = .ok (.if_icmp .le 6, 3) := by decide +kernel
theorem dX7_fact_29 : decode cX7_fact 29 = .ok (.ldc 71, 2) := by decide +kernel
theorem dX7_fact_31 : decode cX7_fact 31 = .ok (.ireturn, 1) := by decide +kernel
theorem dX7_fact_32 : decode cX7_fact 32 = .ok (.aload_n 0, 1) := by decide +kernel
theorem dX7_fact_33 : decode cX7_fact 33 = .ok (.getfield 10, 3) := by decide +kernel
theorem dX7_fact_36 : decode cX7_fact 36 = .ok (.iload_n 1, 1) := by decide +kernel
theorem dX7_fact_37 : decode cX7_fact 37 = .ok (.iload_n 2, 1) := by decide +kernel
theorem dX7_fact_38 : decode cX7_fact 38 = .ok (.iload_n 3, 1) := by decide +kernel
theorem dX7_fact_39 : decode cX7_fact 39 = .ok (.invokevirtual 82, 3) := by decide +kernel
theorem dX7_fact_42 : decode cX7_fact 42 = .ok (.iconst 1, 1) := by decide +kernel
theorem dX7_fact_43 : decode cX7_fact 43 = .ok (.ireturn, 1) := by decide +kernel
theorem dX7_end_0 : decode cX7_end 0 = .ok (.iload_n 1, 1) := by decide +kernel
theorem dX7_end_1 : decode cX7_end 1 = .ok (.invokestatic 57, 3) := by decide +kernel
theorem dX7_end_4 : decode cX7_end 4 = .ok (.ifCond .ne 6, 3) := by decide +kernel
theorem dX7_end_7 : decode cX7_end 7 = .ok (.ldc 61, 2) := by decide +kernel
theorem dX7_end_9 : decode cX7_end 9 = .ok (.ireturn, 1) := by decide +kernel
theorem dX7_end_10 : decode cX7_end 10 = .ok (.iload_n 2, 1) := by decide +kernel
theorem dX7_end_11 : decode cX7_end 11 = .ok (.ifCond .lt 8, 3) := by decide +kernel
theorem dX7_end_14 : decode cX7_end 14 = .ok (.iload_n 2, 1) := by decide +kernel
theorem dX7_end_15 : decode cX7_end 15 = .ok (.iconst 1, 1) := by decide +kernel
theorem dX7_end_16 : decode cX7_end 16 = .ok (.if_icmp .le 6, 3) := by decide +kernel
theorem dX7_end_19 : decode cX7_end 19 = .ok (.ldc 71, 2) := by decide +kernel
theorem dX7_end_21 : decode cX7_end 21 = .ok (.ireturn, 1) := by decide +kernel
theorem dX7_end_22 : decode cX7_end 22 = .ok (.aload_n 0, 1) := by decide +kernel
theorem dX7_end_23 : decode cX7_end 23 = .ok (.getfield 10, 3) := by decide +kernel
theorem dX7_end_26 : decode cX7_end 26 = .ok (.getfield 86, 3) := by decide +kernel
theorem dX7_end_29 : decode cX7_end 29 = .ok (.iload_n 1, 1) := by decide +kernel
theorem dX7_end_30 : decode cX7_end 30 = .ok (.baload, 1) := by decide +kernel
theorem dX7_end_31 : decode cX7_end 31 = .ok (.ifCond .ne 6, 3) := by decide +kernel
theorem dX7_end_34 : decode cX7_end 34 = .ok (.ldc 90, 2) := by decide +kernel
theorem dX7_end_36 : decode cX7_end 36 = .ok (.ireturn, 1) := by decide +kernel
theorem dX7_end_37 : decode cX7_end 37 = .ok (.iload_n 2, 1) := by decide +kernel
theorem dX7_end_38 : decode cX7_end 38 = .ok (.ifCond .ne 15, 3) := by decide +kernel
theorem dX7_end_41 : decode cX7_end 41 = .ok (.aload_n 0, 1) := by decide +kernel
theorem dX7_end_42 : decode cX7_end 42 = .ok (.getfield 10, 3) := by decide +kernel
theorem dX7_end_45 : decode cX7_end 45 = .ok (.getfield 91, 3) := by decide +kernel
theorem dX7_end_48 : decode cX7_end 48 = .ok (.iload_n 1, 1) := by decide +kernel
theorem dX7_end_49 : decode cX7_end 49 = .ok (.iaload, 1) := by decide +kernel
theorem dX7_end_50 : decode cX7_end 50 = .ok (.goto 12, 3) := by decide +kernel
theorem dX7_end_53 : decode cX7_end 53 = .ok (.aload_n 0, 1) := by decide +kernel
theorem dX7_end_54 : decode cX7_end 54 = .ok (.getfield 10, 3) := by decide +kernel
theorem dX7_end_57 : decode cX7_end 57 = .ok (.getfield 95, 3) := by decide +kernel
theorem dX7_end_60 : decode cX7_end 60 = .ok (.iload_n 1, 1) := by decide +kernel
theorem dX7_end_61 : decode cX7_end 61 = .ok (.iaload, 1) := by decide +kernel
theorem dX7_end_62 : decode cX7_end 62 = .ok (.ireturn, 1) := by decide +kernel
theorem dX7_workers_0 : decode cX7_workers 0 = .ok (.iload_n 1, 1) := by decide +kernel
theorem dX7_workers_1 : decode cX7_workers 1 = .ok (.iconst 1, 1) := by decide +kernel
theorem dX7_workers_2 : decode cX7_workers 2 = .ok (.if_icmp .lt 8, 3) := by decide +kernel
theorem dX7_workers_5 : decode cX7_workers 5 = .ok (.iload_n 1, 1) := by decide +kernel
theorem dX7_workers_6 : decode cX7_workers 6 = .ok (.iconst 4, 1) := by decide +kernel
theorem dX7_workers_7 : decode cX7_workers 7 = .ok (.if_icmp .le 6, 3) := by decide +kernel
theorem dX7_workers_10 : decode cX7_workers 10 = .ok (.ldc 71, 2) := by decide +kernel
theorem dX7_workers_12 : decode cX7_workers 12 = .ok (.ireturn, 1) := by decide +kernel
theorem dX7_workers_13 : decode cX7_workers 13 = .ok (.aload_n 0, 1) := by decide +kernel
theorem dX7_workers_14 : decode cX7_workers 14 = .ok (.getfield 32, 3) := by decide +kernel
theorem dX7_workers_17 : decode cX7_workers 17 = .ok (.getfield 98, 3) := by decide +kernel
theorem dX7_workers_20 : decode cX7_workers 20 = .ok (.istore_n 2, 1) := by decide +kernel
theorem dX7_workers_21 : decode cX7_workers 21 = .ok (.aload_n 0, 1) := by decide +kernel
theorem dX7_workers_22 : decode cX7_workers 22 = .ok (.getfield 32, 3) := by decide +kernel
theorem dX7_workers_25 : decode cX7_workers 25 = .ok (.iload_n 1, 1) := by decide +kernel
theorem dX7_workers_26 : decode cX7_workers 26 = .ok (.invokevirtual 101, 3) := by decide +kernel
theorem dX7_workers_29 : decode cX7_workers 29 = .ok (.iload_n 2, 1) := by decide +kernel
theorem dX7_workers_30 : decode cX7_workers 30 = .ok (.ireturn, 1) := by decide +kernel
theorem dX7_lose_0 : decode cX7_lose 0 = .ok (.aload_n 0, 1) := by decide +kernel
theorem dX7_lose_1 : decode cX7_lose 1 = .ok (.getfield 32, 3) := by decide +kernel
theorem dX7_lose_4 : decode cX7_lose 4 = .ok (.iload_n 1, 1) := by decide +kernel
theorem dX7_lose_5 : decode cX7_lose 5 = .ok (.invokevirtual 105, 3) := by decide +kernel
theorem dX7_lose_8 : decode cX7_lose 8 = .ok (.ifCond .ne 6, 3) := by decide +kernel
theorem dX7_lose_11 : decode cX7_lose 11 = .ok (.ldc 61, 2) := by decide +kernel
theorem dX7_lose_13 : decode cX7_lose 13 = .ok (.ireturn, 1) := by decide +kernel
theorem dX7_lose_14 : decode cX7_lose 14 = .ok (.iload_n 2, 1) := by decide +kernel
theorem dX7_lose_15 : decode cX7_lose 15 = .ok (.iconst 1, 1) := by decide +kernel
theorem dX7_lose_16 : decode cX7_lose 16 = .ok (.if_icmp .lt 9, 3) := by decide +kernel
theorem dX7_lose_19 : decode cX7_lose 19 = .ok (.iload_n 2, 1) := by decide +kernel
theorem dX7_lose_20 : decode cX7_lose 20 = .ok (.ldc 108, 2) := by decide +kernel
theorem dX7_lose_22 : decode cX7_lose 22 = .ok (.if_icmp .le 6, 3) := by decide +kernel
theorem dX7_lose_25 : decode cX7_lose 25 = .ok (.ldc 71, 2) := by decide +kernel
theorem dX7_lose_27 : decode cX7_lose 27 = .ok (.ireturn, 1) := by decide +kernel
theorem dX7_lose_28 : decode cX7_lose 28 = .ok (.aload_n 0, 1) := by decide +kernel
theorem dX7_lose_29 : decode cX7_lose 29 = .ok (.getfield 32, 3) := by decide +kernel
theorem dX7_lose_32 : decode cX7_lose 32 = .ok (.getfield 109, 3) := by decide +kernel
theorem dX7_lose_35 : decode cX7_lose 35 = .ok (.iload_n 1, 1) := by decide +kernel
theorem dX7_lose_36 : decode cX7_lose 36 = .ok (.aaload, 1) := by decide +kernel
theorem dX7_lose_37 : decode cX7_lose 37 = .ok (.iload_n 2, 1) := by decide +kernel
theorem dX7_lose_38 : decode cX7_lose 38 = .ok (.putfield 113, 3) := by decide +kernel
theorem dX7_lose_41 : decode cX7_lose 41 = .ok (.iconst 1, 1) := by decide +kernel
theorem dX7_lose_42 : decode cX7_lose 42 = .ok (.ireturn, 1) := by decide +kernel
theorem dX7_seed_0 : decode cX7_seed 0 = .ok (.aload_n 0, 1) := by decide +kernel
theorem dX7_seed_1 : decode cX7_seed 1 = .ok (.getfield 32, 3) := by decide +kernel
theorem dX7_seed_4 : decode cX7_seed 4 = .ok (.getfield 118, 3) := by decide +kernel
theorem dX7_seed_7 : decode cX7_seed 7 = .ok (.istore_n 2, 1) := by decide +kernel
theorem dX7_seed_8 : decode cX7_seed 8 = .ok (.aload_n 0, 1) := by decide +kernel
theorem dX7_seed_9 : decode cX7_seed 9 = .ok (.getfield 32, 3) := by decide +kernel
theorem dX7_seed_12 : decode cX7_seed 12 = .ok (.iload_n 1, 1) := by decide +kernel
theorem dX7_seed_13 : decode cX7_seed 13 = .ok (.putfield 118, 3) := by decide +kernel
theorem dX7_seed_16 : decode cX7_seed 16 = .ok (.iload_n 2, 1) := by decide +kernel
theorem dX7_seed_17 : decode cX7_seed 17 = .ok (.ireturn, 1) := by decide +kernel
theorem dX7_set_0 : decode cX7_set 0 = .ok (.iload_n 1, 1) := by decide +kernel
theorem dX7_set_1 : decode cX7_set 1 = .ok (.iconst 1, 1) := by decide +kernel
theorem dX7_set_2 : decode cX7_set 2 = .ok (.if_icmp .lt 20, 3) := by decide +kernel
theorem dX7_set_5 : decode cX7_set 5 = .ok (.iload_n 1, 1) := by decide +kernel
theorem dX7_set_6 : decode cX7_set 6 = .ok (.bipush 20, 2) := by decide +kernel
theorem dX7_set_8 : decode cX7_set 8 = .ok (.if_icmp .gt 14, 3) := by decide +kernel
theorem dX7_set_11 : decode cX7_set 11 = .ok (.iload_n 2, 1) := by decide +kernel
theorem dX7_set_12 : decode cX7_set 12 = .ok (.ifCond .lt 10, 3) := by decide +kernel
theorem dX7_set_15 : decode cX7_set 15 = .ok (.iload_n 2, 1) := by decide +kernel
theorem dX7_set_16 : decode cX7_set 16 = .ok (.sipush 10000, 3) := by decide +kernel
theorem dX7_set_19 : decode cX7_set 19 = .ok (.if_icmp .le 6, 3) := by decide +kernel
theorem dX7_set_22 : decode cX7_set 22 = .ok (.ldc 71, 2) := by decide +kernel
theorem dX7_set_24 : decode cX7_set 24 = .ok (.ireturn, 1) := by decide +kernel
theorem dX7_set_25 : decode cX7_set 25 = .ok (.aload_n 0, 1) := by decide +kernel
theorem dX7_set_26 : decode cX7_set 26 = .ok (.getfield 50, 3) := by decide +kernel
theorem dX7_set_29 : decode cX7_set 29 = .ok (.istore_n 3, 1) := by decide +kernel
theorem dX7_set_30 : decode cX7_set 30 = .ok (.aload_n 0, 1) := by decide +kernel
theorem dX7_set_31 : decode cX7_set 31 = .ok (.iload_n 1, 1) := by decide +kernel
theorem dX7_set_32 : decode cX7_set 32 = .ok (.putfield 50, 3) := by decide +kernel
theorem dX7_set_35 : decode cX7_set 35 = .ok (.aload_n 0, 1) := by decide +kernel
theorem dX7_set_36 : decode cX7_set 36 = .ok (.iload_n 2, 1) := by decide +kernel
theorem dX7_set_37 : decode cX7_set 37 = .ok (.putfield 53, 3) := by decide +kernel
theorem dX7_set_40 : decode cX7_set 40 = .ok (.iload_n 3, 1) := by decide +kernel
theorem dX7_set_41 : decode cX7_set 41 = .ok (.ireturn, 1) := by decide +kernel
theorem dX7_run_0 : decode cX7_run 0 = .ok (.iload_n 1, 1) := by decide +kernel
theorem dX7_run_1 : decode cX7_run 1 = .ok (.iconst 1, 1) := by decide +kernel
theorem dX7_run_2 : decode cX7_run 2 = .ok (.if_icmp .lt 9, 3) := by decide +kernel
theorem dX7_run_5 : decode cX7_run 5 = .ok (.iload_n 1, 1) := by decide +kernel
theorem dX7_run_6 : decode cX7_run 6 = .ok (.bipush 10, 2) := by decide +kernel
theorem dX7_run_8 : decode cX7_run 8 = .ok (.if_icmp .le 6, 3) := by decide +kernel
theorem dX7_run_11 : decode cX7_run 11 = .ok (.ldc 71, 2) := by decide +kernel
theorem dX7_run_13 : decode cX7_run 13 = .ok (.ireturn, 1) := by decide +kernel
theorem dX7_run_14 : decode cX7_run 14 = .ok (.aload_n 0, 1) := by decide +kernel
theorem dX7_run_15 : decode cX7_run 15 = .ok (.getfield 39, 3) := by decide +kernel
theorem dX7_run_18 : decode cX7_run 18 = .ok (.invokevirtual 121, 3) := by decide +kernel
theorem dX7_run_21 : decode cX7_run 21 = .ok (.iconst 1, 1) := by decide +kernel
theorem dX7_run_22 : decode cX7_run 22 = .ok (.istore_n 2, 1) := by decide +kernel
theorem dX7_run_23 : decode cX7_run 23 = .ok (.iconst 1, 1) := by decide +kernel
theorem dX7_run_24 : decode cX7_run 24 = .ok (.istore_n 3, 1) := by decide +kernel
theorem dX7_run_25 : decode cX7_run 25 = .ok (.iload_n 3, 1) := by decide +kernel
theorem dX7_run_26 : decode cX7_run 26 = .ok (.iload_n 1, 1) := by decide +kernel
theorem dX7_run_27 : decode cX7_run 27 = .ok (.if_icmp .gt 20, 3) := by decide +kernel
theorem dX7_run_30 : decode cX7_run 30 = .ok (.iload_n 2, 1) := by decide +kernel
theorem dX7_run_31 : decode cX7_run 31 = .ok (.iconst 1, 1) := by decide +kernel
theorem dX7_run_32 : decode cX7_run 32 = .ok (.if_icmp .ne 15, 3) := by decide +kernel
theorem dX7_run_35 : decode cX7_run 35 = .ok (.aload_n 0, 1) := by decide +kernel
theorem dX7_run_36 : decode cX7_run 36 = .ok (.iload_n 3, 1) := by decide +kernel
theorem dX7_run_37 : decode cX7_run 37 = .ok (.invokevirtual 124, 3) := by decide +kernel
theorem dX7_run_40 : decode cX7_run 40 = .ok (.istore_n 2, 1) := by decide +kernel
theorem dX7_run_41 : decode cX7_run 41 = .ok (.iinc 3 1, 3) := by decide +kernel
theorem dX7_run_44 : decode cX7_run 44 = .ok (.goto (-19), 3) := by decide +kernel
theorem dX7_run_47 : decode cX7_run 47 = .ok (.iload_n 2, 1) := by decide +kernel
theorem dX7_run_48 : decode cX7_run 48 = .ok (.ireturn, 1) := by decide +kernel
theorem dX7_told_0 : decode cX7_told 0 = .ok (.iload_n 1, 1) := by decide +kernel
theorem dX7_told_1 : decode cX7_told 1 = .ok (.tableswitch 132 0 9 #[55, 63, 71, 79, 87, 95, 103, 111, 119, 124], 55) := by decide +kernel
theorem dX7_told_56 : decode cX7_told 56 = .ok (.aload_n 0, 1) := by decide +kernel
theorem dX7_told_57 : decode cX7_told 57 = .ok (.getfield 39, 3) := by decide +kernel
theorem dX7_told_60 : decode cX7_told 60 = .ok (.getfield 128, 3) := by decide +kernel
theorem dX7_told_63 : decode cX7_told 63 = .ok (.ireturn, 1) := by decide +kernel
theorem dX7_told_64 : decode cX7_told 64 = .ok (.aload_n 0, 1) := by decide +kernel
theorem dX7_told_65 : decode cX7_told 65 = .ok (.getfield 39, 3) := by decide +kernel
theorem dX7_told_68 : decode cX7_told 68 = .ok (.getfield 131, 3) := by decide +kernel
theorem dX7_told_71 : decode cX7_told 71 = .ok (.ireturn, 1) := by decide +kernel
theorem dX7_told_72 : decode cX7_told 72 = .ok (.aload_n 0, 1) := by decide +kernel
theorem dX7_told_73 : decode cX7_told 73 = .ok (.getfield 39, 3) := by decide +kernel
theorem dX7_told_76 : decode cX7_told 76 = .ok (.getfield 134, 3) := by decide +kernel
theorem dX7_told_79 : decode cX7_told 79 = .ok (.ireturn, 1) := by decide +kernel
theorem dX7_told_80 : decode cX7_told 80 = .ok (.aload_n 0, 1) := by decide +kernel
theorem dX7_told_81 : decode cX7_told 81 = .ok (.getfield 39, 3) := by decide +kernel
theorem dX7_told_84 : decode cX7_told 84 = .ok (.getfield 137, 3) := by decide +kernel
theorem dX7_told_87 : decode cX7_told 87 = .ok (.ireturn, 1) := by decide +kernel
theorem dX7_told_88 : decode cX7_told 88 = .ok (.aload_n 0, 1) := by decide +kernel
theorem dX7_told_89 : decode cX7_told 89 = .ok (.getfield 39, 3) := by decide +kernel
theorem dX7_told_92 : decode cX7_told 92 = .ok (.getfield 140, 3) := by decide +kernel
theorem dX7_told_95 : decode cX7_told 95 = .ok (.ireturn, 1) := by decide +kernel
theorem dX7_told_96 : decode cX7_told 96 = .ok (.aload_n 0, 1) := by decide +kernel
theorem dX7_told_97 : decode cX7_told 97 = .ok (.getfield 39, 3) := by decide +kernel
theorem dX7_told_100 : decode cX7_told 100 = .ok (.getfield 143, 3) := by decide +kernel
theorem dX7_told_103 : decode cX7_told 103 = .ok (.ireturn, 1) := by decide +kernel
theorem dX7_told_104 : decode cX7_told 104 = .ok (.aload_n 0, 1) := by decide +kernel
theorem dX7_told_105 : decode cX7_told 105 = .ok (.getfield 32, 3) := by decide +kernel
theorem dX7_told_108 : decode cX7_told 108 = .ok (.getfield 144, 3) := by decide +kernel
theorem dX7_told_111 : decode cX7_told 111 = .ok (.ireturn, 1) := by decide +kernel
theorem dX7_told_112 : decode cX7_told 112 = .ok (.aload_n 0, 1) := by decide +kernel
theorem dX7_told_113 : decode cX7_told 113 = .ok (.getfield 32, 3) := by decide +kernel
theorem dX7_told_116 : decode cX7_told 116 = .ok (.getfield 98, 3) := by decide +kernel
theorem dX7_told_119 : decode cX7_told 119 = .ok (.ireturn, 1) := by decide +kernel
theorem dX7_told_120 : decode cX7_told 120 = .ok (.aload_n 0, 1) := by decide +kernel
theorem dX7_told_121 : decode cX7_told 121 = .ok (.getfield 43, 3) := by decide +kernel
theorem dX7_told_124 : decode cX7_told 124 = .ok (.ireturn, 1) := by decide +kernel
theorem dX7_told_125 : decode cX7_told 125 = .ok (.aload_n 0, 1) := by decide +kernel
theorem dX7_told_126 : decode cX7_told 126 = .ok (.getfield 32, 3) := by decide +kernel
theorem dX7_told_129 : decode cX7_told 129 = .ok (.getfield 147, 3) := by decide +kernel
theorem dX7_told_132 : decode cX7_told 132 = .ok (.ireturn, 1) := by decide +kernel
theorem dX7_told_133 : decode cX7_told 133 = .ok (.ldc 71, 2) := by decide +kernel
theorem dX7_told_135 : decode cX7_told 135 = .ok (.ireturn, 1) := by decide +kernel
theorem dX7_doer_0 : decode cX7_doer 0 = .ok (.aload_n 0, 1) := by decide +kernel
theorem dX7_doer_1 : decode cX7_doer 1 = .ok (.iload_n 1, 1) := by decide +kernel
theorem dX7_doer_2 : decode cX7_doer 2 = .ok (.invokevirtual 66, 3) := by decide +kernel
theorem dX7_doer_5 : decode cX7_doer 5 = .ok (.ifCond .eq 15, 3) := by decide +kernel
theorem dX7_doer_8 : decode cX7_doer 8 = .ok (.aload_n 0, 1) := by decide +kernel
theorem dX7_doer_9 : decode cX7_doer 9 = .ok (.getfield 18, 3) := by decide +kernel
theorem dX7_doer_12 : decode cX7_doer 12 = .ok (.iload_n 1, 1) := by decide +kernel
theorem dX7_doer_13 : decode cX7_doer 13 = .ok (.aaload, 1) := by decide +kernel
theorem dX7_doer_14 : decode cX7_doer 14 = .ok (.getfield 150, 3) := by decide +kernel
theorem dX7_doer_17 : decode cX7_doer 17 = .ok (.goto 5, 3) := by decide +kernel
theorem dX7_doer_20 : decode cX7_doer 20 = .ok (.ldc 61, 2) := by decide +kernel
theorem dX7_doer_22 : decode cX7_doer 22 = .ok (.ireturn, 1) := by decide +kernel
theorem dX7_clear_0 : decode cX7_clear 0 = .ok (.aload_n 0, 1) := by decide +kernel
theorem dX7_clear_1 : decode cX7_clear 1 = .ok (.getfield 32, 3) := by decide +kernel
theorem dX7_clear_4 : decode cX7_clear 4 = .ok (.iconst 0, 1) := by decide +kernel
theorem dX7_clear_5 : decode cX7_clear 5 = .ok (.putfield 144, 3) := by decide +kernel
theorem dX7_clear_8 : decode cX7_clear 8 = .ok (.aload_n 0, 1) := by decide +kernel
theorem dX7_clear_9 : decode cX7_clear 9 = .ok (.getfield 32, 3) := by decide +kernel
theorem dX7_clear_12 : decode cX7_clear 12 = .ok (.iconst 0, 1) := by decide +kernel
theorem dX7_clear_13 : decode cX7_clear 13 = .ok (.putfield 118, 3) := by decide +kernel
theorem dX7_clear_16 : decode cX7_clear 16 = .ok (.aload_n 0, 1) := by decide +kernel
theorem dX7_clear_17 : decode cX7_clear 17 = .ok (.getfield 10, 3) := by decide +kernel
theorem dX7_clear_20 : decode cX7_clear 20 = .ok (.invokevirtual 153, 3) := by decide +kernel
theorem dX7_clear_23 : decode cX7_clear 23 = .ok (.ireturn, 1) := by decide +kernel
theorem dX7_isFact_0 : decode cX7_isFact 0 = .ok (.iload_n 0, 1) := by decide +kernel
theorem dX7_isFact_1 : decode cX7_isFact 1 = .ok (.ifCond .lt 13, 3) := by decide +kernel
theorem dX7_isFact_4 : decode cX7_isFact 4 = .ok (.iload_n 0, 1) := by decide +kernel
theorem dX7_isFact_5 : decode cX7_isFact 5 = .ok (.bipush 10, 2) := by decide +kernel
theorem dX7_isFact_7 : decode cX7_isFact 7 = .ok (.if_icmp .ge 7, 3) := by decide +kernel
theorem dX7_isFact_10 : decode cX7_isFact 10 = .ok (.iconst 1, 1) := by decide +kernel
theorem dX7_isFact_11 : decode cX7_isFact 11 = .ok (.goto 4, 3) := by decide +kernel
theorem dX7_isFact_14 : decode cX7_isFact 14 = .ok (.iconst 0, 1) := by decide +kernel
theorem dX7_isFact_15 : decode cX7_isFact 15 = .ok (.ireturn, 1) := by decide +kernel
theorem dX7_isEnd_0 : decode cX7_isEnd 0 = .ok (.iload_n 0, 1) := by decide +kernel
theorem dX7_isEnd_1 : decode cX7_isEnd 1 = .ok (.ldc 157, 2) := by decide +kernel
theorem dX7_isEnd_3 : decode cX7_isEnd 3 = .ok (.if_icmp .lt 13, 3) := by decide +kernel
theorem dX7_isEnd_6 : decode cX7_isEnd 6 = .ok (.iload_n 0, 1) := by decide +kernel
theorem dX7_isEnd_7 : decode cX7_isEnd 7 = .ok (.ldc 158, 2) := by decide +kernel
theorem dX7_isEnd_9 : decode cX7_isEnd 9 = .ok (.if_icmp .gt 7, 3) := by decide +kernel
theorem dX7_isEnd_12 : decode cX7_isEnd 12 = .ok (.iconst 1, 1) := by decide +kernel
theorem dX7_isEnd_13 : decode cX7_isEnd 13 = .ok (.goto 4, 3) := by decide +kernel
theorem dX7_isEnd_16 : decode cX7_isEnd 16 = .ok (.iconst 0, 1) := by decide +kernel
theorem dX7_isEnd_17 : decode cX7_isEnd 17 = .ok (.ireturn, 1) := by decide +kernel
theorem dX7_nearestEnd_0 : decode cX7_nearestEnd 0 = .ok (.iload_n 0, 1) := by decide +kernel
theorem dX7_nearestEnd_1 : decode cX7_nearestEnd 1 = .ok (.ldc 157, 2) := by decide +kernel
theorem dX7_nearestEnd_3 : decode cX7_nearestEnd 3 = .ok (.if_icmp .ge 6, 3) := by decide +kernel
theorem dX7_nearestEnd_6 : decode cX7_nearestEnd 6 = .ok (.ldc 157, 2) := by decide +kernel
theorem dX7_nearestEnd_8 : decode cX7_nearestEnd 8 = .ok (.ireturn, 1) := by decide +kernel
theorem dX7_nearestEnd_9 : decode cX7_nearestEnd 9 = .ok (.iload_n 0, 1) := by decide +kernel
theorem dX7_nearestEnd_10 : decode cX7_nearestEnd 10 = .ok (.ldc 158, 2) := by decide +kernel
theorem dX7_nearestEnd_12 : decode cX7_nearestEnd 12 = .ok (.if_icmp .le 8, 3) := by decide +kernel
theorem dX7_nearestEnd_15 : decode cX7_nearestEnd 15 = .ok (.ldc 158, 2) := by decide +kernel
theorem dX7_nearestEnd_17 : decode cX7_nearestEnd 17 = .ok (.goto 4, 3) := by decide +kernel
theorem dX7_nearestEnd_20 : decode cX7_nearestEnd 20 = .ok (.iload_n 0, 1) := by decide +kernel
theorem dX7_nearestEnd_21 : decode cX7_nearestEnd 21 = .ok (.ireturn, 1) := by decide +kernel
theorem dX7_isShare_0 : decode cX7_isShare 0 = .ok (.iload_n 1, 1) := by decide +kernel
theorem dX7_isShare_1 : decode cX7_isShare 1 = .ok (.ifCond .lt 15, 3) := by decide +kernel
theorem dX7_isShare_4 : decode cX7_isShare 4 = .ok (.iload_n 1, 1) := by decide +kernel
theorem dX7_isShare_5 : decode cX7_isShare 5 = .ok (.aload_n 0, 1) := by decide +kernel
theorem dX7_isShare_6 : decode cX7_isShare 6 = .ok (.getfield 43, 3) := by decide +kernel
theorem dX7_isShare_9 : decode cX7_isShare 9 = .ok (.if_icmp .ge 7, 3) := by decide +kernel
theorem dX7_isShare_12 : decode cX7_isShare 12 = .ok (.iconst 1, 1) := by decide +kernel
theorem dX7_isShare_13 : decode cX7_isShare 13 = .ok (.goto 4, 3) := by decide +kernel
theorem dX7_isShare_16 : decode cX7_isShare 16 = .ok (.iconst 0, 1) := by decide +kernel
theorem dX7_isShare_17 : decode cX7_isShare 17 = .ok (.ireturn, 1) := by decide +kernel
theorem dX7_playRound_0 : decode cX7_playRound 0 = .ok (.aload_n 0, 1) := by decide +kernel
theorem dX7_playRound_1 : decode cX7_playRound 1 = .ok (.invokevirtual 159, 3) := by decide +kernel
theorem dX7_playRound_4 : decode cX7_playRound 4 = .ok (.iconst 0, 1) := by decide +kernel
theorem dX7_playRound_5 : decode cX7_playRound 5 = .ok (.istore_n 2, 1) := by decide +kernel
theorem dX7_playRound_6 : decode cX7_playRound 6 = .ok (.iload_n 2, 1) := by decide +kernel
theorem dX7_playRound_7 : decode cX7_playRound 7 = .ok (.ldc 158, 2) := by decide +kernel
theorem dX7_playRound_9 : decode cX7_playRound 9 = .ok (.if_icmp .ge 30, 3) := by decide +kernel
theorem dX7_playRound_12 : decode cX7_playRound 12 = .ok (.aload_n 0, 1) := by decide +kernel
theorem dX7_playRound_13 : decode cX7_playRound 13 = .ok (.getfield 47, 3) := by decide +kernel
theorem dX7_playRound_16 : decode cX7_playRound 16 = .ok (.ifCond .le 23, 3) := by decide +kernel
theorem dX7_playRound_19 : decode cX7_playRound 19 = .ok (.aload_n 0, 1) := by decide +kernel
theorem dX7_playRound_20 : decode cX7_playRound 20 = .ok (.getfield 32, 3) := by decide +kernel
theorem dX7_playRound_23 : decode cX7_playRound 23 = .ok (.getfield 98, 3) := by decide +kernel
theorem dX7_playRound_26 : decode cX7_playRound 26 = .ok (.ifCond .le 13, 3) := by decide +kernel
theorem dX7_playRound_29 : decode cX7_playRound 29 = .ok (.aload_n 0, 1) := by decide +kernel
theorem dX7_playRound_30 : decode cX7_playRound 30 = .ok (.invokevirtual 162, 3) := by decide +kernel
theorem dX7_playRound_33 : decode cX7_playRound 33 = .ok (.iinc 2 1, 3) := by decide +kernel
theorem dX7_playRound_36 : decode cX7_playRound 36 = .ok (.goto (-30), 3) := by decide +kernel
theorem dX7_playRound_39 : decode cX7_playRound 39 = .ok (.aload_n 0, 1) := by decide +kernel
theorem dX7_playRound_40 : decode cX7_playRound 40 = .ok (.getfield 47, 3) := by decide +kernel
theorem dX7_playRound_43 : decode cX7_playRound 43 = .ok (.ifCond .le 5, 3) := by decide +kernel
theorem dX7_playRound_46 : decode cX7_playRound 46 = .ok (.iconst 3, 1) := by decide +kernel
theorem dX7_playRound_47 : decode cX7_playRound 47 = .ok (.ireturn, 1) := by decide +kernel
theorem dX7_playRound_48 : decode cX7_playRound 48 = .ok (.aload_n 0, 1) := by decide +kernel
theorem dX7_playRound_49 : decode cX7_playRound 49 = .ok (.invokevirtual 165, 3) := by decide +kernel
theorem dX7_playRound_52 : decode cX7_playRound 52 = .ok (.istore_n 2, 1) := by decide +kernel
theorem dX7_playRound_53 : decode cX7_playRound 53 = .ok (.iload_n 2, 1) := by decide +kernel
theorem dX7_playRound_54 : decode cX7_playRound 54 = .ok (.ldc 90, 2) := by decide +kernel
theorem dX7_playRound_56 : decode cX7_playRound 56 = .ok (.if_icmp .eq 29, 3) := by decide +kernel
theorem dX7_playRound_59 : decode cX7_playRound 59 = .ok (.aload_n 0, 1) := by decide +kernel
theorem dX7_playRound_60 : decode cX7_playRound 60 = .ok (.getfield 39, 3) := by decide +kernel
theorem dX7_playRound_63 : decode cX7_playRound 63 = .ok (.iload_n 2, 1) := by decide +kernel
theorem dX7_playRound_64 : decode cX7_playRound 64 = .ok (.putfield 131, 3) := by decide +kernel
theorem dX7_playRound_67 : decode cX7_playRound 67 = .ok (.aload_n 0, 1) := by decide +kernel
theorem dX7_playRound_68 : decode cX7_playRound 68 = .ok (.getfield 39, 3) := by decide +kernel
theorem dX7_playRound_71 : decode cX7_playRound 71 = .ok (.aload_n 0, 1) := by decide +kernel
theorem dX7_playRound_72 : decode cX7_playRound 72 = .ok (.getfield 18, 3) := by decide +kernel
theorem dX7_playRound_75 : decode cX7_playRound 75 = .ok (.iload_n 2, 1) := by decide +kernel
theorem dX7_playRound_76 : decode cX7_playRound 76 = .ok (.aaload, 1) := by decide +kernel
theorem dX7_playRound_77 : decode cX7_playRound 77 = .ok (.getfield 168, 3) := by decide +kernel
theorem dX7_playRound_80 : decode cX7_playRound 80 = .ok (.putfield 134, 3) := by decide +kernel
theorem dX7_playRound_83 : decode cX7_playRound 83 = .ok (.iconst 2, 1) := by decide +kernel
theorem dX7_playRound_84 : decode cX7_playRound 84 = .ok (.ireturn, 1) := by decide +kernel
theorem dX7_playRound_85 : decode cX7_playRound 85 = .ok (.aload_n 0, 1) := by decide +kernel
theorem dX7_playRound_86 : decode cX7_playRound 86 = .ok (.getfield 39, 3) := by decide +kernel
theorem dX7_playRound_89 : decode cX7_playRound 89 = .ok (.getfield 137, 3) := by decide +kernel
theorem dX7_playRound_92 : decode cX7_playRound 92 = .ok (.aload_n 0, 1) := by decide +kernel
theorem dX7_playRound_93 : decode cX7_playRound 93 = .ok (.invokevirtual 169, 3) := by decide +kernel
theorem dX7_playRound_96 : decode cX7_playRound 96 = .ok (.iadd, 1) := by decide +kernel
theorem dX7_playRound_97 : decode cX7_playRound 97 = .ok (.istore_n 3, 1) := by decide +kernel
theorem dX7_playRound_98 : decode cX7_playRound 98 = .ok (.iload_n 3, 1) := by decide +kernel
theorem dX7_playRound_99 : decode cX7_playRound 99 = .ok (.aload_n 0, 1) := by decide +kernel
theorem dX7_playRound_100 : decode cX7_playRound 100 = .ok (.getfield 53, 3) := by decide +kernel
theorem dX7_playRound_103 : decode cX7_playRound 103 = .ok (.if_icmp .le 5, 3) := by decide +kernel
theorem dX7_playRound_106 : decode cX7_playRound 106 = .ok (.iconst 4, 1) := by decide +kernel
theorem dX7_playRound_107 : decode cX7_playRound 107 = .ok (.ireturn, 1) := by decide +kernel
theorem dX7_playRound_108 : decode cX7_playRound 108 = .ok (.aload_n 0, 1) := by decide +kernel
theorem dX7_playRound_109 : decode cX7_playRound 109 = .ok (.getfield 39, 3) := by decide +kernel
theorem dX7_playRound_112 : decode cX7_playRound 112 = .ok (.iload_n 3, 1) := by decide +kernel
theorem dX7_playRound_113 : decode cX7_playRound 113 = .ok (.putfield 137, 3) := by decide +kernel
theorem dX7_playRound_116 : decode cX7_playRound 116 = .ok (.aload_n 0, 1) := by decide +kernel
theorem dX7_playRound_117 : decode cX7_playRound 117 = .ok (.getfield 39, 3) := by decide +kernel
theorem dX7_playRound_120 : decode cX7_playRound 120 = .ok (.dup, 1) := by decide +kernel
theorem dX7_playRound_121 : decode cX7_playRound 121 = .ok (.getfield 128, 3) := by decide +kernel
theorem dX7_playRound_124 : decode cX7_playRound 124 = .ok (.iconst 1, 1) := by decide +kernel
theorem dX7_playRound_125 : decode cX7_playRound 125 = .ok (.iadd, 1) := by decide +kernel
theorem dX7_playRound_126 : decode cX7_playRound 126 = .ok (.putfield 128, 3) := by decide +kernel
theorem dX7_playRound_129 : decode cX7_playRound 129 = .ok (.aload_n 0, 1) := by decide +kernel
theorem dX7_playRound_130 : decode cX7_playRound 130 = .ok (.iload_n 1, 1) := by decide +kernel
theorem dX7_playRound_131 : decode cX7_playRound 131 = .ok (.aload_n 0, 1) := by decide +kernel
theorem dX7_playRound_132 : decode cX7_playRound 132 = .ok (.getfield 50, 3) := by decide +kernel
theorem dX7_playRound_135 : decode cX7_playRound 135 = .ok (.if_icmp .lt 7, 3) := by decide +kernel
theorem dX7_playRound_138 : decode cX7_playRound 138 = .ok (.iconst 1, 1) := by decide +kernel
theorem dX7_playRound_139 : decode cX7_playRound 139 = .ok (.goto 4, 3) := by decide +kernel
theorem dX7_playRound_142 : decode cX7_playRound 142 = .ok (.iconst 0, 1) := by decide +kernel
theorem dX7_playRound_143 : decode cX7_playRound 143 = .ok (.invokevirtual 172, 3) := by decide +kernel
theorem dX7_playRound_146 : decode cX7_playRound 146 = .ok (.ifCond .eq 7, 3) := by decide +kernel
theorem dX7_playRound_149 : decode cX7_playRound 149 = .ok (.iconst 1, 1) := by decide +kernel
theorem dX7_playRound_150 : decode cX7_playRound 150 = .ok (.goto 4, 3) := by decide +kernel
theorem dX7_playRound_153 : decode cX7_playRound 153 = .ok (.iconst 0, 1) := by decide +kernel
theorem dX7_playRound_154 : decode cX7_playRound 154 = .ok (.ireturn, 1) := by decide +kernel
theorem dX7_beginRound_0 : decode cX7_beginRound 0 = .ok (.aload_n 0, 1) := by decide +kernel
theorem dX7_beginRound_1 : decode cX7_beginRound 1 = .ok (.getfield 25, 3) := by decide +kernel
theorem dX7_beginRound_4 : decode cX7_beginRound 4 = .ok (.aload_n 0, 1) := by decide +kernel
theorem dX7_beginRound_5 : decode cX7_beginRound 5 = .ok (.getfield 18, 3) := by decide +kernel
theorem dX7_beginRound_8 : decode cX7_beginRound 8 = .ok (.aload_n 0, 1) := by decide +kernel
theorem dX7_beginRound_9 : decode cX7_beginRound 9 = .ok (.getfield 43, 3) := by decide +kernel
theorem dX7_beginRound_12 : decode cX7_beginRound 12 = .ok (.invokevirtual 176, 3) := by decide +kernel
theorem dX7_beginRound_15 : decode cX7_beginRound 15 = .ok (.iconst 0, 1) := by decide +kernel
theorem dX7_beginRound_16 : decode cX7_beginRound 16 = .ok (.istore_n 1, 1) := by decide +kernel
theorem dX7_beginRound_17 : decode cX7_beginRound 17 = .ok (.iload_n 1, 1) := by decide +kernel
theorem dX7_beginRound_18 : decode cX7_beginRound 18 = .ok (.aload_n 0, 1) := by decide +kernel
theorem dX7_beginRound_19 : decode cX7_beginRound 19 = .ok (.getfield 43, 3) := by decide +kernel
theorem dX7_beginRound_22 : decode cX7_beginRound 22 = .ok (.if_icmp .ge 20, 3) := by decide +kernel
theorem dX7_beginRound_25 : decode cX7_beginRound 25 = .ok (.aload_n 0, 1) := by decide +kernel
theorem dX7_beginRound_26 : decode cX7_beginRound 26 = .ok (.getfield 18, 3) := by decide +kernel
theorem dX7_beginRound_29 : decode cX7_beginRound 29 = .ok (.iload_n 1, 1) := by decide +kernel
theorem dX7_beginRound_30 : decode cX7_beginRound 30 = .ok (.aaload, 1) := by decide +kernel
theorem dX7_beginRound_31 : decode cX7_beginRound 31 = .ok (.ldc 90, 2) := by decide +kernel
theorem dX7_beginRound_33 : decode cX7_beginRound 33 = .ok (.putfield 150, 3) := by decide +kernel
theorem dX7_beginRound_36 : decode cX7_beginRound 36 = .ok (.iinc 1 1, 3) := by decide +kernel
theorem dX7_beginRound_39 : decode cX7_beginRound 39 = .ok (.goto (-22), 3) := by decide +kernel
theorem dX7_beginRound_42 : decode cX7_beginRound 42 = .ok (.aload_n 0, 1) := by decide +kernel
theorem dX7_beginRound_43 : decode cX7_beginRound 43 = .ok (.aload_n 0, 1) := by decide +kernel
theorem dX7_beginRound_44 : decode cX7_beginRound 44 = .ok (.getfield 43, 3) := by decide +kernel
theorem dX7_beginRound_47 : decode cX7_beginRound 47 = .ok (.putfield 47, 3) := by decide +kernel
theorem dX7_beginRound_50 : decode cX7_beginRound 50 = .ok (.return_, 1) := by decide +kernel
theorem dX7_playTurn_0 : decode cX7_playTurn 0 = .ok (.aload_n 0, 1) := by decide +kernel
theorem dX7_playTurn_1 : decode cX7_playTurn 1 = .ok (.getfield 32, 3) := by decide +kernel
theorem dX7_playTurn_4 : decode cX7_playTurn 4 = .ok (.invokevirtual 180, 3) := by decide +kernel
theorem dX7_playTurn_7 : decode cX7_playTurn 7 = .ok (.astore_n 1, 1) := by decide +kernel
theorem dX7_playTurn_8 : decode cX7_playTurn 8 = .ok (.aload_n 1, 1) := by decide +kernel
theorem dX7_playTurn_9 : decode cX7_playTurn 9 = .ok (.ifnonnull 4, 3) := by decide +kernel
theorem dX7_playTurn_12 : decode cX7_playTurn 12 = .ok (.return_, 1) := by decide +kernel
theorem dX7_playTurn_13 : decode cX7_playTurn 13 = .ok (.aload_n 1, 1) := by decide +kernel
theorem dX7_playTurn_14 : decode cX7_playTurn 14 = .ok (.aload_n 0, 1) := by decide +kernel
theorem dX7_playTurn_15 : decode cX7_playTurn 15 = .ok (.getfield 32, 3) := by decide +kernel
theorem dX7_playTurn_18 : decode cX7_playTurn 18 = .ok (.getfield 144, 3) := by decide +kernel
theorem dX7_playTurn_21 : decode cX7_playTurn 21 = .ok (.invokevirtual 184, 3) := by decide +kernel
theorem dX7_playTurn_24 : decode cX7_playTurn 24 = .ok (.ifCond .eq 11, 3) := by decide +kernel
theorem dX7_playTurn_27 : decode cX7_playTurn 27 = .ok (.aload_n 0, 1) := by decide +kernel
theorem dX7_playTurn_28 : decode cX7_playTurn 28 = .ok (.aload_n 1, 1) := by decide +kernel
theorem dX7_playTurn_29 : decode cX7_playTurn 29 = .ok (.invokevirtual 187, 3) := by decide +kernel
theorem dX7_playTurn_32 : decode cX7_playTurn 32 = .ok (.goto 27, 3) := by decide +kernel
theorem dX7_playTurn_35 : decode cX7_playTurn 35 = .ok (.aload_n 1, 1) := by decide +kernel
theorem dX7_playTurn_36 : decode cX7_playTurn 36 = .ok (.getfield 191, 3) := by decide +kernel
theorem dX7_playTurn_39 : decode cX7_playTurn 39 = .ok (.ifnonnull 11, 3) := by decide +kernel
theorem dX7_playTurn_42 : decode cX7_playTurn 42 = .ok (.aload_n 0, 1) := by decide +kernel
theorem dX7_playTurn_43 : decode cX7_playTurn 43 = .ok (.aload_n 1, 1) := by decide +kernel
theorem dX7_playTurn_44 : decode cX7_playTurn 44 = .ok (.invokevirtual 195, 3) := by decide +kernel
theorem dX7_playTurn_47 : decode cX7_playTurn 47 = .ok (.goto 12, 3) := by decide +kernel
theorem dX7_playTurn_50 : decode cX7_playTurn 50 = .ok (.aload_n 0, 1) := by decide +kernel
theorem dX7_playTurn_51 : decode cX7_playTurn 51 = .ok (.aload_n 1, 1) := by decide +kernel
theorem dX7_playTurn_52 : decode cX7_playTurn 52 = .ok (.aload_n 1, 1) := by decide +kernel
theorem dX7_playTurn_53 : decode cX7_playTurn 53 = .ok (.getfield 191, 3) := by decide +kernel
theorem dX7_playTurn_56 : decode cX7_playTurn 56 = .ok (.invokevirtual 198, 3) := by decide +kernel
theorem dX7_playTurn_59 : decode cX7_playTurn 59 = .ok (.return_, 1) := by decide +kernel
theorem dX7_loseNow_0 : decode cX7_loseNow 0 = .ok (.aload_n 1, 1) := by decide +kernel
theorem dX7_loseNow_1 : decode cX7_loseNow 1 = .ok (.getfield 191, 3) := by decide +kernel
theorem dX7_loseNow_4 : decode cX7_loseNow 4 = .ok (.ifnull 32, 3) := by decide +kernel
theorem dX7_loseNow_7 : decode cX7_loseNow 7 = .ok (.aload_n 0, 1) := by decide +kernel
theorem dX7_loseNow_8 : decode cX7_loseNow 8 = .ok (.getfield 25, 3) := by decide +kernel
theorem dX7_loseNow_11 : decode cX7_loseNow 11 = .ok (.aload_n 1, 1) := by decide +kernel
theorem dX7_loseNow_12 : decode cX7_loseNow 12 = .ok (.getfield 191, 3) := by decide +kernel
theorem dX7_loseNow_15 : decode cX7_loseNow 15 = .ok (.invokevirtual 202, 3) := by decide +kernel
theorem dX7_loseNow_18 : decode cX7_loseNow 18 = .ok (.aload_n 1, 1) := by decide +kernel
theorem dX7_loseNow_19 : decode cX7_loseNow 19 = .ok (.aconst_null, 1) := by decide +kernel
theorem dX7_loseNow_20 : decode cX7_loseNow 20 = .ok (.putfield 191, 3) := by decide +kernel
theorem dX7_loseNow_23 : decode cX7_loseNow 23 = .ok (.aload_n 0, 1) := by decide +kernel
theorem dX7_loseNow_24 : decode cX7_loseNow 24 = .ok (.getfield 39, 3) := by decide +kernel
theorem dX7_loseNow_27 : decode cX7_loseNow 27 = .ok (.dup, 1) := by decide +kernel
theorem dX7_loseNow_28 : decode cX7_loseNow 28 = .ok (.getfield 143, 3) := by decide +kernel
theorem dX7_loseNow_31 : decode cX7_loseNow 31 = .ok (.iconst 1, 1) := by decide +kernel
theorem dX7_loseNow_32 : decode cX7_loseNow 32 = .ok (.iadd, 1) := by decide +kernel
theorem dX7_loseNow_33 : decode cX7_loseNow 33 = .ok (.putfield 143, 3) := by decide +kernel
theorem dX7_loseNow_36 : decode cX7_loseNow 36 = .ok (.aload_n 0, 1) := by decide +kernel
theorem dX7_loseNow_37 : decode cX7_loseNow 37 = .ok (.getfield 32, 3) := by decide +kernel
theorem dX7_loseNow_40 : decode cX7_loseNow 40 = .ok (.aload_n 1, 1) := by decide +kernel
theorem dX7_loseNow_41 : decode cX7_loseNow 41 = .ok (.invokevirtual 206, 3) := by decide +kernel
theorem dX7_loseNow_44 : decode cX7_loseNow 44 = .ok (.return_, 1) := by decide +kernel
theorem dX7_takeShare_0 : decode cX7_takeShare 0 = .ok (.aload_n 0, 1) := by decide +kernel
theorem dX7_takeShare_1 : decode cX7_takeShare 1 = .ok (.getfield 25, 3) := by decide +kernel
theorem dX7_takeShare_4 : decode cX7_takeShare 4 = .ok (.invokevirtual 209, 3) := by decide +kernel
theorem dX7_takeShare_7 : decode cX7_takeShare 7 = .ok (.astore_n 2, 1) := by decide +kernel
theorem dX7_takeShare_8 : decode cX7_takeShare 8 = .ok (.aload_n 2, 1) := by decide +kernel
theorem dX7_takeShare_9 : decode cX7_takeShare 9 = .ok (.ifnonnull 4, 3) := by decide +kernel
theorem dX7_takeShare_12 : decode cX7_takeShare 12 = .ok (.return_, 1) := by decide +kernel
theorem dX7_takeShare_13 : decode cX7_takeShare 13 = .ok (.aload_n 0, 1) := by decide +kernel
theorem dX7_takeShare_14 : decode cX7_takeShare 14 = .ok (.getfield 39, 3) := by decide +kernel
theorem dX7_takeShare_17 : decode cX7_takeShare 17 = .ok (.dup, 1) := by decide +kernel
theorem dX7_takeShare_18 : decode cX7_takeShare 18 = .ok (.getfield 140, 3) := by decide +kernel
theorem dX7_takeShare_21 : decode cX7_takeShare 21 = .ok (.iconst 1, 1) := by decide +kernel
theorem dX7_takeShare_22 : decode cX7_takeShare 22 = .ok (.iadd, 1) := by decide +kernel
theorem dX7_takeShare_23 : decode cX7_takeShare 23 = .ok (.putfield 140, 3) := by decide +kernel
theorem dX7_takeShare_26 : decode cX7_takeShare 26 = .ok (.aload_n 1, 1) := by decide +kernel
theorem dX7_takeShare_27 : decode cX7_takeShare 27 = .ok (.aload_n 2, 1) := by decide +kernel
theorem dX7_takeShare_28 : decode cX7_takeShare 28 = .ok (.invokevirtual 213, 3) := by decide +kernel
theorem dX7_takeShare_31 : decode cX7_takeShare 31 = .ok (.aload_n 2, 1) := by decide +kernel
theorem dX7_takeShare_32 : decode cX7_takeShare 32 = .ok (.getfield 79, 3) := by decide +kernel
theorem dX7_takeShare_35 : decode cX7_takeShare 35 = .ok (.ifCond .ne 10, 3) := by decide +kernel
theorem dX7_takeShare_38 : decode cX7_takeShare 38 = .ok (.aload_n 0, 1) := by decide +kernel
theorem dX7_takeShare_39 : decode cX7_takeShare 39 = .ok (.aload_n 1, 1) := by decide +kernel
theorem dX7_takeShare_40 : decode cX7_takeShare 40 = .ok (.aload_n 2, 1) := by decide +kernel
theorem dX7_takeShare_41 : decode cX7_takeShare 41 = .ok (.iconst 0, 1) := by decide +kernel
theorem dX7_takeShare_42 : decode cX7_takeShare 42 = .ok (.invokevirtual 216, 3) := by decide +kernel
theorem dX7_takeShare_45 : decode cX7_takeShare 45 = .ok (.return_, 1) := by decide +kernel
theorem dX7_doNextAct_0 : decode cX7_doNextAct 0 = .ok (.aload_n 1, 1) := by decide +kernel
theorem dX7_doNextAct_1 : decode cX7_doNextAct 1 = .ok (.getfield 220, 3) := by decide +kernel
theorem dX7_doNextAct_4 : decode cX7_doNextAct 4 = .ok (.istore_n 3, 1) := by decide +kernel
theorem dX7_doNextAct_5 : decode cX7_doNextAct 5 = .ok (.iload_n 3, 1) := by decide +kernel
theorem dX7_doNextAct_6 : decode cX7_doNextAct 6 = .ok (.ifCond .lt 11, 3) := by decide +kernel
theorem dX7_doNextAct_9 : decode cX7_doNextAct 9 = .ok (.iload_n 3, 1) := by decide +kernel
theorem dX7_doNextAct_10 : decode cX7_doNextAct 10 = .ok (.aload_n 2, 1) := by decide +kernel
theorem dX7_doNextAct_11 : decode cX7_doNextAct 11 = .ok (.getfield 79, 3) := by decide +kernel
theorem dX7_doNextAct_14 : decode cX7_doNextAct 14 = .ok (.if_icmp .lt 4, 3) := by decide +kernel
theorem dX7_doNextAct_17 : decode cX7_doNextAct 17 = .ok (.return_, 1) := by decide +kernel
theorem dX7_doNextAct_18 : decode cX7_doNextAct 18 = .ok (.aload_n 1, 1) := by decide +kernel
theorem dX7_doNextAct_19 : decode cX7_doNextAct 19 = .ok (.getfield 223, 3) := by decide +kernel
theorem dX7_doNextAct_22 : decode cX7_doNextAct 22 = .ok (.aload_n 2, 1) := by decide +kernel
theorem dX7_doNextAct_23 : decode cX7_doNextAct 23 = .ok (.getfield 227, 3) := by decide +kernel
theorem dX7_doNextAct_26 : decode cX7_doNextAct 26 = .ok (.iload_n 3, 1) := by decide +kernel
theorem dX7_doNextAct_27 : decode cX7_doNextAct 27 = .ok (.iaload, 1) := by decide +kernel
theorem dX7_doNextAct_28 : decode cX7_doNextAct 28 = .ok (.aload_n 2, 1) := by decide +kernel
theorem dX7_doNextAct_29 : decode cX7_doNextAct 29 = .ok (.getfield 230, 3) := by decide +kernel
theorem dX7_doNextAct_32 : decode cX7_doNextAct 32 = .ok (.iload_n 3, 1) := by decide +kernel
theorem dX7_doNextAct_33 : decode cX7_doNextAct 33 = .ok (.iaload, 1) := by decide +kernel
theorem dX7_doNextAct_34 : decode cX7_doNextAct 34 = .ok (.aload_n 2, 1) := by decide +kernel
theorem dX7_doNextAct_35 : decode cX7_doNextAct 35 = .ok (.getfield 233, 3) := by decide +kernel
theorem dX7_doNextAct_38 : decode cX7_doNextAct 38 = .ok (.iload_n 3, 1) := by decide +kernel
theorem dX7_doNextAct_39 : decode cX7_doNextAct 39 = .ok (.iaload, 1) := by decide +kernel
theorem dX7_doNextAct_40 : decode cX7_doNextAct 40 = .ok (.aload_n 0, 1) := by decide +kernel
theorem dX7_doNextAct_41 : decode cX7_doNextAct 41 = .ok (.getfield 10, 3) := by decide +kernel
theorem dX7_doNextAct_44 : decode cX7_doNextAct 44 = .ok (.invokevirtual 236, 3) := by decide +kernel
theorem dX7_doNextAct_47 : decode cX7_doNextAct 47 = .ok (.istore 4, 2) := by decide +kernel
theorem dX7_doNextAct_49 : decode cX7_doNextAct 49 = .ok (.aload_n 1, 1) := by decide +kernel
theorem dX7_doNextAct_50 : decode cX7_doNextAct 50 = .ok (.iload_n 3, 1) := by decide +kernel
theorem dX7_doNextAct_51 : decode cX7_doNextAct 51 = .ok (.iconst 1, 1) := by decide +kernel
theorem dX7_doNextAct_52 : decode cX7_doNextAct 52 = .ok (.iadd, 1) := by decide +kernel
theorem dX7_doNextAct_53 : decode cX7_doNextAct 53 = .ok (.putfield 220, 3) := by decide +kernel
theorem dX7_doNextAct_56 : decode cX7_doNextAct 56 = .ok (.iload 4, 2) := by decide +kernel
theorem dX7_doNextAct_58 : decode cX7_doNextAct 58 = .ok (.ifCond .ne 14, 3) := by decide +kernel
theorem dX7_doNextAct_61 : decode cX7_doNextAct 61 = .ok (.aload_n 1, 1) := by decide +kernel
theorem dX7_doNextAct_62 : decode cX7_doNextAct 62 = .ok (.getfield 220, 3) := by decide +kernel
theorem dX7_doNextAct_65 : decode cX7_doNextAct 65 = .ok (.aload_n 2, 1) := by decide +kernel
theorem dX7_doNextAct_66 : decode cX7_doNextAct 66 = .ok (.getfield 79, 3) := by decide +kernel
theorem dX7_doNextAct_69 : decode cX7_doNextAct 69 = .ok (.if_icmp .lt 11, 3) := by decide +kernel
theorem dX7_doNextAct_72 : decode cX7_doNextAct 72 = .ok (.aload_n 0, 1) := by decide +kernel
theorem dX7_doNextAct_73 : decode cX7_doNextAct 73 = .ok (.aload_n 1, 1) := by decide +kernel
theorem dX7_doNextAct_74 : decode cX7_doNextAct 74 = .ok (.aload_n 2, 1) := by decide +kernel
theorem dX7_doNextAct_75 : decode cX7_doNextAct 75 = .ok (.iload 4, 2) := by decide +kernel
theorem dX7_doNextAct_77 : decode cX7_doNextAct 77 = .ok (.invokevirtual 216, 3) := by decide +kernel
theorem dX7_doNextAct_80 : decode cX7_doNextAct 80 = .ok (.return_, 1) := by decide +kernel
theorem dX7_finish_0 : decode cX7_finish 0 = .ok (.aload_n 2, 1) := by decide +kernel
theorem dX7_finish_1 : decode cX7_finish 1 = .ok (.iload_n 3, 1) := by decide +kernel
theorem dX7_finish_2 : decode cX7_finish 2 = .ok (.ifCond .ne 14, 3) := by decide +kernel
theorem dX7_finish_5 : decode cX7_finish 5 = .ok (.aload_n 1, 1) := by decide +kernel
theorem dX7_finish_6 : decode cX7_finish 6 = .ok (.getfield 223, 3) := by decide +kernel
theorem dX7_finish_9 : decode cX7_finish 9 = .ok (.aload_n 2, 1) := by decide +kernel
theorem dX7_finish_10 : decode cX7_finish 10 = .ok (.invokevirtual 240, 3) := by decide +kernel
theorem dX7_finish_13 : decode cX7_finish 13 = .ok (.goto 4, 3) := by decide +kernel
theorem dX7_finish_16 : decode cX7_finish 16 = .ok (.iload_n 3, 1) := by decide +kernel
theorem dX7_finish_17 : decode cX7_finish 17 = .ok (.putfield 168, 3) := by decide +kernel
theorem dX7_finish_20 : decode cX7_finish 20 = .ok (.aload_n 2, 1) := by decide +kernel
theorem dX7_finish_21 : decode cX7_finish 21 = .ok (.aload_n 1, 1) := by decide +kernel
theorem dX7_finish_22 : decode cX7_finish 22 = .ok (.getfield 244, 3) := by decide +kernel
theorem dX7_finish_25 : decode cX7_finish 25 = .ok (.putfield 150, 3) := by decide +kernel
theorem dX7_finish_28 : decode cX7_finish 28 = .ok (.aload_n 1, 1) := by decide +kernel
theorem dX7_finish_29 : decode cX7_finish 29 = .ok (.aconst_null, 1) := by decide +kernel
theorem dX7_finish_30 : decode cX7_finish 30 = .ok (.putfield 191, 3) := by decide +kernel
theorem dX7_finish_33 : decode cX7_finish 33 = .ok (.aload_n 0, 1) := by decide +kernel
theorem dX7_finish_34 : decode cX7_finish 34 = .ok (.getfield 39, 3) := by decide +kernel
theorem dX7_finish_37 : decode cX7_finish 37 = .ok (.dup, 1) := by decide +kernel
theorem dX7_finish_38 : decode cX7_finish 38 = .ok (.getfield 143, 3) := by decide +kernel
theorem dX7_finish_41 : decode cX7_finish 41 = .ok (.iconst 1, 1) := by decide +kernel
theorem dX7_finish_42 : decode cX7_finish 42 = .ok (.iadd, 1) := by decide +kernel
theorem dX7_finish_43 : decode cX7_finish 43 = .ok (.putfield 143, 3) := by decide +kernel
theorem dX7_finish_46 : decode cX7_finish 46 = .ok (.aload_n 0, 1) := by decide +kernel
theorem dX7_finish_47 : decode cX7_finish 47 = .ok (.dup, 1) := by decide +kernel
theorem dX7_finish_48 : decode cX7_finish 48 = .ok (.getfield 47, 3) := by decide +kernel
theorem dX7_finish_51 : decode cX7_finish 51 = .ok (.iconst 1, 1) := by decide +kernel
theorem dX7_finish_52 : decode cX7_finish 52 = .ok (.isub, 1) := by decide +kernel
theorem dX7_finish_53 : decode cX7_finish 53 = .ok (.putfield 47, 3) := by decide +kernel
theorem dX7_finish_56 : decode cX7_finish 56 = .ok (.return_, 1) := by decide +kernel
theorem dX7_leastSpoilt_0 : decode cX7_leastSpoilt 0 = .ok (.iconst 0, 1) := by decide +kernel
theorem dX7_leastSpoilt_1 : decode cX7_leastSpoilt 1 = .ok (.istore_n 1, 1) := by decide +kernel
theorem dX7_leastSpoilt_2 : decode cX7_leastSpoilt 2 = .ok (.iload_n 1, 1) := by decide +kernel
theorem dX7_leastSpoilt_3 : decode cX7_leastSpoilt 3 = .ok (.aload_n 0, 1) := by decide +kernel
theorem dX7_leastSpoilt_4 : decode cX7_leastSpoilt 4 = .ok (.getfield 43, 3) := by decide +kernel
theorem dX7_leastSpoilt_7 : decode cX7_leastSpoilt 7 = .ok (.if_icmp .ge 23, 3) := by decide +kernel
theorem dX7_leastSpoilt_10 : decode cX7_leastSpoilt 10 = .ok (.aload_n 0, 1) := by decide +kernel
theorem dX7_leastSpoilt_11 : decode cX7_leastSpoilt 11 = .ok (.getfield 18, 3) := by decide +kernel
theorem dX7_leastSpoilt_14 : decode cX7_leastSpoilt 14 = .ok (.iload_n 1, 1) := by decide +kernel
theorem dX7_leastSpoilt_15 : decode cX7_leastSpoilt 15 = .ok (.aaload, 1) := by decide +kernel
theorem dX7_leastSpoilt_16 : decode cX7_leastSpoilt 16 = .ok (.getfield 168, 3) := by decide +kernel
theorem dX7_leastSpoilt_19 : decode cX7_leastSpoilt 19 = .ok (.ifCond .eq 5, 3) := by decide +kernel
theorem dX7_leastSpoilt_22 : decode cX7_leastSpoilt 22 = .ok (.iload_n 1, 1) := by decide +kernel
theorem dX7_leastSpoilt_23 : decode cX7_leastSpoilt 23 = .ok (.ireturn, 1) := by decide +kernel
theorem dX7_leastSpoilt_24 : decode cX7_leastSpoilt 24 = .ok (.iinc 1 1, 3) := by decide +kernel
theorem dX7_leastSpoilt_27 : decode cX7_leastSpoilt 27 = .ok (.goto (-25), 3) := by decide +kernel
theorem dX7_leastSpoilt_30 : decode cX7_leastSpoilt 30 = .ok (.ldc 90, 2) := by decide +kernel
theorem dX7_leastSpoilt_32 : decode cX7_leastSpoilt 32 = .ok (.ireturn, 1) := by decide +kernel
theorem dX7_actsOfAllShares_0 : decode cX7_actsOfAllShares 0 = .ok (.iconst 0, 1) := by decide +kernel
theorem dX7_actsOfAllShares_1 : decode cX7_actsOfAllShares 1 = .ok (.istore_n 1, 1) := by decide +kernel
theorem dX7_actsOfAllShares_2 : decode cX7_actsOfAllShares 2 = .ok (.iconst 0, 1) := by decide +kernel
theorem dX7_actsOfAllShares_3 : decode cX7_actsOfAllShares 3 = .ok (.istore_n 2, 1) := by decide +kernel
theorem dX7_actsOfAllShares_4 : decode cX7_actsOfAllShares 4 = .ok (.iload_n 2, 1) := by decide +kernel
theorem dX7_actsOfAllShares_5 : decode cX7_actsOfAllShares 5 = .ok (.aload_n 0, 1) := by decide +kernel
theorem dX7_actsOfAllShares_6 : decode cX7_actsOfAllShares 6 = .ok (.getfield 43, 3) := by decide +kernel
theorem dX7_actsOfAllShares_9 : decode cX7_actsOfAllShares 9 = .ok (.if_icmp .ge 21, 3) := by decide +kernel
theorem dX7_actsOfAllShares_12 : decode cX7_actsOfAllShares 12 = .ok (.iload_n 1, 1) := by decide +kernel
theorem dX7_actsOfAllShares_13 : decode cX7_actsOfAllShares 13 = .ok (.aload_n 0, 1) := by decide +kernel
theorem dX7_actsOfAllShares_14 : decode cX7_actsOfAllShares 14 = .ok (.getfield 18, 3) := by decide +kernel
theorem dX7_actsOfAllShares_17 : decode cX7_actsOfAllShares 17 = .ok (.iload_n 2, 1) := by decide +kernel
theorem dX7_actsOfAllShares_18 : decode cX7_actsOfAllShares 18 = .ok (.aaload, 1) := by decide +kernel
theorem dX7_actsOfAllShares_19 : decode cX7_actsOfAllShares 19 = .ok (.getfield 79, 3) := by decide +kernel
theorem dX7_actsOfAllShares_22 : decode cX7_actsOfAllShares 22 = .ok (.iadd, 1) := by decide +kernel
theorem dX7_actsOfAllShares_23 : decode cX7_actsOfAllShares 23 = .ok (.istore_n 1, 1) := by decide +kernel
theorem dX7_actsOfAllShares_24 : decode cX7_actsOfAllShares 24 = .ok (.iinc 2 1, 3) := by decide +kernel
theorem dX7_actsOfAllShares_27 : decode cX7_actsOfAllShares 27 = .ok (.goto (-23), 3) := by decide +kernel
theorem dX7_actsOfAllShares_30 : decode cX7_actsOfAllShares 30 = .ok (.iload_n 1, 1) := by decide +kernel
theorem dX7_actsOfAllShares_31 : decode cX7_actsOfAllShares 31 = .ok (.ireturn, 1) := by decide +kernel
theorem dX7_joinAnswers_0 : decode cX7_joinAnswers 0 = .ok (.iconst 0, 1) := by decide +kernel
theorem dX7_joinAnswers_1 : decode cX7_joinAnswers 1 = .ok (.istore_n 2, 1) := by decide +kernel
theorem dX7_joinAnswers_2 : decode cX7_joinAnswers 2 = .ok (.iconst 0, 1) := by decide +kernel
theorem dX7_joinAnswers_3 : decode cX7_joinAnswers 3 = .ok (.istore_n 3, 1) := by decide +kernel
theorem dX7_joinAnswers_4 : decode cX7_joinAnswers 4 = .ok (.iload_n 3, 1) := by decide +kernel
theorem dX7_joinAnswers_5 : decode cX7_joinAnswers 5 = .ok (.aload_n 0, 1) := by decide +kernel
theorem dX7_joinAnswers_6 : decode cX7_joinAnswers 6 = .ok (.getfield 43, 3) := by decide +kernel
theorem dX7_joinAnswers_9 : decode cX7_joinAnswers 9 = .ok (.if_icmp .ge 28, 3) := by decide +kernel
theorem dX7_joinAnswers_12 : decode cX7_joinAnswers 12 = .ok (.aload_n 0, 1) := by decide +kernel
theorem dX7_joinAnswers_13 : decode cX7_joinAnswers 13 = .ok (.getfield 10, 3) := by decide +kernel
theorem dX7_joinAnswers_16 : decode cX7_joinAnswers 16 = .ok (.aload_n 0, 1) := by decide +kernel
theorem dX7_joinAnswers_17 : decode cX7_joinAnswers 17 = .ok (.getfield 18, 3) := by decide +kernel
theorem dX7_joinAnswers_20 : decode cX7_joinAnswers 20 = .ok (.iload_n 3, 1) := by decide +kernel
theorem dX7_joinAnswers_21 : decode cX7_joinAnswers 21 = .ok (.aaload, 1) := by decide +kernel
theorem dX7_joinAnswers_22 : decode cX7_joinAnswers 22 = .ok (.iload_n 1, 1) := by decide +kernel
theorem dX7_joinAnswers_23 : decode cX7_joinAnswers 23 = .ok (.invokevirtual 247, 3) := by decide +kernel
theorem dX7_joinAnswers_26 : decode cX7_joinAnswers 26 = .ok (.ifCond .eq 5, 3) := by decide +kernel
theorem dX7_joinAnswers_29 : decode cX7_joinAnswers 29 = .ok (.iconst 1, 1) := by decide +kernel
theorem dX7_joinAnswers_30 : decode cX7_joinAnswers 30 = .ok (.istore_n 2, 1) := by decide +kernel
theorem dX7_joinAnswers_31 : decode cX7_joinAnswers 31 = .ok (.iinc 3 1, 3) := by decide +kernel
theorem dX7_joinAnswers_34 : decode cX7_joinAnswers 34 = .ok (.goto (-30), 3) := by decide +kernel
theorem dX7_joinAnswers_37 : decode cX7_joinAnswers 37 = .ok (.iload_n 2, 1) := by decide +kernel
theorem dX7_joinAnswers_38 : decode cX7_joinAnswers 38 = .ok (.ireturn, 1) := by decide +kernel
end
section
theorem dX8_init_0 : decode cX8_init 0 = .ok (.aload_n 0, 1) := by decide +kernel
theorem dX8_init_1 : decode cX8_init 1 = .ok (.invokespecial 1, 3) := by decide +kernel
theorem dX8_init_4 : decode cX8_init 4 = .ok (.aload_n 0, 1) := by decide +kernel
theorem dX8_init_5 : decode cX8_init 5 = .ok (.bipush 10, 2) := by decide +kernel
theorem dX8_init_7 : decode cX8_init 7 = .ok (.newarray .int, 2) := by decide +kernel
theorem dX8_init_9 : decode cX8_init 9 = .ok (.putfield 7, 3) := by decide +kernel
theorem dX8_init_12 : decode cX8_init 12 = .ok (.aload_n 0, 1) := by decide +kernel
theorem dX8_init_13 : decode cX8_init 13 = .ok (.bipush 10, 2) := by decide +kernel
theorem dX8_init_15 : decode cX8_init 15 = .ok (.newarray .int, 2) := by decide +kernel
theorem dX8_init_17 : decode cX8_init 17 = .ok (.putfield 13, 3) := by decide +kernel
theorem dX8_init_20 : decode cX8_init 20 = .ok (.aload_n 0, 1) := by decide +kernel
theorem dX8_init_21 : decode cX8_init 21 = .ok (.bipush 10, 2) := by decide +kernel
theorem dX8_init_23 : decode cX8_init 23 = .ok (.newarray .int, 2) := by decide +kernel
theorem dX8_init_25 : decode cX8_init 25 = .ok (.putfield 16, 3) := by decide +kernel
theorem dX8_init_28 : decode cX8_init 28 = .ok (.aload_n 0, 1) := by decide +kernel
theorem dX8_init_29 : decode cX8_init 29 = .ok (.bipush 10, 2) := by decide +kernel
theorem dX8_init_31 : decode cX8_init 31 = .ok (.newarray .int, 2) := by decide +kernel
theorem dX8_init_33 : decode cX8_init 33 = .ok (.putfield 19, 3) := by decide +kernel
theorem dX8_init_36 : decode cX8_init 36 = .ok (.aload_n 0, 1) := by decide +kernel
theorem dX8_init_37 : decode cX8_init 37 = .ok (.bipush 80, 2) := by decide +kernel
theorem dX8_init_39 : decode cX8_init 39 = .ok (.newarray .int, 2) := by decide +kernel
theorem dX8_init_41 : decode cX8_init 41 = .ok (.putfield 22, 3) := by decide +kernel
theorem dX8_init_44 : decode cX8_init 44 = .ok (.aload_n 0, 1) := by decide +kernel
theorem dX8_init_45 : decode cX8_init 45 = .ok (.bipush 80, 2) := by decide +kernel
theorem dX8_init_47 : decode cX8_init 47 = .ok (.newarray .int, 2) := by decide +kernel
theorem dX8_init_49 : decode cX8_init 49 = .ok (.putfield 25, 3) := by decide +kernel
theorem dX8_init_52 : decode cX8_init 52 = .ok (.aload_n 0, 1) := by decide +kernel
theorem dX8_init_53 : decode cX8_init 53 = .ok (.bipush 80, 2) := by decide +kernel
theorem dX8_init_55 : decode cX8_init 55 = .ok (.newarray .int, 2) := by decide +kernel
theorem dX8_init_57 : decode cX8_init 57 = .ok (.putfield 28, 3) := by decide +kernel
theorem dX8_init_60 : decode cX8_init 60 = .ok (.aload_n 0, 1) := by decide +kernel
theorem dX8_init_61 : decode cX8_init 61 = .ok (.bipush 10, 2) := by decide +kernel
theorem dX8_init_63 : decode cX8_init 63 = .ok (.newarray .int, 2) := by decide +kernel
theorem dX8_init_65 : decode cX8_init 65 = .ok (.putfield 31, 3) := by decide +kernel
theorem dX8_init_68 : decode cX8_init 68 = .ok (.aload_n 0, 1) := by decide +kernel
theorem dX8_init_69 : decode cX8_init 69 = .ok (.bipush 10, 2) := by decide +kernel
theorem dX8_init_71 : decode cX8_init 71 = .ok (.newarray .int, 2) := by decide +kernel
theorem dX8_init_73 : decode cX8_init 73 = .ok (.putfield 34, 3) := by decide +kernel
theorem dX8_init_76 : decode cX8_init 76 = .ok (.aload_n 0, 1) := by decide +kernel
theorem dX8_init_77 : decode cX8_init 77 = .ok (.bipush 30, 2) := by decide +kernel
theorem dX8_init_79 : decode cX8_init 79 = .ok (.newarray .int, 2) := by decide +kernel
theorem dX8_init_81 : decode cX8_init 81 = .ok (.putfield 37, 3) := by decide +kernel
theorem dX8_init_84 : decode cX8_init 84 = .ok (.aload_n 0, 1) := by decide +kernel
theorem dX8_init_85 : decode cX8_init 85 = .ok (.bipush 30, 2) := by decide +kernel
theorem dX8_init_87 : decode cX8_init 87 = .ok (.newarray .int, 2) := by decide +kernel
theorem dX8_init_89 : decode cX8_init 89 = .ok (.putfield 40, 3) := by decide +kernel
theorem dX8_init_92 : decode cX8_init 92 = .ok (.aload_n 0, 1) := by decide +kernel
theorem dX8_init_93 : decode cX8_init 93 = .ok (.bipush 30, 2) := by decide +kernel
theorem dX8_init_95 : decode cX8_init 95 = .ok (.newarray .int, 2) := by decide +kernel
theorem dX8_init_97 : decode cX8_init 97 = .ok (.putfield 43, 3) := by decide +kernel
theorem dX8_init_100 : decode cX8_init 100 = .ok (.aload_n 0, 1) := by decide +kernel
theorem dX8_init_101 : decode cX8_init 101 = .ok (.bipush 30, 2) := by decide +kernel
theorem dX8_init_103 : decode cX8_init 103 = .ok (.newarray .int, 2) := by decide +kernel
theorem dX8_init_105 : decode cX8_init 105 = .ok (.putfield 46, 3) := by decide +kernel
theorem dX8_init_108 : decode cX8_init 108 = .ok (.aload_n 0, 1) := by decide +kernel
theorem dX8_init_109 : decode cX8_init 109 = .ok (.bipush 10, 2) := by decide +kernel
theorem dX8_init_111 : decode cX8_init 111 = .ok (.newarray .int, 2) := by decide +kernel
theorem dX8_init_113 : decode cX8_init 113 = .ok (.putfield 49, 3) := by decide +kernel
theorem dX8_init_116 : decode cX8_init 116 = .ok (.aload_n 0, 1) := by decide +kernel
theorem dX8_init_117 : decode cX8_init 117 = .ok (.bipush 10, 2) := by decide +kernel
theorem dX8_init_119 : decode cX8_init 119 = .ok (.newarray .int, 2) := by decide +kernel
theorem dX8_init_121 : decode cX8_init 121 = .ok (.putfield 52, 3) := by decide +kernel
theorem dX8_init_124 : decode cX8_init 124 = .ok (.aload_n 0, 1) := by decide +kernel
theorem dX8_init_125 : decode cX8_init 125 = .ok (.bipush 10, 2) := by decide +kernel
theorem dX8_init_127 : decode cX8_init 127 = .ok (.newarray .boolean, 2) := by decide +kernel
theorem dX8_init_129 : decode cX8_init 129 = .ok (.putfield 55, 3) := by decide +kernel
theorem dX8_init_132 : decode cX8_init 132 = .ok (.aload_n 0, 1) := by decide +kernel
theorem dX8_init_133 : decode cX8_init 133 = .ok (.sipush 400, 3) := by decide +kernel
theorem dX8_init_136 : decode cX8_init 136 = .ok (.newarray .int, 2) := by decide +kernel
theorem dX8_init_138 : decode cX8_init 138 = .ok (.putfield 59, 3) := by decide +kernel
theorem dX8_init_141 : decode cX8_init 141 = .ok (.aload_n 0, 1) := by decide +kernel
theorem dX8_init_142 : decode cX8_init 142 = .ok (.iconst 4, 1) := by decide +kernel
theorem dX8_init_143 : decode cX8_init 143 = .ok (.newarray .boolean, 2) := by decide +kernel
theorem dX8_init_145 : decode cX8_init 145 = .ok (.putfield 62, 3) := by decide +kernel
theorem dX8_init_148 : decode cX8_init 148 = .ok (.aload_n 0, 1) := by decide +kernel
theorem dX8_init_149 : decode cX8_init 149 = .ok (.iconst 4, 1) := by decide +kernel
theorem dX8_init_150 : decode cX8_init 150 = .ok (.newarray .int, 2) := by decide +kernel
theorem dX8_init_152 : decode cX8_init 152 = .ok (.putfield 65, 3) := by decide +kernel
theorem dX8_init_155 : decode cX8_init 155 = .ok (.aload_n 0, 1) := by decide +kernel
theorem dX8_init_156 : decode cX8_init 156 = .ok (.iconst 4, 1) := by decide +kernel
theorem dX8_init_157 : decode cX8_init 157 = .ok (.newarray .int, 2) := by decide +kernel
theorem dX8_init_159 : decode cX8_init 159 = .ok (.putfield 68, 3) := by decide +kernel
theorem dX8_init_162 : decode cX8_init 162 = .ok (.aload_n 0, 1) := by decide +kernel
theorem dX8_init_163 : decode cX8_init 163 = .ok (.ldc 71, 2) := by decide +kernel
theorem dX8_init_165 : decode cX8_init 165 = .ok (.putfield 72, 3) := by decide +kernel
theorem dX8_init_168 : decode cX8_init 168 = .ok (.aload_n 0, 1) := by decide +kernel
theorem dX8_init_169 : decode cX8_init 169 = .ok (.iconst 3, 1) := by decide +kernel
theorem dX8_init_170 : decode cX8_init 170 = .ok (.putfield 76, 3) := by decide +kernel
theorem dX8_init_173 : decode cX8_init 173 = .ok (.aload_n 0, 1) := by decide +kernel
theorem dX8_init_174 : decode cX8_init 174 = .ok (.sipush 1000, 3) := by decide +kernel
theorem dX8_init_177 : decode cX8_init 177 = .ok (.putfield 79, 3) := by decide +kernel
theorem dX8_init_180 : decode cX8_init 180 = .ok (.aload_n 0, 1) := by decide +kernel
theorem dX8_init_181 : decode cX8_init 181 = .ok (.ldc 71, 2) := by decide +kernel
theorem dX8_init_183 : decode cX8_init 183 = .ok (.putfield 82, 3) := by decide +kernel
theorem dX8_init_186 : decode cX8_init 186 = .ok (.aload_n 0, 1) := by decide +kernel
theorem dX8_init_187 : decode cX8_init 187 = .ok (.getfield 62, 3) := by decide +kernel
theorem dX8_init_190 : decode cX8_init 190 = .ok (.iconst 0, 1) := by decide +kernel
theorem dX8_init_191 : decode cX8_init 191 = .ok (.iconst 1, 1) := by decide +kernel
theorem dX8_init_192 : decode cX8_init 192 = .ok (.bastore, 1) := by decide +kernel
theorem dX8_init_193 : decode cX8_init 193 = .ok (.iconst 0, 1) := by decide +kernel
theorem dX8_init_194 : decode cX8_init 194 = .ok (.istore_n 1, 1) := by decide +kernel
theorem dX8_init_195 : decode cX8_init 195 = .ok (.iload_n 1, 1) := by decide +kernel
theorem dX8_init_196 : decode cX8_init 196 = .ok (.bipush 10, 2) := by decide +kernel
theorem dX8_init_198 : decode cX8_init 198 = .ok (.if_icmp .ge 24, 3) := by decide +kernel
theorem dX8_init_201 : decode cX8_init 201 = .ok (.aload_n 0, 1) := by decide +kernel
theorem dX8_init_202 : decode cX8_init 202 = .ok (.getfield 7, 3) := by decide +kernel
theorem dX8_init_205 : decode cX8_init 205 = .ok (.iload_n 1, 1) := by decide +kernel
theorem dX8_init_206 : decode cX8_init 206 = .ok (.iconst 1, 1) := by decide +kernel
theorem dX8_init_207 : decode cX8_init 207 = .ok (.iastore, 1) := by decide +kernel
theorem dX8_init_208 : decode cX8_init 208 = .ok (.aload_n 0, 1) := by decide +kernel
theorem dX8_init_209 : decode cX8_init 209 = .ok (.getfield 52, 3) := by decide +kernel
theorem dX8_init_212 : decode cX8_init 212 = .ok (.iload_n 1, 1) := by decide +kernel
theorem dX8_init_213 : decode cX8_init 213 = .ok (.ldc 71, 2) := by decide +kernel
theorem dX8_init_215 : decode cX8_init 215 = .ok (.iastore, 1) := by decide +kernel
theorem dX8_init_216 : decode cX8_init 216 = .ok (.iinc 1 1, 3) := by decide +kernel
theorem dX8_init_219 : decode cX8_init 219 = .ok (.goto (-24), 3) := by decide +kernel
theorem dX8_init_222 : decode cX8_init 222 = .ok (.return_, 1) := by decide +kernel
theorem dX8_isFact_0 : decode cX8_isFact 0 = .ok (.iload_n 0, 1) := by decide +kernel
theorem dX8_isFact_1 : decode cX8_isFact 1 = .ok (.ifCond .lt 13, 3) := by decide +kernel
theorem dX8_isFact_4 : decode cX8_isFact 4 = .ok (.iload_n 0, 1) := by decide +kernel
theorem dX8_isFact_5 : decode cX8_isFact 5 = .ok (.bipush 10, 2) := by decide +kernel
theorem dX8_isFact_7 : decode cX8_isFact 7 = .ok (.if_icmp .ge 7, 3) := by decide +kernel
theorem dX8_isFact_10 : decode cX8_isFact 10 = .ok (.iconst 1, 1) := by decide +kernel
theorem dX8_isFact_11 : decode cX8_isFact 11 = .ok (.goto 4, 3) := by decide +kernel
theorem dX8_isFact_14 : decode cX8_isFact 14 = .ok (.iconst 0, 1) := by decide +kernel
theorem dX8_isFact_15 : decode cX8_isFact 15 = .ok (.ireturn, 1) := by decide +kernel
theorem dX8_isEnd_0 : decode cX8_isEnd 0 = .ok (.iload_n 0, 1) := by decide +kernel
theorem dX8_isEnd_1 : decode cX8_isEnd 1 = .ok (.ldc 85, 2) := by decide +kernel
theorem dX8_isEnd_3 : decode cX8_isEnd 3 = .ok (.if_icmp .lt 13, 3) := by decide +kernel
theorem dX8_isEnd_6 : decode cX8_isEnd 6 = .ok (.iload_n 0, 1) := by decide +kernel
theorem dX8_isEnd_7 : decode cX8_isEnd 7 = .ok (.ldc 86, 2) := by decide +kernel
theorem dX8_isEnd_9 : decode cX8_isEnd 9 = .ok (.if_icmp .gt 7, 3) := by decide +kernel
theorem dX8_isEnd_12 : decode cX8_isEnd 12 = .ok (.iconst 1, 1) := by decide +kernel
theorem dX8_isEnd_13 : decode cX8_isEnd 13 = .ok (.goto 4, 3) := by decide +kernel
theorem dX8_isEnd_16 : decode cX8_isEnd 16 = .ok (.iconst 0, 1) := by decide +kernel
theorem dX8_isEnd_17 : decode cX8_isEnd 17 = .ok (.ireturn, 1) := by decide +kernel
theorem dX8_isShare_0 : decode cX8_isShare 0 = .ok (.iload_n 1, 1) := by decide +kernel
theorem dX8_isShare_1 : decode cX8_isShare 1 = .ok (.ifCond .lt 15, 3) := by decide +kernel
theorem dX8_isShare_4 : decode cX8_isShare 4 = .ok (.iload_n 1, 1) := by decide +kernel
theorem dX8_isShare_5 : decode cX8_isShare 5 = .ok (.aload_n 0, 1) := by decide +kernel
theorem dX8_isShare_6 : decode cX8_isShare 6 = .ok (.getfield 87, 3) := by decide +kernel
theorem dX8_isShare_9 : decode cX8_isShare 9 = .ok (.if_icmp .ge 7, 3) := by decide +kernel
theorem dX8_isShare_12 : decode cX8_isShare 12 = .ok (.iconst 1, 1) := by decide +kernel
theorem dX8_isShare_13 : decode cX8_isShare 13 = .ok (.goto 4, 3) := by decide +kernel
theorem dX8_isShare_16 : decode cX8_isShare 16 = .ok (.iconst 0, 1) := by decide +kernel
theorem dX8_isShare_17 : decode cX8_isShare 17 = .ok (.ireturn, 1) := by decide +kernel
theorem dX8_share_0 : decode cX8_share 0 = .ok (.iload_n 1, 1) := by decide +kernel
theorem dX8_share_1 : decode cX8_share 1 = .ok (.invokestatic 90, 3) := by decide +kernel
theorem dX8_share_4 : decode cX8_share 4 = .ok (.ifCond .ne 6, 3) := by decide +kernel
theorem dX8_share_7 : decode cX8_share 7 = .ok (.ldc 94, 2) := by decide +kernel
theorem dX8_share_9 : decode cX8_share 9 = .ok (.ireturn, 1) := by decide +kernel
theorem dX8_share_10 : decode cX8_share 10 = .ok (.aload_n 0, 1) := by decide +kernel
theorem dX8_share_11 : decode cX8_share 11 = .ok (.getfield 87, 3) := by decide +kernel
theorem dX8_share_14 : decode cX8_share 14 = .ok (.bipush 10, 2) := by decide +kernel
theorem dX8_share_16 : decode cX8_share 16 = .ok (.if_icmp .ne 6, 3) := by decide +kernel
theorem dX8_share_19 : decode cX8_share 19 = .ok (.ldc 95, 2) := by decide +kernel
theorem dX8_share_21 : decode cX8_share 21 = .ok (.ireturn, 1) := by decide +kernel
theorem dX8_share_22 : decode cX8_share 22 = .ok (.aload_n 0, 1) := by decide +kernel
theorem dX8_share_23 : decode cX8_share 23 = .ok (.getfield 16, 3) := by decide +kernel
theorem dX8_share_26 : decode cX8_share 26 = .ok (.aload_n 0, 1) := by decide +kernel
theorem dX8_share_27 : decode cX8_share 27 = .ok (.getfield 87, 3) := by decide +kernel
theorem dX8_share_30 : decode cX8_share 30 = .ok (.iload_n 1, 1) := by decide +kernel
theorem dX8_share_31 : decode cX8_share 31 = .ok (.iastore, 1) := by decide +kernel
theorem dX8_share_32 : decode cX8_share 32 = .ok (.aload_n 0, 1) := by decide +kernel
theorem dX8_share_33 : decode cX8_share 33 = .ok (.dup, 1) := by decide +kernel
theorem dX8_share_34 : decode cX8_share 34 = .ok (.getfield 87, 3) := by decide +kernel
theorem dX8_share_37 : decode cX8_share 37 = .ok (.iconst 1, 1) := by decide +kernel
theorem dX8_share_38 : decode cX8_share 38 = .ok (.iadd, 1) := by decide +kernel
theorem dX8_share_39 : decode cX8_share 39 = .ok (.putfield 87, 3) := by decide +kernel
theorem dX8_share_42 : decode cX8_share 42 = .ok (.aload_n 0, 1) := by decide +kernel
theorem dX8_share_43 : decode cX8_share 43 = .ok (.getfield 87, 3) := by decide +kernel
theorem dX8_share_46 : decode cX8_share 46 = .ok (.iconst 1, 1) := by decide +kernel
theorem dX8_share_47 : decode cX8_share 47 = .ok (.isub, 1) := by decide +kernel
theorem dX8_share_48 : decode cX8_share 48 = .ok (.ireturn, 1) := by decide +kernel
theorem dX8_act_0 : decode cX8_act 0 = .ok (.aload_n 0, 1) := by decide +kernel
theorem dX8_act_1 : decode cX8_act 1 = .ok (.iload_n 1, 1) := by decide +kernel
theorem dX8_act_2 : decode cX8_act 2 = .ok (.invokevirtual 96, 3) := by decide +kernel
theorem dX8_act_5 : decode cX8_act 5 = .ok (.ifCond .ne 6, 3) := by decide +kernel
theorem dX8_act_8 : decode cX8_act 8 = .ok (.ldc 94, 2) := by decide +kernel
theorem dX8_act_10 : decode cX8_act 10 = .ok (.ireturn, 1) := by decide +kernel
theorem dX8_act_11 : decode cX8_act 11 = .ok (.iload_n 2, 1) := by decide +kernel
theorem dX8_act_12 : decode cX8_act 12 = .ok (.ifCond .lt 28, 3) := by decide +kernel
theorem dX8_act_15 : decode cX8_act 15 = .ok (.iload_n 2, 1) := by decide +kernel
theorem dX8_act_16 : decode cX8_act 16 = .ok (.bipush 9, 2) := by decide +kernel
theorem dX8_act_18 : decode cX8_act 18 = .ok (.if_icmp .gt 22, 3) := by decide +kernel
theorem dX8_act_21 : decode cX8_act 21 = .ok (.iload_n 2, 1) := by decide +kernel
theorem dX8_act_22 : decode cX8_act 22 = .ok (.ifCond .ne 21, 3) := by decide +kernel
theorem dX8_act_25 : decode cX8_act 25 = .ok (.iload_n 3, 1) := by decide +kernel
theorem dX8_act_26 : decode cX8_act 26 = .ok (.invokestatic 99, 3) := by decide +kernel
theorem dX8_act_29 : decode cX8_act 29 = .ok (.ifCond .eq 11, 3) := by decide +kernel
theorem dX8_act_32 : decode cX8_act 32 = .ok (.iload 4, 2) := by decide +kernel
theorem dX8_act_34 : decode cX8_act 34 = .ok (.invokestatic 99, 3) := by decide +kernel
theorem dX8_act_37 : decode cX8_act 37 = .ok (.ifCond .ne 6, 3) := by decide +kernel
theorem dX8_act_40 : decode cX8_act 40 = .ok (.ldc 102, 2) := by decide +kernel
theorem dX8_act_42 : decode cX8_act 42 = .ok (.ireturn, 1) := by decide +kernel
theorem dX8_act_43 : decode cX8_act 43 = .ok (.aload_n 0, 1) := by decide +kernel
theorem dX8_act_44 : decode cX8_act 44 = .ok (.getfield 19, 3) := by decide +kernel
theorem dX8_act_47 : decode cX8_act 47 = .ok (.iload_n 1, 1) := by decide +kernel
theorem dX8_act_48 : decode cX8_act 48 = .ok (.iaload, 1) := by decide +kernel
theorem dX8_act_49 : decode cX8_act 49 = .ok (.bipush 8, 2) := by decide +kernel
theorem dX8_act_51 : decode cX8_act 51 = .ok (.if_icmp .ne 6, 3) := by decide +kernel
theorem dX8_act_54 : decode cX8_act 54 = .ok (.ldc 95, 2) := by decide +kernel
theorem dX8_act_56 : decode cX8_act 56 = .ok (.ireturn, 1) := by decide +kernel
theorem dX8_act_57 : decode cX8_act 57 = .ok (.aload_n 0, 1) := by decide +kernel
theorem dX8_act_58 : decode cX8_act 58 = .ok (.getfield 22, 3) := by decide +kernel
theorem dX8_act_61 : decode cX8_act 61 = .ok (.bipush 8, 2) := by decide +kernel
theorem dX8_act_63 : decode cX8_act 63 = .ok (.iload_n 1, 1) := by decide +kernel
theorem dX8_act_64 : decode cX8_act 64 = .ok (.imul, 1) := by decide +kernel
theorem dX8_act_65 : decode cX8_act 65 = .ok (.aload_n 0, 1) := by decide +kernel
theorem dX8_act_66 : decode cX8_act 66 = .ok (.getfield 19, 3) := by decide +kernel
theorem dX8_act_69 : decode cX8_act 69 = .ok (.iload_n 1, 1) := by decide +kernel
theorem dX8_act_70 : decode cX8_act 70 = .ok (.iaload, 1) := by decide +kernel
theorem dX8_act_71 : decode cX8_act 71 = .ok (.iadd, 1) := by decide +kernel
theorem dX8_act_72 : decode cX8_act 72 = .ok (.iload_n 2, 1) := by decide +kernel
theorem dX8_act_73 : decode cX8_act 73 = .ok (.iastore, 1) := by decide +kernel
theorem dX8_act_74 : decode cX8_act 74 = .ok (.aload_n 0, 1) := by decide +kernel
theorem dX8_act_75 : decode cX8_act 75 = .ok (.getfield 25, 3) := by decide +kernel
theorem dX8_act_78 : decode cX8_act 78 = .ok (.bipush 8, 2) := by decide +kernel
theorem dX8_act_80 : decode cX8_act 80 = .ok (.iload_n 1, 1) := by decide +kernel
theorem dX8_act_81 : decode cX8_act 81 = .ok (.imul, 1) := by decide +kernel
theorem dX8_act_82 : decode cX8_act 82 = .ok (.aload_n 0, 1) := by decide +kernel
theorem dX8_act_83 : decode cX8_act 83 = .ok (.getfield 19, 3) := by decide +kernel
theorem dX8_act_86 : decode cX8_act 86 = .ok (.iload_n 1, 1) := by decide +kernel
theorem dX8_act_87 : decode cX8_act 87 = .ok (.iaload, 1) := by decide +kernel
theorem dX8_act_88 : decode cX8_act 88 = .ok (.iadd, 1) := by decide +kernel
theorem dX8_act_89 : decode cX8_act 89 = .ok (.iload_n 3, 1) := by decide +kernel
theorem dX8_act_90 : decode cX8_act 90 = .ok (.iastore, 1) := by decide +kernel
theorem dX8_act_91 : decode cX8_act 91 = .ok (.aload_n 0, 1) := by decide +kernel
theorem dX8_act_92 : decode cX8_act 92 = .ok (.getfield 28, 3) := by decide +kernel
theorem dX8_act_95 : decode cX8_act 95 = .ok (.bipush 8, 2) := by decide +kernel
theorem dX8_act_97 : decode cX8_act 97 = .ok (.iload_n 1, 1) := by decide +kernel
theorem dX8_act_98 : decode cX8_act 98 = .ok (.imul, 1) := by decide +kernel
theorem dX8_act_99 : decode cX8_act 99 = .ok (.aload_n 0, 1) := by decide +kernel
theorem dX8_act_100 : decode cX8_act 100 = .ok (.getfield 19, 3) := by decide +kernel
theorem dX8_act_103 : decode cX8_act 103 = .ok (.iload_n 1, 1) := by decide +kernel
theorem dX8_act_104 : decode cX8_act 104 = .ok (.iaload, 1) := by decide +kernel
theorem dX8_act_105 : decode cX8_act 105 = .ok (.iadd, 1) := by decide +kernel
theorem dX8_act_106 : decode cX8_act 106 = .ok (.iload 4, 2) := by decide +kernel
theorem dX8_act_108 : decode cX8_act 108 = .ok (.iastore, 1) := by decide +kernel
theorem dX8_act_109 : decode cX8_act 109 = .ok (.aload_n 0, 1) := by decide +kernel
theorem dX8_act_110 : decode cX8_act 110 = .ok (.getfield 19, 3) := by decide +kernel
theorem dX8_act_113 : decode cX8_act 113 = .ok (.iload_n 1, 1) := by decide +kernel
theorem dX8_act_114 : decode cX8_act 114 = .ok (.dup2, 1) := by decide +kernel
theorem dX8_act_115 : decode cX8_act 115 = .ok (.iaload, 1) := by decide +kernel
theorem dX8_act_116 : decode cX8_act 116 = .ok (.iconst 1, 1) := by decide +kernel
theorem dX8_act_117 : decode cX8_act 117 = .ok (.iadd, 1) := by decide +kernel
theorem dX8_act_118 : decode cX8_act 118 = .ok (.iastore, 1) := by decide +kernel
theorem dX8_act_119 : decode cX8_act 119 = .ok (.aload_n 0, 1) := by decide +kernel
theorem dX8_act_120 : decode cX8_act 120 = .ok (.getfield 19, 3) := by decide +kernel
theorem dX8_act_123 : decode cX8_act 123 = .ok (.iload_n 1, 1) := by decide +kernel
theorem dX8_act_124 : decode cX8_act 124 = .ok (.iaload, 1) := by decide +kernel
theorem dX8_act_125 : decode cX8_act 125 = .ok (.ireturn, 1) := by decide +kernel
theorem dX8_fact_0 : decode cX8_fact 0 = .ok (.iload_n 1, 1) := by decide +kernel
theorem dX8_fact_1 : decode cX8_fact 1 = .ok (.invokestatic 90, 3) := by decide +kernel
theorem dX8_fact_4 : decode cX8_fact 4 = .ok (.ifCond .ne 6, 3) := by decide +kernel
theorem dX8_fact_7 : decode cX8_fact 7 = .ok (.ldc 94, 2) := by decide +kernel
theorem dX8_fact_9 : decode cX8_fact 9 = .ok (.ireturn, 1) := by decide +kernel
theorem dX8_fact_10 : decode cX8_fact 10 = .ok (.iload_n 2, 1) := by decide +kernel
theorem dX8_fact_11 : decode cX8_fact 11 = .ok (.invokestatic 99, 3) := by decide +kernel
theorem dX8_fact_14 : decode cX8_fact 14 = .ok (.ifCond .eq 15, 3) := by decide +kernel
theorem dX8_fact_17 : decode cX8_fact 17 = .ok (.iload_n 3, 1) := by decide +kernel
theorem dX8_fact_18 : decode cX8_fact 18 = .ok (.invokestatic 99, 3) := by decide +kernel
theorem dX8_fact_21 : decode cX8_fact 21 = .ok (.ifCond .eq 8, 3) := by decide +kernel
theorem dX8_fact_24 : decode cX8_fact 24 = .ok (.iload_n 2, 1) := by decide +kernel
theorem dX8_fact_25 : decode cX8_fact 25 = .ok (.iload_n 3, 1) := by decide +kernel
theorem dX8_fact_26 : decode cX8_fact 26 = .ok (.if_icmp .le 6, 3) := by decide +kernel
theorem dX8_fact_29 : decode cX8_fact 29 = .ok (.ldc 102, 2) := by decide +kernel
theorem dX8_fact_31 : decode cX8_fact 31 = .ok (.ireturn, 1) := by decide +kernel
theorem dX8_fact_32 : decode cX8_fact 32 = .ok (.aload_n 0, 1) := by decide +kernel
theorem dX8_fact_33 : decode cX8_fact 33 = .ok (.getfield 7, 3) := by decide +kernel
theorem dX8_fact_36 : decode cX8_fact 36 = .ok (.iload_n 1, 1) := by decide +kernel
theorem dX8_fact_37 : decode cX8_fact 37 = .ok (.iload_n 2, 1) := by decide +kernel
theorem dX8_fact_38 : decode cX8_fact 38 = .ok (.iastore, 1) := by decide +kernel
theorem dX8_fact_39 : decode cX8_fact 39 = .ok (.aload_n 0, 1) := by decide +kernel
theorem dX8_fact_40 : decode cX8_fact 40 = .ok (.getfield 13, 3) := by decide +kernel
theorem dX8_fact_43 : decode cX8_fact 43 = .ok (.iload_n 1, 1) := by decide +kernel
theorem dX8_fact_44 : decode cX8_fact 44 = .ok (.iload_n 3, 1) := by decide +kernel
theorem dX8_fact_45 : decode cX8_fact 45 = .ok (.iastore, 1) := by decide +kernel
theorem dX8_fact_46 : decode cX8_fact 46 = .ok (.iconst 1, 1) := by decide +kernel
theorem dX8_fact_47 : decode cX8_fact 47 = .ok (.ireturn, 1) := by decide +kernel
theorem dX8_end_0 : decode cX8_end 0 = .ok (.iload_n 1, 1) := by decide +kernel
theorem dX8_end_1 : decode cX8_end 1 = .ok (.invokestatic 90, 3) := by decide +kernel
theorem dX8_end_4 : decode cX8_end 4 = .ok (.ifCond .ne 6, 3) := by decide +kernel
theorem dX8_end_7 : decode cX8_end 7 = .ok (.ldc 94, 2) := by decide +kernel
theorem dX8_end_9 : decode cX8_end 9 = .ok (.ireturn, 1) := by decide +kernel
theorem dX8_end_10 : decode cX8_end 10 = .ok (.iload_n 2, 1) := by decide +kernel
theorem dX8_end_11 : decode cX8_end 11 = .ok (.ifCond .lt 8, 3) := by decide +kernel
theorem dX8_end_14 : decode cX8_end 14 = .ok (.iload_n 2, 1) := by decide +kernel
theorem dX8_end_15 : decode cX8_end 15 = .ok (.iconst 1, 1) := by decide +kernel
theorem dX8_end_16 : decode cX8_end 16 = .ok (.if_icmp .le 6, 3) := by decide +kernel
theorem dX8_end_19 : decode cX8_end 19 = .ok (.ldc 102, 2) := by decide +kernel
theorem dX8_end_21 : decode cX8_end 21 = .ok (.ireturn, 1) := by decide +kernel
theorem dX8_end_22 : decode cX8_end 22 = .ok (.aload_n 0, 1) := by decide +kernel
theorem dX8_end_23 : decode cX8_end 23 = .ok (.getfield 7, 3) := by decide +kernel
theorem dX8_end_26 : decode cX8_end 26 = .ok (.iload_n 1, 1) := by decide +kernel
theorem dX8_end_27 : decode cX8_end 27 = .ok (.iaload, 1) := by decide +kernel
theorem dX8_end_28 : decode cX8_end 28 = .ok (.aload_n 0, 1) := by decide +kernel
theorem dX8_end_29 : decode cX8_end 29 = .ok (.getfield 13, 3) := by decide +kernel
theorem dX8_end_32 : decode cX8_end 32 = .ok (.iload_n 1, 1) := by decide +kernel
theorem dX8_end_33 : decode cX8_end 33 = .ok (.iaload, 1) := by decide +kernel
theorem dX8_end_34 : decode cX8_end 34 = .ok (.if_icmp .le 8, 3) := by decide +kernel
theorem dX8_end_37 : decode cX8_end 37 = .ok (.ldc 71, 2) := by decide +kernel
theorem dX8_end_39 : decode cX8_end 39 = .ok (.goto 22, 3) := by decide +kernel
theorem dX8_end_42 : decode cX8_end 42 = .ok (.iload_n 2, 1) := by decide +kernel
theorem dX8_end_43 : decode cX8_end 43 = .ok (.ifCond .ne 12, 3) := by decide +kernel
theorem dX8_end_46 : decode cX8_end 46 = .ok (.aload_n 0, 1) := by decide +kernel
theorem dX8_end_47 : decode cX8_end 47 = .ok (.getfield 7, 3) := by decide +kernel
theorem dX8_end_50 : decode cX8_end 50 = .ok (.iload_n 1, 1) := by decide +kernel
theorem dX8_end_51 : decode cX8_end 51 = .ok (.iaload, 1) := by decide +kernel
theorem dX8_end_52 : decode cX8_end 52 = .ok (.goto 9, 3) := by decide +kernel
theorem dX8_end_55 : decode cX8_end 55 = .ok (.aload_n 0, 1) := by decide +kernel
theorem dX8_end_56 : decode cX8_end 56 = .ok (.getfield 13, 3) := by decide +kernel
theorem dX8_end_59 : decode cX8_end 59 = .ok (.iload_n 1, 1) := by decide +kernel
theorem dX8_end_60 : decode cX8_end 60 = .ok (.iaload, 1) := by decide +kernel
theorem dX8_end_61 : decode cX8_end 61 = .ok (.ireturn, 1) := by decide +kernel
theorem dX8_workersLeft_0 : decode cX8_workersLeft 0 = .ok (.iconst 0, 1) := by decide +kernel
theorem dX8_workersLeft_1 : decode cX8_workersLeft 1 = .ok (.istore_n 1, 1) := by decide +kernel
theorem dX8_workersLeft_2 : decode cX8_workersLeft 2 = .ok (.iconst 0, 1) := by decide +kernel
theorem dX8_workersLeft_3 : decode cX8_workersLeft 3 = .ok (.istore_n 2, 1) := by decide +kernel
theorem dX8_workersLeft_4 : decode cX8_workersLeft 4 = .ok (.iload_n 2, 1) := by decide +kernel
theorem dX8_workersLeft_5 : decode cX8_workersLeft 5 = .ok (.iconst 4, 1) := by decide +kernel
theorem dX8_workersLeft_6 : decode cX8_workersLeft 6 = .ok (.if_icmp .ge 26, 3) := by decide +kernel
theorem dX8_workersLeft_9 : decode cX8_workersLeft 9 = .ok (.iload_n 1, 1) := by decide +kernel
theorem dX8_workersLeft_10 : decode cX8_workersLeft 10 = .ok (.aload_n 0, 1) := by decide +kernel
theorem dX8_workersLeft_11 : decode cX8_workersLeft 11 = .ok (.getfield 62, 3) := by decide +kernel
theorem dX8_workersLeft_14 : decode cX8_workersLeft 14 = .ok (.iload_n 2, 1) := by decide +kernel
theorem dX8_workersLeft_15 : decode cX8_workersLeft 15 = .ok (.baload, 1) := by decide +kernel
theorem dX8_workersLeft_16 : decode cX8_workersLeft 16 = .ok (.ifCond .eq 7, 3) := by decide +kernel
theorem dX8_workersLeft_19 : decode cX8_workersLeft 19 = .ok (.iconst 1, 1) := by decide +kernel
theorem dX8_workersLeft_20 : decode cX8_workersLeft 20 = .ok (.goto 4, 3) := by decide +kernel
theorem dX8_workersLeft_23 : decode cX8_workersLeft 23 = .ok (.iconst 0, 1) := by decide +kernel
theorem dX8_workersLeft_24 : decode cX8_workersLeft 24 = .ok (.iadd, 1) := by decide +kernel
theorem dX8_workersLeft_25 : decode cX8_workersLeft 25 = .ok (.istore_n 1, 1) := by decide +kernel
theorem dX8_workersLeft_26 : decode cX8_workersLeft 26 = .ok (.iinc 2 1, 3) := by decide +kernel
theorem dX8_workersLeft_29 : decode cX8_workersLeft 29 = .ok (.goto (-25), 3) := by decide +kernel
theorem dX8_workersLeft_32 : decode cX8_workersLeft 32 = .ok (.iload_n 1, 1) := by decide +kernel
theorem dX8_workersLeft_33 : decode cX8_workersLeft 33 = .ok (.ireturn, 1) := by decide +kernel
theorem dX8_workers_0 : decode cX8_workers 0 = .ok (.iload_n 1, 1) := by decide +kernel
theorem dX8_workers_1 : decode cX8_workers 1 = .ok (.iconst 1, 1) := by decide +kernel
theorem dX8_workers_2 : decode cX8_workers 2 = .ok (.if_icmp .lt 8, 3) := by decide +kernel
theorem dX8_workers_5 : decode cX8_workers 5 = .ok (.iload_n 1, 1) := by decide +kernel
theorem dX8_workers_6 : decode cX8_workers 6 = .ok (.iconst 4, 1) := by decide +kernel
theorem dX8_workers_7 : decode cX8_workers 7 = .ok (.if_icmp .le 6, 3) := by decide +kernel
theorem dX8_workers_10 : decode cX8_workers 10 = .ok (.ldc 102, 2) := by decide +kernel
theorem dX8_workers_12 : decode cX8_workers 12 = .ok (.ireturn, 1) := by decide +kernel
theorem dX8_workers_13 : decode cX8_workers 13 = .ok (.aload_n 0, 1) := by decide +kernel
theorem dX8_workers_14 : decode cX8_workers 14 = .ok (.invokevirtual 103, 3) := by decide +kernel
theorem dX8_workers_17 : decode cX8_workers 17 = .ok (.istore_n 2, 1) := by decide +kernel
theorem dX8_workers_18 : decode cX8_workers 18 = .ok (.iconst 0, 1) := by decide +kernel
theorem dX8_workers_19 : decode cX8_workers 19 = .ok (.istore_n 3, 1) := by decide +kernel
theorem dX8_workers_20 : decode cX8_workers 20 = .ok (.iload_n 3, 1) := by decide +kernel
theorem dX8_workers_21 : decode cX8_workers 21 = .ok (.iconst 4, 1) := by decide +kernel
theorem dX8_workers_22 : decode cX8_workers 22 = .ok (.if_icmp .ge 32, 3) := by decide +kernel
theorem dX8_workers_25 : decode cX8_workers 25 = .ok (.aload_n 0, 1) := by decide +kernel
theorem dX8_workers_26 : decode cX8_workers 26 = .ok (.getfield 62, 3) := by decide +kernel
theorem dX8_workers_29 : decode cX8_workers 29 = .ok (.iload_n 3, 1) := by decide +kernel
theorem dX8_workers_30 : decode cX8_workers 30 = .ok (.iload_n 3, 1) := by decide +kernel
theorem dX8_workers_31 : decode cX8_workers 31 = .ok (.iload_n 1, 1) := by decide +kernel
theorem dX8_workers_32 : decode cX8_workers 32 = .ok (.if_icmp .ge 7, 3) := by decide +kernel
theorem dX8_workers_35 : decode cX8_workers 35 = .ok (.iconst 1, 1) := by decide +kernel
theorem dX8_workers_36 : decode cX8_workers 36 = .ok (.goto 4, 3) := by decide +kernel
theorem dX8_workers_39 : decode cX8_workers 39 = .ok (.iconst 0, 1) := by decide +kernel
theorem dX8_workers_40 : decode cX8_workers 40 = .ok (.bastore, 1) := by decide +kernel
theorem dX8_workers_41 : decode cX8_workers 41 = .ok (.aload_n 0, 1) := by decide +kernel
theorem dX8_workers_42 : decode cX8_workers 42 = .ok (.getfield 65, 3) := by decide +kernel
theorem dX8_workers_45 : decode cX8_workers 45 = .ok (.iload_n 3, 1) := by decide +kernel
theorem dX8_workers_46 : decode cX8_workers 46 = .ok (.iconst 0, 1) := by decide +kernel
theorem dX8_workers_47 : decode cX8_workers 47 = .ok (.iastore, 1) := by decide +kernel
theorem dX8_workers_48 : decode cX8_workers 48 = .ok (.iinc 3 1, 3) := by decide +kernel
theorem dX8_workers_51 : decode cX8_workers 51 = .ok (.goto (-31), 3) := by decide +kernel
theorem dX8_workers_54 : decode cX8_workers 54 = .ok (.iload_n 2, 1) := by decide +kernel
theorem dX8_workers_55 : decode cX8_workers 55 = .ok (.ireturn, 1) := by decide +kernel
theorem dX8_lose_0 : decode cX8_lose 0 = .ok (.iload_n 1, 1) := by decide +kernel
theorem dX8_lose_1 : decode cX8_lose 1 = .ok (.ifCond .lt 17, 3) := by decide +kernel
theorem dX8_lose_4 : decode cX8_lose 4 = .ok (.iload_n 1, 1) := by decide +kernel
theorem dX8_lose_5 : decode cX8_lose 5 = .ok (.iconst 3, 1) := by decide +kernel
theorem dX8_lose_6 : decode cX8_lose 6 = .ok (.if_icmp .gt 12, 3) := by decide +kernel
theorem dX8_lose_9 : decode cX8_lose 9 = .ok (.aload_n 0, 1) := by decide +kernel
theorem dX8_lose_10 : decode cX8_lose 10 = .ok (.getfield 62, 3) := by decide +kernel
theorem dX8_lose_13 : decode cX8_lose 13 = .ok (.iload_n 1, 1) := by decide +kernel
theorem dX8_lose_14 : decode cX8_lose 14 = .ok (.baload, 1) := by decide +kernel
theorem dX8_lose_15 : decode cX8_lose 15 = .ok (.ifCond .ne 6, 3) := by decide +kernel
theorem dX8_lose_18 : decode cX8_lose 18 = .ok (.ldc 94, 2) := by decide +kernel
theorem dX8_lose_20 : decode cX8_lose 20 = .ok (.ireturn, 1) := by decide +kernel
theorem dX8_lose_21 : decode cX8_lose 21 = .ok (.iload_n 2, 1) := by decide +kernel
theorem dX8_lose_22 : decode cX8_lose 22 = .ok (.iconst 1, 1) := by decide +kernel
theorem dX8_lose_23 : decode cX8_lose 23 = .ok (.if_icmp .lt 9, 3) := by decide +kernel
theorem dX8_lose_26 : decode cX8_lose 26 = .ok (.iload_n 2, 1) := by decide +kernel
theorem dX8_lose_27 : decode cX8_lose 27 = .ok (.ldc 107, 2) := by decide +kernel
theorem dX8_lose_29 : decode cX8_lose 29 = .ok (.if_icmp .le 6, 3) := by decide +kernel
theorem dX8_lose_32 : decode cX8_lose 32 = .ok (.ldc 102, 2) := by decide +kernel
theorem dX8_lose_34 : decode cX8_lose 34 = .ok (.ireturn, 1) := by decide +kernel
theorem dX8_lose_35 : decode cX8_lose 35 = .ok (.aload_n 0, 1) := by decide +kernel
theorem dX8_lose_36 : decode cX8_lose 36 = .ok (.getfield 65, 3) := by decide +kernel
theorem dX8_lose_39 : decode cX8_lose 39 = .ok (.iload_n 1, 1) := by decide +kernel
theorem dX8_lose_40 : decode cX8_lose 40 = .ok (.iload_n 2, 1) := by decide +kernel
theorem dX8_lose_41 : decode cX8_lose 41 = .ok (.iastore, 1) := by decide +kernel
theorem dX8_lose_42 : decode cX8_lose 42 = .ok (.iconst 1, 1) := by decide +kernel
theorem dX8_lose_43 : decode cX8_lose 43 = .ok (.ireturn, 1) := by decide +kernel
theorem dX8_seed_0 : decode cX8_seed 0 = .ok (.aload_n 0, 1) := by decide +kernel
theorem dX8_seed_1 : decode cX8_seed 1 = .ok (.getfield 108, 3) := by decide +kernel
theorem dX8_seed_4 : decode cX8_seed 4 = .ok (.istore_n 2, 1) := by decide +kernel
theorem dX8_seed_5 : decode cX8_seed 5 = .ok (.aload_n 0, 1) := by decide +kernel
theorem dX8_seed_6 : decode cX8_seed 6 = .ok (.iload_n 1, 1) := by decide +kernel
theorem dX8_seed_7 : decode cX8_seed 7 = .ok (.putfield 108, 3) := by decide +kernel
theorem dX8_seed_10 : decode cX8_seed 10 = .ok (.iload_n 2, 1) := by decide +kernel
theorem dX8_seed_11 : decode cX8_seed 11 = .ok (.ireturn, 1) := by decide +kernel
theorem dX8_set_0 : decode cX8_set 0 = .ok (.iload_n 1, 1) := by decide +kernel
theorem dX8_set_1 : decode cX8_set 1 = .ok (.iconst 1, 1) := by decide +kernel
theorem dX8_set_2 : decode cX8_set 2 = .ok (.if_icmp .lt 20, 3) := by decide +kernel
theorem dX8_set_5 : decode cX8_set 5 = .ok (.iload_n 1, 1) := by decide +kernel
theorem dX8_set_6 : decode cX8_set 6 = .ok (.bipush 20, 2) := by decide +kernel
theorem dX8_set_8 : decode cX8_set 8 = .ok (.if_icmp .gt 14, 3) := by decide +kernel
theorem dX8_set_11 : decode cX8_set 11 = .ok (.iload_n 2, 1) := by decide +kernel
theorem dX8_set_12 : decode cX8_set 12 = .ok (.ifCond .lt 10, 3) := by decide +kernel
theorem dX8_set_15 : decode cX8_set 15 = .ok (.iload_n 2, 1) := by decide +kernel
theorem dX8_set_16 : decode cX8_set 16 = .ok (.sipush 10000, 3) := by decide +kernel
theorem dX8_set_19 : decode cX8_set 19 = .ok (.if_icmp .le 6, 3) := by decide +kernel
theorem dX8_set_22 : decode cX8_set 22 = .ok (.ldc 102, 2) := by decide +kernel
theorem dX8_set_24 : decode cX8_set 24 = .ok (.ireturn, 1) := by decide +kernel
theorem dX8_set_25 : decode cX8_set 25 = .ok (.aload_n 0, 1) := by decide +kernel
theorem dX8_set_26 : decode cX8_set 26 = .ok (.getfield 76, 3) := by decide +kernel
theorem dX8_set_29 : decode cX8_set 29 = .ok (.istore_n 3, 1) := by decide +kernel
theorem dX8_set_30 : decode cX8_set 30 = .ok (.aload_n 0, 1) := by decide +kernel
theorem dX8_set_31 : decode cX8_set 31 = .ok (.iload_n 1, 1) := by decide +kernel
theorem dX8_set_32 : decode cX8_set 32 = .ok (.putfield 76, 3) := by decide +kernel
theorem dX8_set_35 : decode cX8_set 35 = .ok (.aload_n 0, 1) := by decide +kernel
theorem dX8_set_36 : decode cX8_set 36 = .ok (.iload_n 2, 1) := by decide +kernel
theorem dX8_set_37 : decode cX8_set 37 = .ok (.putfield 79, 3) := by decide +kernel
theorem dX8_set_40 : decode cX8_set 40 = .ok (.iload_n 3, 1) := by decide +kernel
theorem dX8_set_41 : decode cX8_set 41 = .ok (.ireturn, 1) := by decide +kernel
theorem dX8_nearest_0 : decode cX8_nearest 0 = .ok (.lload_n 0, 1) := by decide +kernel
theorem dX8_nearest_1 : decode cX8_nearest 1 = .ok (.ldc2_w 111, 3) := by decide +kernel
theorem dX8_nearest_4 : decode cX8_nearest 4 = .ok (.lcmp, 1) := by decide +kernel
theorem dX8_nearest_5 : decode cX8_nearest 5 = .ok (.ifCond .ge 8, 3) := by decide +kernel
theorem dX8_nearest_8 : decode cX8_nearest 8 = .ok (.ldc 85, 2) := by decide +kernel
theorem dX8_nearest_10 : decode cX8_nearest 10 = .ok (.goto 18, 3) := by decide +kernel
theorem dX8_nearest_13 : decode cX8_nearest 13 = .ok (.lload_n 0, 1) := by decide +kernel
theorem dX8_nearest_14 : decode cX8_nearest 14 = .ok (.ldc2_w 113, 3) := by decide +kernel
theorem dX8_nearest_17 : decode cX8_nearest 17 = .ok (.lcmp, 1) := by decide +kernel
theorem dX8_nearest_18 : decode cX8_nearest 18 = .ok (.ifCond .le 8, 3) := by decide +kernel
theorem dX8_nearest_21 : decode cX8_nearest 21 = .ok (.ldc 86, 2) := by decide +kernel
theorem dX8_nearest_23 : decode cX8_nearest 23 = .ok (.goto 5, 3) := by decide +kernel
theorem dX8_nearest_26 : decode cX8_nearest 26 = .ok (.lload_n 0, 1) := by decide +kernel
theorem dX8_nearest_27 : decode cX8_nearest 27 = .ok (.l2i, 1) := by decide +kernel
theorem dX8_nearest_28 : decode cX8_nearest 28 = .ok (.ireturn, 1) := by decide +kernel
theorem dX8_begin_0 : decode cX8_begin 0 = .ok (.aload_n 0, 1) := by decide +kernel
theorem dX8_begin_1 : decode cX8_begin 1 = .ok (.getfield 31, 3) := by decide +kernel
theorem dX8_begin_4 : decode cX8_begin 4 = .ok (.iload_n 1, 1) := by decide +kernel
theorem dX8_begin_5 : decode cX8_begin 5 = .ok (.iconst 0, 1) := by decide +kernel
theorem dX8_begin_6 : decode cX8_begin 6 = .ok (.iastore, 1) := by decide +kernel
theorem dX8_begin_7 : decode cX8_begin 7 = .ok (.aload_n 0, 1) := by decide +kernel
theorem dX8_begin_8 : decode cX8_begin 8 = .ok (.getfield 34, 3) := by decide +kernel
theorem dX8_begin_11 : decode cX8_begin 11 = .ok (.iload_n 1, 1) := by decide +kernel
theorem dX8_begin_12 : decode cX8_begin 12 = .ok (.iconst 0, 1) := by decide +kernel
theorem dX8_begin_13 : decode cX8_begin 13 = .ok (.iastore, 1) := by decide +kernel
theorem dX8_begin_14 : decode cX8_begin 14 = .ok (.aload_n 0, 1) := by decide +kernel
theorem dX8_begin_15 : decode cX8_begin 15 = .ok (.getfield 49, 3) := by decide +kernel
theorem dX8_begin_18 : decode cX8_begin 18 = .ok (.iload_n 1, 1) := by decide +kernel
theorem dX8_begin_19 : decode cX8_begin 19 = .ok (.iconst 0, 1) := by decide +kernel
theorem dX8_begin_20 : decode cX8_begin 20 = .ok (.iastore, 1) := by decide +kernel
theorem dX8_begin_21 : decode cX8_begin 21 = .ok (.iconst 0, 1) := by decide +kernel
theorem dX8_begin_22 : decode cX8_begin 22 = .ok (.istore_n 2, 1) := by decide +kernel
theorem dX8_begin_23 : decode cX8_begin 23 = .ok (.iload_n 2, 1) := by decide +kernel
theorem dX8_begin_24 : decode cX8_begin 24 = .ok (.iconst 3, 1) := by decide +kernel
theorem dX8_begin_25 : decode cX8_begin 25 = .ok (.if_icmp .ge 31, 3) := by decide +kernel
theorem dX8_begin_28 : decode cX8_begin 28 = .ok (.aload_n 0, 1) := by decide +kernel
theorem dX8_begin_29 : decode cX8_begin 29 = .ok (.getfield 43, 3) := by decide +kernel
theorem dX8_begin_32 : decode cX8_begin 32 = .ok (.iconst 3, 1) := by decide +kernel
theorem dX8_begin_33 : decode cX8_begin 33 = .ok (.iload_n 1, 1) := by decide +kernel
theorem dX8_begin_34 : decode cX8_begin 34 = .ok (.imul, 1) := by decide +kernel
theorem dX8_begin_35 : decode cX8_begin 35 = .ok (.iload_n 2, 1) := by decide +kernel
theorem dX8_begin_36 : decode cX8_begin 36 = .ok (.iadd, 1) := by decide +kernel
theorem dX8_begin_37 : decode cX8_begin 37 = .ok (.iconst 1, 1) := by decide +kernel
theorem dX8_begin_38 : decode cX8_begin 38 = .ok (.iastore, 1) := by decide +kernel
theorem dX8_begin_39 : decode cX8_begin 39 = .ok (.aload_n 0, 1) := by decide +kernel
theorem dX8_begin_40 : decode cX8_begin 40 = .ok (.getfield 46, 3) := by decide +kernel
theorem dX8_begin_43 : decode cX8_begin 43 = .ok (.iconst 3, 1) := by decide +kernel
theorem dX8_begin_44 : decode cX8_begin 44 = .ok (.iload_n 1, 1) := by decide +kernel
theorem dX8_begin_45 : decode cX8_begin 45 = .ok (.imul, 1) := by decide +kernel
theorem dX8_begin_46 : decode cX8_begin 46 = .ok (.iload_n 2, 1) := by decide +kernel
theorem dX8_begin_47 : decode cX8_begin 47 = .ok (.iadd, 1) := by decide +kernel
theorem dX8_begin_48 : decode cX8_begin 48 = .ok (.iconst 0, 1) := by decide +kernel
theorem dX8_begin_49 : decode cX8_begin 49 = .ok (.iastore, 1) := by decide +kernel
theorem dX8_begin_50 : decode cX8_begin 50 = .ok (.iinc 2 1, 3) := by decide +kernel
theorem dX8_begin_53 : decode cX8_begin 53 = .ok (.goto (-30), 3) := by decide +kernel
theorem dX8_begin_56 : decode cX8_begin 56 = .ok (.return_, 1) := by decide +kernel
theorem dX8_push_0 : decode cX8_push 0 = .ok (.aload_n 0, 1) := by decide +kernel
theorem dX8_push_1 : decode cX8_push 1 = .ok (.getfield 34, 3) := by decide +kernel
theorem dX8_push_4 : decode cX8_push 4 = .ok (.iload_n 1, 1) := by decide +kernel
theorem dX8_push_5 : decode cX8_push 5 = .ok (.iaload, 1) := by decide +kernel
theorem dX8_push_6 : decode cX8_push 6 = .ok (.iconst 3, 1) := by decide +kernel
theorem dX8_push_7 : decode cX8_push 7 = .ok (.if_icmp .ne 5, 3) := by decide +kernel
theorem dX8_push_10 : decode cX8_push 10 = .ok (.iconst 2, 1) := by decide +kernel
theorem dX8_push_11 : decode cX8_push 11 = .ok (.ireturn, 1) := by decide +kernel
theorem dX8_push_12 : decode cX8_push 12 = .ok (.aload_n 0, 1) := by decide +kernel
theorem dX8_push_13 : decode cX8_push 13 = .ok (.getfield 37, 3) := by decide +kernel
theorem dX8_push_16 : decode cX8_push 16 = .ok (.iconst 3, 1) := by decide +kernel
theorem dX8_push_17 : decode cX8_push 17 = .ok (.iload_n 1, 1) := by decide +kernel
theorem dX8_push_18 : decode cX8_push 18 = .ok (.imul, 1) := by decide +kernel
theorem dX8_push_19 : decode cX8_push 19 = .ok (.aload_n 0, 1) := by decide +kernel
theorem dX8_push_20 : decode cX8_push 20 = .ok (.getfield 34, 3) := by decide +kernel
theorem dX8_push_23 : decode cX8_push 23 = .ok (.iload_n 1, 1) := by decide +kernel
theorem dX8_push_24 : decode cX8_push 24 = .ok (.iaload, 1) := by decide +kernel
theorem dX8_push_25 : decode cX8_push 25 = .ok (.iadd, 1) := by decide +kernel
theorem dX8_push_26 : decode cX8_push 26 = .ok (.iload_n 2, 1) := by decide +kernel
theorem dX8_push_27 : decode cX8_push 27 = .ok (.iastore, 1) := by decide +kernel
theorem dX8_push_28 : decode cX8_push 28 = .ok (.aload_n 0, 1) := by decide +kernel
theorem dX8_push_29 : decode cX8_push 29 = .ok (.getfield 40, 3) := by decide +kernel
theorem dX8_push_32 : decode cX8_push 32 = .ok (.iconst 3, 1) := by decide +kernel
theorem dX8_push_33 : decode cX8_push 33 = .ok (.iload_n 1, 1) := by decide +kernel
theorem dX8_push_34 : decode cX8_push 34 = .ok (.imul, 1) := by decide +kernel
theorem dX8_push_35 : decode cX8_push 35 = .ok (.aload_n 0, 1) := by decide +kernel
theorem dX8_push_36 : decode cX8_push 36 = .ok (.getfield 34, 3) := by decide +kernel
theorem dX8_push_39 : decode cX8_push 39 = .ok (.iload_n 1, 1) := by decide +kernel
theorem dX8_push_40 : decode cX8_push 40 = .ok (.iaload, 1) := by decide +kernel
theorem dX8_push_41 : decode cX8_push 41 = .ok (.iadd, 1) := by decide +kernel
theorem dX8_push_42 : decode cX8_push 42 = .ok (.iload_n 3, 1) := by decide +kernel
theorem dX8_push_43 : decode cX8_push 43 = .ok (.iastore, 1) := by decide +kernel
theorem dX8_push_44 : decode cX8_push 44 = .ok (.aload_n 0, 1) := by decide +kernel
theorem dX8_push_45 : decode cX8_push 45 = .ok (.getfield 34, 3) := by decide +kernel
theorem dX8_push_48 : decode cX8_push 48 = .ok (.iload_n 1, 1) := by decide +kernel
theorem dX8_push_49 : decode cX8_push 49 = .ok (.dup2, 1) := by decide +kernel
theorem dX8_push_50 : decode cX8_push 50 = .ok (.iaload, 1) := by decide +kernel
theorem dX8_push_51 : decode cX8_push 51 = .ok (.iconst 1, 1) := by decide +kernel
theorem dX8_push_52 : decode cX8_push 52 = .ok (.iadd, 1) := by decide +kernel
theorem dX8_push_53 : decode cX8_push 53 = .ok (.iastore, 1) := by decide +kernel
theorem dX8_push_54 : decode cX8_push 54 = .ok (.iconst 0, 1) := by decide +kernel
theorem dX8_push_55 : decode cX8_push 55 = .ok (.ireturn, 1) := by decide +kernel
theorem dX8_work_0 : decode cX8_work 0 = .ok (.aload_n 0, 1) := by decide +kernel
theorem dX8_work_1 : decode cX8_work 1 = .ok (.getfield 22, 3) := by decide +kernel
theorem dX8_work_4 : decode cX8_work 4 = .ok (.bipush 8, 2) := by decide +kernel
theorem dX8_work_6 : decode cX8_work 6 = .ok (.iload_n 1, 1) := by decide +kernel
theorem dX8_work_7 : decode cX8_work 7 = .ok (.imul, 1) := by decide +kernel
theorem dX8_work_8 : decode cX8_work 8 = .ok (.iload_n 2, 1) := by decide +kernel
theorem dX8_work_9 : decode cX8_work 9 = .ok (.iadd, 1) := by decide +kernel
theorem dX8_work_10 : decode cX8_work 10 = .ok (.iaload, 1) := by decide +kernel
theorem dX8_work_11 : decode cX8_work 11 = .ok (.istore_n 3, 1) := by decide +kernel
theorem dX8_work_12 : decode cX8_work 12 = .ok (.aload_n 0, 1) := by decide +kernel
theorem dX8_work_13 : decode cX8_work 13 = .ok (.getfield 25, 3) := by decide +kernel
theorem dX8_work_16 : decode cX8_work 16 = .ok (.bipush 8, 2) := by decide +kernel
theorem dX8_work_18 : decode cX8_work 18 = .ok (.iload_n 1, 1) := by decide +kernel
theorem dX8_work_19 : decode cX8_work 19 = .ok (.imul, 1) := by decide +kernel
theorem dX8_work_20 : decode cX8_work 20 = .ok (.iload_n 2, 1) := by decide +kernel
theorem dX8_work_21 : decode cX8_work 21 = .ok (.iadd, 1) := by decide +kernel
theorem dX8_work_22 : decode cX8_work 22 = .ok (.iaload, 1) := by decide +kernel
theorem dX8_work_23 : decode cX8_work 23 = .ok (.istore 4, 2) := by decide +kernel
theorem dX8_work_25 : decode cX8_work 25 = .ok (.iload_n 3, 1) := by decide +kernel
theorem dX8_work_26 : decode cX8_work 26 = .ok (.ifCond .ne 42, 3) := by decide +kernel
theorem dX8_work_29 : decode cX8_work 29 = .ok (.aload_n 0, 1) := by decide +kernel
theorem dX8_work_30 : decode cX8_work 30 = .ok (.getfield 28, 3) := by decide +kernel
theorem dX8_work_33 : decode cX8_work 33 = .ok (.bipush 8, 2) := by decide +kernel
theorem dX8_work_35 : decode cX8_work 35 = .ok (.iload_n 1, 1) := by decide +kernel
theorem dX8_work_36 : decode cX8_work 36 = .ok (.imul, 1) := by decide +kernel
theorem dX8_work_37 : decode cX8_work 37 = .ok (.iload_n 2, 1) := by decide +kernel
theorem dX8_work_38 : decode cX8_work 38 = .ok (.iadd, 1) := by decide +kernel
theorem dX8_work_39 : decode cX8_work 39 = .ok (.iaload, 1) := by decide +kernel
theorem dX8_work_40 : decode cX8_work 40 = .ok (.iload 4, 2) := by decide +kernel
theorem dX8_work_42 : decode cX8_work 42 = .ok (.if_icmp .ge 7, 3) := by decide +kernel
theorem dX8_work_45 : decode cX8_work 45 = .ok (.iconst 5, 1) := by decide +kernel
theorem dX8_work_46 : decode cX8_work 46 = .ok (.goto 21, 3) := by decide +kernel
theorem dX8_work_49 : decode cX8_work 49 = .ok (.aload_n 0, 1) := by decide +kernel
theorem dX8_work_50 : decode cX8_work 50 = .ok (.iload_n 1, 1) := by decide +kernel
theorem dX8_work_51 : decode cX8_work 51 = .ok (.iload 4, 2) := by decide +kernel
theorem dX8_work_53 : decode cX8_work 53 = .ok (.aload_n 0, 1) := by decide +kernel
theorem dX8_work_54 : decode cX8_work 54 = .ok (.getfield 28, 3) := by decide +kernel
theorem dX8_work_57 : decode cX8_work 57 = .ok (.bipush 8, 2) := by decide +kernel
theorem dX8_work_59 : decode cX8_work 59 = .ok (.iload_n 1, 1) := by decide +kernel
theorem dX8_work_60 : decode cX8_work 60 = .ok (.imul, 1) := by decide +kernel
theorem dX8_work_61 : decode cX8_work 61 = .ok (.iload_n 2, 1) := by decide +kernel
theorem dX8_work_62 : decode cX8_work 62 = .ok (.iadd, 1) := by decide +kernel
theorem dX8_work_63 : decode cX8_work 63 = .ok (.iaload, 1) := by decide +kernel
theorem dX8_work_64 : decode cX8_work 64 = .ok (.invokevirtual 115, 3) := by decide +kernel
theorem dX8_work_67 : decode cX8_work 67 = .ok (.ireturn, 1) := by decide +kernel
theorem dX8_work_68 : decode cX8_work 68 = .ok (.iload_n 3, 1) := by decide +kernel
theorem dX8_work_69 : decode cX8_work 69 = .ok (.iconst 1, 1) := by decide +kernel
theorem dX8_work_70 : decode cX8_work 70 = .ok (.if_icmp .ne 56, 3) := by decide +kernel
theorem dX8_work_73 : decode cX8_work 73 = .ok (.iload 4, 2) := by decide +kernel
theorem dX8_work_75 : decode cX8_work 75 = .ok (.invokestatic 90, 3) := by decide +kernel
theorem dX8_work_78 : decode cX8_work 78 = .ok (.ifCond .ne 7, 3) := by decide +kernel
theorem dX8_work_81 : decode cX8_work 81 = .ok (.iconst 2, 1) := by decide +kernel
theorem dX8_work_82 : decode cX8_work 82 = .ok (.goto 43, 3) := by decide +kernel
theorem dX8_work_85 : decode cX8_work 85 = .ok (.aload_n 0, 1) := by decide +kernel
theorem dX8_work_86 : decode cX8_work 86 = .ok (.getfield 7, 3) := by decide +kernel
theorem dX8_work_89 : decode cX8_work 89 = .ok (.iload 4, 2) := by decide +kernel
theorem dX8_work_91 : decode cX8_work 91 = .ok (.iaload, 1) := by decide +kernel
theorem dX8_work_92 : decode cX8_work 92 = .ok (.aload_n 0, 1) := by decide +kernel
theorem dX8_work_93 : decode cX8_work 93 = .ok (.getfield 13, 3) := by decide +kernel
theorem dX8_work_96 : decode cX8_work 96 = .ok (.iload 4, 2) := by decide +kernel
theorem dX8_work_98 : decode cX8_work 98 = .ok (.iaload, 1) := by decide +kernel
theorem dX8_work_99 : decode cX8_work 99 = .ok (.if_icmp .le 7, 3) := by decide +kernel
theorem dX8_work_102 : decode cX8_work 102 = .ok (.iconst 1, 1) := by decide +kernel
theorem dX8_work_103 : decode cX8_work 103 = .ok (.goto 22, 3) := by decide +kernel
theorem dX8_work_106 : decode cX8_work 106 = .ok (.aload_n 0, 1) := by decide +kernel
theorem dX8_work_107 : decode cX8_work 107 = .ok (.iload_n 1, 1) := by decide +kernel
theorem dX8_work_108 : decode cX8_work 108 = .ok (.aload_n 0, 1) := by decide +kernel
theorem dX8_work_109 : decode cX8_work 109 = .ok (.getfield 7, 3) := by decide +kernel
theorem dX8_work_112 : decode cX8_work 112 = .ok (.iload 4, 2) := by decide +kernel
theorem dX8_work_114 : decode cX8_work 114 = .ok (.iaload, 1) := by decide +kernel
theorem dX8_work_115 : decode cX8_work 115 = .ok (.aload_n 0, 1) := by decide +kernel
theorem dX8_work_116 : decode cX8_work 116 = .ok (.getfield 13, 3) := by decide +kernel
theorem dX8_work_119 : decode cX8_work 119 = .ok (.iload 4, 2) := by decide +kernel
theorem dX8_work_121 : decode cX8_work 121 = .ok (.iaload, 1) := by decide +kernel
theorem dX8_work_122 : decode cX8_work 122 = .ok (.invokevirtual 115, 3) := by decide +kernel
theorem dX8_work_125 : decode cX8_work 125 = .ok (.ireturn, 1) := by decide +kernel
theorem dX8_work_126 : decode cX8_work 126 = .ok (.iload_n 3, 1) := by decide +kernel
theorem dX8_work_127 : decode cX8_work 127 = .ok (.bipush 9, 2) := by decide +kernel
theorem dX8_work_129 : decode cX8_work 129 = .ok (.if_icmp .ne 73, 3) := by decide +kernel
theorem dX8_work_132 : decode cX8_work 132 = .ok (.iload 4, 2) := by decide +kernel
theorem dX8_work_134 : decode cX8_work 134 = .ok (.ifCond .lt 9, 3) := by decide +kernel
theorem dX8_work_137 : decode cX8_work 137 = .ok (.iload 4, 2) := by decide +kernel
theorem dX8_work_139 : decode cX8_work 139 = .ok (.iconst 2, 1) := by decide +kernel
theorem dX8_work_140 : decode cX8_work 140 = .ok (.if_icmp .le 5, 3) := by decide +kernel
theorem dX8_work_143 : decode cX8_work 143 = .ok (.iconst 2, 1) := by decide +kernel
theorem dX8_work_144 : decode cX8_work 144 = .ok (.ireturn, 1) := by decide +kernel
theorem dX8_work_145 : decode cX8_work 145 = .ok (.aload_n 0, 1) := by decide +kernel
theorem dX8_work_146 : decode cX8_work 146 = .ok (.getfield 43, 3) := by decide +kernel
theorem dX8_work_149 : decode cX8_work 149 = .ok (.iconst 3, 1) := by decide +kernel
theorem dX8_work_150 : decode cX8_work 150 = .ok (.iload_n 1, 1) := by decide +kernel
theorem dX8_work_151 : decode cX8_work 151 = .ok (.imul, 1) := by decide +kernel
theorem dX8_work_152 : decode cX8_work 152 = .ok (.iload 4, 2) := by decide +kernel
theorem dX8_work_154 : decode cX8_work 154 = .ok (.iadd, 1) := by decide +kernel
theorem dX8_work_155 : decode cX8_work 155 = .ok (.iaload, 1) := by decide +kernel
theorem dX8_work_156 : decode cX8_work 156 = .ok (.aload_n 0, 1) := by decide +kernel
theorem dX8_work_157 : decode cX8_work 157 = .ok (.getfield 46, 3) := by decide +kernel
theorem dX8_work_160 : decode cX8_work 160 = .ok (.iconst 3, 1) := by decide +kernel
theorem dX8_work_161 : decode cX8_work 161 = .ok (.iload_n 1, 1) := by decide +kernel
theorem dX8_work_162 : decode cX8_work 162 = .ok (.imul, 1) := by decide +kernel
theorem dX8_work_163 : decode cX8_work 163 = .ok (.iload 4, 2) := by decide +kernel
theorem dX8_work_165 : decode cX8_work 165 = .ok (.iadd, 1) := by decide +kernel
theorem dX8_work_166 : decode cX8_work 166 = .ok (.iaload, 1) := by decide +kernel
theorem dX8_work_167 : decode cX8_work 167 = .ok (.if_icmp .le 7, 3) := by decide +kernel
theorem dX8_work_170 : decode cX8_work 170 = .ok (.iconst 1, 1) := by decide +kernel
theorem dX8_work_171 : decode cX8_work 171 = .ok (.goto 30, 3) := by decide +kernel
theorem dX8_work_174 : decode cX8_work 174 = .ok (.aload_n 0, 1) := by decide +kernel
theorem dX8_work_175 : decode cX8_work 175 = .ok (.iload_n 1, 1) := by decide +kernel
theorem dX8_work_176 : decode cX8_work 176 = .ok (.aload_n 0, 1) := by decide +kernel
theorem dX8_work_177 : decode cX8_work 177 = .ok (.getfield 43, 3) := by decide +kernel
theorem dX8_work_180 : decode cX8_work 180 = .ok (.iconst 3, 1) := by decide +kernel
theorem dX8_work_181 : decode cX8_work 181 = .ok (.iload_n 1, 1) := by decide +kernel
theorem dX8_work_182 : decode cX8_work 182 = .ok (.imul, 1) := by decide +kernel
theorem dX8_work_183 : decode cX8_work 183 = .ok (.iload 4, 2) := by decide +kernel
theorem dX8_work_185 : decode cX8_work 185 = .ok (.iadd, 1) := by decide +kernel
theorem dX8_work_186 : decode cX8_work 186 = .ok (.iaload, 1) := by decide +kernel
theorem dX8_work_187 : decode cX8_work 187 = .ok (.aload_n 0, 1) := by decide +kernel
theorem dX8_work_188 : decode cX8_work 188 = .ok (.getfield 46, 3) := by decide +kernel
theorem dX8_work_191 : decode cX8_work 191 = .ok (.iconst 3, 1) := by decide +kernel
theorem dX8_work_192 : decode cX8_work 192 = .ok (.iload_n 1, 1) := by decide +kernel
theorem dX8_work_193 : decode cX8_work 193 = .ok (.imul, 1) := by decide +kernel
theorem dX8_work_194 : decode cX8_work 194 = .ok (.iload 4, 2) := by decide +kernel
theorem dX8_work_196 : decode cX8_work 196 = .ok (.iadd, 1) := by decide +kernel
theorem dX8_work_197 : decode cX8_work 197 = .ok (.iaload, 1) := by decide +kernel
theorem dX8_work_198 : decode cX8_work 198 = .ok (.invokevirtual 115, 3) := by decide +kernel
theorem dX8_work_201 : decode cX8_work 201 = .ok (.ireturn, 1) := by decide +kernel
theorem dX8_work_202 : decode cX8_work 202 = .ok (.aload_n 0, 1) := by decide +kernel
theorem dX8_work_203 : decode cX8_work 203 = .ok (.getfield 34, 3) := by decide +kernel
theorem dX8_work_206 : decode cX8_work 206 = .ok (.iload_n 1, 1) := by decide +kernel
theorem dX8_work_207 : decode cX8_work 207 = .ok (.iaload, 1) := by decide +kernel
theorem dX8_work_208 : decode cX8_work 208 = .ok (.ifCond .ne 5, 3) := by decide +kernel
theorem dX8_work_211 : decode cX8_work 211 = .ok (.iconst 2, 1) := by decide +kernel
theorem dX8_work_212 : decode cX8_work 212 = .ok (.ireturn, 1) := by decide +kernel
theorem dX8_work_213 : decode cX8_work 213 = .ok (.iconst 3, 1) := by decide +kernel
theorem dX8_work_214 : decode cX8_work 214 = .ok (.iload_n 1, 1) := by decide +kernel
theorem dX8_work_215 : decode cX8_work 215 = .ok (.imul, 1) := by decide +kernel
theorem dX8_work_216 : decode cX8_work 216 = .ok (.aload_n 0, 1) := by decide +kernel
theorem dX8_work_217 : decode cX8_work 217 = .ok (.getfield 34, 3) := by decide +kernel
theorem dX8_work_220 : decode cX8_work 220 = .ok (.iload_n 1, 1) := by decide +kernel
theorem dX8_work_221 : decode cX8_work 221 = .ok (.iaload, 1) := by decide +kernel
theorem dX8_work_222 : decode cX8_work 222 = .ok (.iadd, 1) := by decide +kernel
theorem dX8_work_223 : decode cX8_work 223 = .ok (.iconst 1, 1) := by decide +kernel
theorem dX8_work_224 : decode cX8_work 224 = .ok (.isub, 1) := by decide +kernel
theorem dX8_work_225 : decode cX8_work 225 = .ok (.istore 5, 2) := by decide +kernel
theorem dX8_work_227 : decode cX8_work 227 = .ok (.aload_n 0, 1) := by decide +kernel
theorem dX8_work_228 : decode cX8_work 228 = .ok (.getfield 37, 3) := by decide +kernel
theorem dX8_work_231 : decode cX8_work 231 = .ok (.iload 5, 2) := by decide +kernel
theorem dX8_work_233 : decode cX8_work 233 = .ok (.iaload, 1) := by decide +kernel
theorem dX8_work_234 : decode cX8_work 234 = .ok (.istore 6, 2) := by decide +kernel
theorem dX8_work_236 : decode cX8_work 236 = .ok (.aload_n 0, 1) := by decide +kernel
theorem dX8_work_237 : decode cX8_work 237 = .ok (.getfield 40, 3) := by decide +kernel
theorem dX8_work_240 : decode cX8_work 240 = .ok (.iload 5, 2) := by decide +kernel
theorem dX8_work_242 : decode cX8_work 242 = .ok (.iaload, 1) := by decide +kernel
theorem dX8_work_243 : decode cX8_work 243 = .ok (.istore 7, 2) := by decide +kernel
theorem dX8_work_245 : decode cX8_work 245 = .ok (.iload_n 3, 1) := by decide +kernel
theorem dX8_work_246 : decode cX8_work 246 = .ok (.bipush 7, 2) := by decide +kernel
theorem dX8_work_248 : decode cX8_work 248 = .ok (.if_icmp .ne 16, 3) := by decide +kernel
theorem dX8_work_251 : decode cX8_work 251 = .ok (.iload 6, 2) := by decide +kernel
theorem dX8_work_253 : decode cX8_work 253 = .ok (.iload 7, 2) := by decide +kernel
theorem dX8_work_255 : decode cX8_work 255 = .ok (.if_icmp .ne 7, 3) := by decide +kernel
theorem dX8_work_258 : decode cX8_work 258 = .ok (.iconst 0, 1) := by decide +kernel
theorem dX8_work_259 : decode cX8_work 259 = .ok (.goto 4, 3) := by decide +kernel
theorem dX8_work_262 : decode cX8_work 262 = .ok (.iconst 4, 1) := by decide +kernel
theorem dX8_work_263 : decode cX8_work 263 = .ok (.ireturn, 1) := by decide +kernel
theorem dX8_work_264 : decode cX8_work 264 = .ok (.aload_n 0, 1) := by decide +kernel
theorem dX8_work_265 : decode cX8_work 265 = .ok (.getfield 34, 3) := by decide +kernel
theorem dX8_work_268 : decode cX8_work 268 = .ok (.iload_n 1, 1) := by decide +kernel
theorem dX8_work_269 : decode cX8_work 269 = .ok (.dup2, 1) := by decide +kernel
theorem dX8_work_270 : decode cX8_work 270 = .ok (.iaload, 1) := by decide +kernel
theorem dX8_work_271 : decode cX8_work 271 = .ok (.iconst 1, 1) := by decide +kernel
theorem dX8_work_272 : decode cX8_work 272 = .ok (.isub, 1) := by decide +kernel
theorem dX8_work_273 : decode cX8_work 273 = .ok (.iastore, 1) := by decide +kernel
theorem dX8_work_274 : decode cX8_work 274 = .ok (.iload_n 3, 1) := by decide +kernel
theorem dX8_work_275 : decode cX8_work 275 = .ok (.bipush 6, 2) := by decide +kernel
theorem dX8_work_277 : decode cX8_work 277 = .ok (.if_icmp .ne 24, 3) := by decide +kernel
theorem dX8_work_280 : decode cX8_work 280 = .ok (.iload 4, 2) := by decide +kernel
theorem dX8_work_282 : decode cX8_work 282 = .ok (.ifCond .ne 7, 3) := by decide +kernel
theorem dX8_work_285 : decode cX8_work 285 = .ok (.iconst 3, 1) := by decide +kernel
theorem dX8_work_286 : decode cX8_work 286 = .ok (.goto 14, 3) := by decide +kernel
theorem dX8_work_289 : decode cX8_work 289 = .ok (.aload_n 0, 1) := by decide +kernel
theorem dX8_work_290 : decode cX8_work 290 = .ok (.iload_n 1, 1) := by decide +kernel
theorem dX8_work_291 : decode cX8_work 291 = .ok (.iload 6, 2) := by decide +kernel
theorem dX8_work_293 : decode cX8_work 293 = .ok (.iload 7, 2) := by decide +kernel
theorem dX8_work_295 : decode cX8_work 295 = .ok (.iload 4, 2) := by decide +kernel
theorem dX8_work_297 : decode cX8_work 297 = .ok (.invokevirtual 119, 3) := by decide +kernel
theorem dX8_work_300 : decode cX8_work 300 = .ok (.ireturn, 1) := by decide +kernel
theorem dX8_work_301 : decode cX8_work 301 = .ok (.iload_n 3, 1) := by decide +kernel
theorem dX8_work_302 : decode cX8_work 302 = .ok (.bipush 8, 2) := by decide +kernel
theorem dX8_work_304 : decode cX8_work 304 = .ok (.if_icmp .ne 44, 3) := by decide +kernel
theorem dX8_work_307 : decode cX8_work 307 = .ok (.iload 4, 2) := by decide +kernel
theorem dX8_work_309 : decode cX8_work 309 = .ok (.ifCond .lt 9, 3) := by decide +kernel
theorem dX8_work_312 : decode cX8_work 312 = .ok (.iload 4, 2) := by decide +kernel
theorem dX8_work_314 : decode cX8_work 314 = .ok (.iconst 2, 1) := by decide +kernel
theorem dX8_work_315 : decode cX8_work 315 = .ok (.if_icmp .le 5, 3) := by decide +kernel
theorem dX8_work_318 : decode cX8_work 318 = .ok (.iconst 2, 1) := by decide +kernel
theorem dX8_work_319 : decode cX8_work 319 = .ok (.ireturn, 1) := by decide +kernel
theorem dX8_work_320 : decode cX8_work 320 = .ok (.aload_n 0, 1) := by decide +kernel
theorem dX8_work_321 : decode cX8_work 321 = .ok (.getfield 43, 3) := by decide +kernel
theorem dX8_work_324 : decode cX8_work 324 = .ok (.iconst 3, 1) := by decide +kernel
theorem dX8_work_325 : decode cX8_work 325 = .ok (.iload_n 1, 1) := by decide +kernel
theorem dX8_work_326 : decode cX8_work 326 = .ok (.imul, 1) := by decide +kernel
theorem dX8_work_327 : decode cX8_work 327 = .ok (.iload 4, 2) := by decide +kernel
theorem dX8_work_329 : decode cX8_work 329 = .ok (.iadd, 1) := by decide +kernel
theorem dX8_work_330 : decode cX8_work 330 = .ok (.iload 6, 2) := by decide +kernel
theorem dX8_work_332 : decode cX8_work 332 = .ok (.iastore, 1) := by decide +kernel
theorem dX8_work_333 : decode cX8_work 333 = .ok (.aload_n 0, 1) := by decide +kernel
theorem dX8_work_334 : decode cX8_work 334 = .ok (.getfield 46, 3) := by decide +kernel
theorem dX8_work_337 : decode cX8_work 337 = .ok (.iconst 3, 1) := by decide +kernel
theorem dX8_work_338 : decode cX8_work 338 = .ok (.iload_n 1, 1) := by decide +kernel
theorem dX8_work_339 : decode cX8_work 339 = .ok (.imul, 1) := by decide +kernel
theorem dX8_work_340 : decode cX8_work 340 = .ok (.iload 4, 2) := by decide +kernel
theorem dX8_work_342 : decode cX8_work 342 = .ok (.iadd, 1) := by decide +kernel
theorem dX8_work_343 : decode cX8_work 343 = .ok (.iload 7, 2) := by decide +kernel
theorem dX8_work_345 : decode cX8_work 345 = .ok (.iastore, 1) := by decide +kernel
theorem dX8_work_346 : decode cX8_work 346 = .ok (.iconst 0, 1) := by decide +kernel
theorem dX8_work_347 : decode cX8_work 347 = .ok (.ireturn, 1) := by decide +kernel
theorem dX8_work_348 : decode cX8_work 348 = .ok (.aload_n 0, 1) := by decide +kernel
theorem dX8_work_349 : decode cX8_work 349 = .ok (.getfield 34, 3) := by decide +kernel
theorem dX8_work_352 : decode cX8_work 352 = .ok (.iload_n 1, 1) := by decide +kernel
theorem dX8_work_353 : decode cX8_work 353 = .ok (.iaload, 1) := by decide +kernel
theorem dX8_work_354 : decode cX8_work 354 = .ok (.ifCond .ne 7, 3) := by decide +kernel
theorem dX8_work_357 : decode cX8_work 357 = .ok (.iconst 2, 1) := by decide +kernel
theorem dX8_work_358 : decode cX8_work 358 = .ok (.goto 13, 3) := by decide +kernel
theorem dX8_work_361 : decode cX8_work 361 = .ok (.aload_n 0, 1) := by decide +kernel
theorem dX8_work_362 : decode cX8_work 362 = .ok (.iload_n 1, 1) := by decide +kernel
theorem dX8_work_363 : decode cX8_work 363 = .ok (.iload_n 3, 1) := by decide +kernel
theorem dX8_work_364 : decode cX8_work 364 = .ok (.iload 6, 2) := by decide +kernel
theorem dX8_work_366 : decode cX8_work 366 = .ok (.iload 7, 2) := by decide +kernel
theorem dX8_work_368 : decode cX8_work 368 = .ok (.invokevirtual 123, 3) := by decide +kernel
theorem dX8_work_371 : decode cX8_work 371 = .ok (.ireturn, 1) := by decide +kernel
theorem dX8_by_0 : decode cX8_by 0 = .ok (.iload_n 2, 1) := by decide +kernel
theorem dX8_by_1 : decode cX8_by 1 = .ok (.i2l, 1) := by decide +kernel
theorem dX8_by_2 : decode cX8_by 2 = .ok (.iload 4, 2) := by decide +kernel
theorem dX8_by_4 : decode cX8_by 4 = .ok (.i2l, 1) := by decide +kernel
theorem dX8_by_5 : decode cX8_by 5 = .ok (.ldiv, 1) := by decide +kernel
theorem dX8_by_6 : decode cX8_by 6 = .ok (.invokestatic 126, 3) := by decide +kernel
theorem dX8_by_9 : decode cX8_by 9 = .ok (.istore 5, 2) := by decide +kernel
theorem dX8_by_11 : decode cX8_by 11 = .ok (.iload_n 3, 1) := by decide +kernel
theorem dX8_by_12 : decode cX8_by 12 = .ok (.i2l, 1) := by decide +kernel
theorem dX8_by_13 : decode cX8_by 13 = .ok (.iload 4, 2) := by decide +kernel
theorem dX8_by_15 : decode cX8_by 15 = .ok (.i2l, 1) := by decide +kernel
theorem dX8_by_16 : decode cX8_by 16 = .ok (.ldiv, 1) := by decide +kernel
theorem dX8_by_17 : decode cX8_by 17 = .ok (.invokestatic 126, 3) := by decide +kernel
theorem dX8_by_20 : decode cX8_by 20 = .ok (.istore 6, 2) := by decide +kernel
theorem dX8_by_22 : decode cX8_by 22 = .ok (.iload 5, 2) := by decide +kernel
theorem dX8_by_24 : decode cX8_by 24 = .ok (.iload 6, 2) := by decide +kernel
theorem dX8_by_26 : decode cX8_by 26 = .ok (.if_icmp .ge 15, 3) := by decide +kernel
theorem dX8_by_29 : decode cX8_by 29 = .ok (.aload_n 0, 1) := by decide +kernel
theorem dX8_by_30 : decode cX8_by 30 = .ok (.iload_n 1, 1) := by decide +kernel
theorem dX8_by_31 : decode cX8_by 31 = .ok (.iload 5, 2) := by decide +kernel
theorem dX8_by_33 : decode cX8_by 33 = .ok (.iload 6, 2) := by decide +kernel
theorem dX8_by_35 : decode cX8_by 35 = .ok (.invokevirtual 115, 3) := by decide +kernel
theorem dX8_by_38 : decode cX8_by 38 = .ok (.goto 12, 3) := by decide +kernel
theorem dX8_by_41 : decode cX8_by 41 = .ok (.aload_n 0, 1) := by decide +kernel
theorem dX8_by_42 : decode cX8_by 42 = .ok (.iload_n 1, 1) := by decide +kernel
theorem dX8_by_43 : decode cX8_by 43 = .ok (.iload 6, 2) := by decide +kernel
theorem dX8_by_45 : decode cX8_by 45 = .ok (.iload 5, 2) := by decide +kernel
theorem dX8_by_47 : decode cX8_by 47 = .ok (.invokevirtual 115, 3) := by decide +kernel
theorem dX8_by_50 : decode cX8_by 50 = .ok (.ireturn, 1) := by decide +kernel
theorem dX8_both_0 : decode cX8_both 0 = .ok (.aload_n 0, 1) := by decide +kernel
theorem dX8_both_1 : decode cX8_both 1 = .ok (.getfield 34, 3) := by decide +kernel
theorem dX8_both_4 : decode cX8_both 4 = .ok (.iload_n 1, 1) := by decide +kernel
theorem dX8_both_5 : decode cX8_both 5 = .ok (.dup2, 1) := by decide +kernel
theorem dX8_both_6 : decode cX8_both 6 = .ok (.iaload, 1) := by decide +kernel
theorem dX8_both_7 : decode cX8_both 7 = .ok (.iconst 1, 1) := by decide +kernel
theorem dX8_both_8 : decode cX8_both 8 = .ok (.isub, 1) := by decide +kernel
theorem dX8_both_9 : decode cX8_both 9 = .ok (.iastore, 1) := by decide +kernel
theorem dX8_both_10 : decode cX8_both 10 = .ok (.aload_n 0, 1) := by decide +kernel
theorem dX8_both_11 : decode cX8_both 11 = .ok (.getfield 37, 3) := by decide +kernel
theorem dX8_both_14 : decode cX8_both 14 = .ok (.iconst 3, 1) := by decide +kernel
theorem dX8_both_15 : decode cX8_both 15 = .ok (.iload_n 1, 1) := by decide +kernel
theorem dX8_both_16 : decode cX8_both 16 = .ok (.imul, 1) := by decide +kernel
theorem dX8_both_17 : decode cX8_both 17 = .ok (.aload_n 0, 1) := by decide +kernel
theorem dX8_both_18 : decode cX8_both 18 = .ok (.getfield 34, 3) := by decide +kernel
theorem dX8_both_21 : decode cX8_both 21 = .ok (.iload_n 1, 1) := by decide +kernel
theorem dX8_both_22 : decode cX8_both 22 = .ok (.iaload, 1) := by decide +kernel
theorem dX8_both_23 : decode cX8_both 23 = .ok (.iadd, 1) := by decide +kernel
theorem dX8_both_24 : decode cX8_both 24 = .ok (.iaload, 1) := by decide +kernel
theorem dX8_both_25 : decode cX8_both 25 = .ok (.istore 5, 2) := by decide +kernel
theorem dX8_both_27 : decode cX8_both 27 = .ok (.aload_n 0, 1) := by decide +kernel
theorem dX8_both_28 : decode cX8_both 28 = .ok (.getfield 40, 3) := by decide +kernel
theorem dX8_both_31 : decode cX8_both 31 = .ok (.iconst 3, 1) := by decide +kernel
theorem dX8_both_32 : decode cX8_both 32 = .ok (.iload_n 1, 1) := by decide +kernel
theorem dX8_both_33 : decode cX8_both 33 = .ok (.imul, 1) := by decide +kernel
theorem dX8_both_34 : decode cX8_both 34 = .ok (.aload_n 0, 1) := by decide +kernel
theorem dX8_both_35 : decode cX8_both 35 = .ok (.getfield 34, 3) := by decide +kernel
theorem dX8_both_38 : decode cX8_both 38 = .ok (.iload_n 1, 1) := by decide +kernel
theorem dX8_both_39 : decode cX8_both 39 = .ok (.iaload, 1) := by decide +kernel
theorem dX8_both_40 : decode cX8_both 40 = .ok (.iadd, 1) := by decide +kernel
theorem dX8_both_41 : decode cX8_both 41 = .ok (.iaload, 1) := by decide +kernel
theorem dX8_both_42 : decode cX8_both 42 = .ok (.istore 6, 2) := by decide +kernel
theorem dX8_both_44 : decode cX8_both 44 = .ok (.iload_n 2, 1) := by decide +kernel
theorem dX8_both_45 : decode cX8_both 45 = .ok (.tableswitch 128 2 4 #[27, 52, 77], 27) := by decide +kernel
theorem dX8_both_72 : decode cX8_both 72 = .ok (.aload_n 0, 1) := by decide +kernel
theorem dX8_both_73 : decode cX8_both 73 = .ok (.iload_n 1, 1) := by decide +kernel
theorem dX8_both_74 : decode cX8_both 74 = .ok (.iload 5, 2) := by decide +kernel
theorem dX8_both_76 : decode cX8_both 76 = .ok (.i2l, 1) := by decide +kernel
theorem dX8_both_77 : decode cX8_both 77 = .ok (.iload_n 3, 1) := by decide +kernel
theorem dX8_both_78 : decode cX8_both 78 = .ok (.i2l, 1) := by decide +kernel
theorem dX8_both_79 : decode cX8_both 79 = .ok (.ladd, 1) := by decide +kernel
theorem dX8_both_80 : decode cX8_both 80 = .ok (.invokestatic 126, 3) := by decide +kernel
theorem dX8_both_83 : decode cX8_both 83 = .ok (.iload 6, 2) := by decide +kernel
theorem dX8_both_85 : decode cX8_both 85 = .ok (.i2l, 1) := by decide +kernel
theorem dX8_both_86 : decode cX8_both 86 = .ok (.iload 4, 2) := by decide +kernel
theorem dX8_both_88 : decode cX8_both 88 = .ok (.i2l, 1) := by decide +kernel
theorem dX8_both_89 : decode cX8_both 89 = .ok (.ladd, 1) := by decide +kernel
theorem dX8_both_90 : decode cX8_both 90 = .ok (.invokestatic 126, 3) := by decide +kernel
theorem dX8_both_93 : decode cX8_both 93 = .ok (.invokevirtual 115, 3) := by decide +kernel
theorem dX8_both_96 : decode cX8_both 96 = .ok (.ireturn, 1) := by decide +kernel
theorem dX8_both_97 : decode cX8_both 97 = .ok (.aload_n 0, 1) := by decide +kernel
theorem dX8_both_98 : decode cX8_both 98 = .ok (.iload_n 1, 1) := by decide +kernel
theorem dX8_both_99 : decode cX8_both 99 = .ok (.iload 5, 2) := by decide +kernel
theorem dX8_both_101 : decode cX8_both 101 = .ok (.i2l, 1) := by decide +kernel
theorem dX8_both_102 : decode cX8_both 102 = .ok (.iload 4, 2) := by decide +kernel
theorem dX8_both_104 : decode cX8_both 104 = .ok (.i2l, 1) := by decide +kernel
theorem dX8_both_105 : decode cX8_both 105 = .ok (.lsub, 1) := by decide +kernel
theorem dX8_both_106 : decode cX8_both 106 = .ok (.invokestatic 126, 3) := by decide +kernel
theorem dX8_both_109 : decode cX8_both 109 = .ok (.iload 6, 2) := by decide +kernel
theorem dX8_both_111 : decode cX8_both 111 = .ok (.i2l, 1) := by decide +kernel
theorem dX8_both_112 : decode cX8_both 112 = .ok (.iload_n 3, 1) := by decide +kernel
theorem dX8_both_113 : decode cX8_both 113 = .ok (.i2l, 1) := by decide +kernel
theorem dX8_both_114 : decode cX8_both 114 = .ok (.lsub, 1) := by decide +kernel
theorem dX8_both_115 : decode cX8_both 115 = .ok (.invokestatic 126, 3) := by decide +kernel
theorem dX8_both_118 : decode cX8_both 118 = .ok (.invokevirtual 115, 3) := by decide +kernel
theorem dX8_both_121 : decode cX8_both 121 = .ok (.ireturn, 1) := by decide +kernel
theorem dX8_both_122 : decode cX8_both 122 = .ok (.iload 5, 2) := by decide +kernel
theorem dX8_both_124 : decode cX8_both 124 = .ok (.iload_n 3, 1) := by decide +kernel
theorem dX8_both_125 : decode cX8_both 125 = .ok (.if_icmp .le 8, 3) := by decide +kernel
theorem dX8_both_128 : decode cX8_both 128 = .ok (.iload 5, 2) := by decide +kernel
theorem dX8_both_130 : decode cX8_both 130 = .ok (.goto 4, 3) := by decide +kernel
theorem dX8_both_133 : decode cX8_both 133 = .ok (.iload_n 3, 1) := by decide +kernel
theorem dX8_both_134 : decode cX8_both 134 = .ok (.istore 7, 2) := by decide +kernel
theorem dX8_both_136 : decode cX8_both 136 = .ok (.iload 6, 2) := by decide +kernel
theorem dX8_both_138 : decode cX8_both 138 = .ok (.iload 4, 2) := by decide +kernel
theorem dX8_both_140 : decode cX8_both 140 = .ok (.if_icmp .ge 8, 3) := by decide +kernel
theorem dX8_both_143 : decode cX8_both 143 = .ok (.iload 6, 2) := by decide +kernel
theorem dX8_both_145 : decode cX8_both 145 = .ok (.goto 5, 3) := by decide +kernel
theorem dX8_both_148 : decode cX8_both 148 = .ok (.iload 4, 2) := by decide +kernel
theorem dX8_both_150 : decode cX8_both 150 = .ok (.istore 8, 2) := by decide +kernel
theorem dX8_both_152 : decode cX8_both 152 = .ok (.iload 7, 2) := by decide +kernel
theorem dX8_both_154 : decode cX8_both 154 = .ok (.iload 8, 2) := by decide +kernel
theorem dX8_both_156 : decode cX8_both 156 = .ok (.if_icmp .le 7, 3) := by decide +kernel
theorem dX8_both_159 : decode cX8_both 159 = .ok (.iconst 5, 1) := by decide +kernel
theorem dX8_both_160 : decode cX8_both 160 = .ok (.goto 12, 3) := by decide +kernel
theorem dX8_both_163 : decode cX8_both 163 = .ok (.aload_n 0, 1) := by decide +kernel
theorem dX8_both_164 : decode cX8_both 164 = .ok (.iload_n 1, 1) := by decide +kernel
theorem dX8_both_165 : decode cX8_both 165 = .ok (.iload 7, 2) := by decide +kernel
theorem dX8_both_167 : decode cX8_both 167 = .ok (.iload 8, 2) := by decide +kernel
theorem dX8_both_169 : decode cX8_both 169 = .ok (.invokevirtual 115, 3) := by decide +kernel
theorem dX8_both_172 : decode cX8_both 172 = .ok (.ireturn, 1) := by decide +kernel
theorem dX8_both_173 : decode cX8_both 173 = .ok (.aload_n 0, 1) := by decide +kernel
theorem dX8_both_174 : decode cX8_both 174 = .ok (.iload_n 1, 1) := by decide +kernel
theorem dX8_both_175 : decode cX8_both 175 = .ok (.iload 5, 2) := by decide +kernel
theorem dX8_both_177 : decode cX8_both 177 = .ok (.iload_n 3, 1) := by decide +kernel
theorem dX8_both_178 : decode cX8_both 178 = .ok (.if_icmp .ge 8, 3) := by decide +kernel
theorem dX8_both_181 : decode cX8_both 181 = .ok (.iload 5, 2) := by decide +kernel
theorem dX8_both_183 : decode cX8_both 183 = .ok (.goto 4, 3) := by decide +kernel
theorem dX8_both_186 : decode cX8_both 186 = .ok (.iload_n 3, 1) := by decide +kernel
theorem dX8_both_187 : decode cX8_both 187 = .ok (.iload 6, 2) := by decide +kernel
theorem dX8_both_189 : decode cX8_both 189 = .ok (.iload 4, 2) := by decide +kernel
theorem dX8_both_191 : decode cX8_both 191 = .ok (.if_icmp .le 8, 3) := by decide +kernel
theorem dX8_both_194 : decode cX8_both 194 = .ok (.iload 6, 2) := by decide +kernel
theorem dX8_both_196 : decode cX8_both 196 = .ok (.goto 5, 3) := by decide +kernel
theorem dX8_both_199 : decode cX8_both 199 = .ok (.iload 4, 2) := by decide +kernel
theorem dX8_both_201 : decode cX8_both 201 = .ok (.invokevirtual 115, 3) := by decide +kernel
theorem dX8_both_204 : decode cX8_both 204 = .ok (.ireturn, 1) := by decide +kernel
theorem dX8_workerAt_0 : decode cX8_workerAt 0 = .ok (.iload_n 1, 1) := by decide +kernel
theorem dX8_workerAt_1 : decode cX8_workerAt 1 = .ok (.istore_n 2, 1) := by decide +kernel
theorem dX8_workerAt_2 : decode cX8_workerAt 2 = .ok (.iconst 0, 1) := by decide +kernel
theorem dX8_workerAt_3 : decode cX8_workerAt 3 = .ok (.istore_n 3, 1) := by decide +kernel
theorem dX8_workerAt_4 : decode cX8_workerAt 4 = .ok (.iload_n 3, 1) := by decide +kernel
theorem dX8_workerAt_5 : decode cX8_workerAt 5 = .ok (.iconst 4, 1) := by decide +kernel
theorem dX8_workerAt_6 : decode cX8_workerAt 6 = .ok (.if_icmp .ge 27, 3) := by decide +kernel
theorem dX8_workerAt_9 : decode cX8_workerAt 9 = .ok (.aload_n 0, 1) := by decide +kernel
theorem dX8_workerAt_10 : decode cX8_workerAt 10 = .ok (.getfield 62, 3) := by decide +kernel
theorem dX8_workerAt_13 : decode cX8_workerAt 13 = .ok (.iload_n 3, 1) := by decide +kernel
theorem dX8_workerAt_14 : decode cX8_workerAt 14 = .ok (.baload, 1) := by decide +kernel
theorem dX8_workerAt_15 : decode cX8_workerAt 15 = .ok (.ifCond .eq 12, 3) := by decide +kernel
theorem dX8_workerAt_18 : decode cX8_workerAt 18 = .ok (.iload_n 2, 1) := by decide +kernel
theorem dX8_workerAt_19 : decode cX8_workerAt 19 = .ok (.ifCond .ne 5, 3) := by decide +kernel
theorem dX8_workerAt_22 : decode cX8_workerAt 22 = .ok (.iload_n 3, 1) := by decide +kernel
theorem dX8_workerAt_23 : decode cX8_workerAt 23 = .ok (.ireturn, 1) := by decide +kernel
theorem dX8_workerAt_24 : decode cX8_workerAt 24 = .ok (.iinc 2 (-1), 3) := by decide +kernel
theorem dX8_workerAt_27 : decode cX8_workerAt 27 = .ok (.iinc 3 1, 3) := by decide +kernel
theorem dX8_workerAt_30 : decode cX8_workerAt 30 = .ok (.goto (-26), 3) := by decide +kernel
theorem dX8_workerAt_33 : decode cX8_workerAt 33 = .ok (.ldc 71, 2) := by decide +kernel
theorem dX8_workerAt_35 : decode cX8_workerAt 35 = .ok (.ireturn, 1) := by decide +kernel
theorem dX8_done_0 : decode cX8_done 0 = .ok (.aload_n 0, 1) := by decide +kernel
theorem dX8_done_1 : decode cX8_done 1 = .ok (.getfield 55, 3) := by decide +kernel
theorem dX8_done_4 : decode cX8_done 4 = .ok (.iload_n 2, 1) := by decide +kernel
theorem dX8_done_5 : decode cX8_done 5 = .ok (.iconst 1, 1) := by decide +kernel
theorem dX8_done_6 : decode cX8_done 6 = .ok (.bastore, 1) := by decide +kernel
theorem dX8_done_7 : decode cX8_done 7 = .ok (.aload_n 0, 1) := by decide +kernel
theorem dX8_done_8 : decode cX8_done 8 = .ok (.getfield 52, 3) := by decide +kernel
theorem dX8_done_11 : decode cX8_done 11 = .ok (.iload_n 2, 1) := by decide +kernel
theorem dX8_done_12 : decode cX8_done 12 = .ok (.iload_n 1, 1) := by decide +kernel
theorem dX8_done_13 : decode cX8_done 13 = .ok (.iastore, 1) := by decide +kernel
theorem dX8_done_14 : decode cX8_done 14 = .ok (.aload_n 0, 1) := by decide +kernel
theorem dX8_done_15 : decode cX8_done 15 = .ok (.getfield 68, 3) := by decide +kernel
theorem dX8_done_18 : decode cX8_done 18 = .ok (.iload_n 1, 1) := by decide +kernel
theorem dX8_done_19 : decode cX8_done 19 = .ok (.ldc 71, 2) := by decide +kernel
theorem dX8_done_21 : decode cX8_done 21 = .ok (.iastore, 1) := by decide +kernel
theorem dX8_done_22 : decode cX8_done 22 = .ok (.aload_n 0, 1) := by decide +kernel
theorem dX8_done_23 : decode cX8_done 23 = .ok (.dup, 1) := by decide +kernel
theorem dX8_done_24 : decode cX8_done 24 = .ok (.getfield 130, 3) := by decide +kernel
theorem dX8_done_27 : decode cX8_done 27 = .ok (.iconst 1, 1) := by decide +kernel
theorem dX8_done_28 : decode cX8_done 28 = .ok (.iadd, 1) := by decide +kernel
theorem dX8_done_29 : decode cX8_done 29 = .ok (.putfield 130, 3) := by decide +kernel
theorem dX8_done_32 : decode cX8_done 32 = .ok (.aload_n 0, 1) := by decide +kernel
theorem dX8_done_33 : decode cX8_done 33 = .ok (.getfield 49, 3) := by decide +kernel
theorem dX8_done_36 : decode cX8_done 36 = .ok (.iload_n 2, 1) := by decide +kernel
theorem dX8_done_37 : decode cX8_done 37 = .ok (.iaload, 1) := by decide +kernel
theorem dX8_done_38 : decode cX8_done 38 = .ok (.ifCond .ne 19, 3) := by decide +kernel
theorem dX8_done_41 : decode cX8_done 41 = .ok (.aload_n 0, 1) := by decide +kernel
theorem dX8_done_42 : decode cX8_done 42 = .ok (.getfield 34, 3) := by decide +kernel
theorem dX8_done_45 : decode cX8_done 45 = .ok (.iload_n 2, 1) := by decide +kernel
theorem dX8_done_46 : decode cX8_done 46 = .ok (.iaload, 1) := by decide +kernel
theorem dX8_done_47 : decode cX8_done 47 = .ok (.ifCond .ne 10, 3) := by decide +kernel
theorem dX8_done_50 : decode cX8_done 50 = .ok (.aload_n 0, 1) := by decide +kernel
theorem dX8_done_51 : decode cX8_done 51 = .ok (.getfield 49, 3) := by decide +kernel
theorem dX8_done_54 : decode cX8_done 54 = .ok (.iload_n 2, 1) := by decide +kernel
theorem dX8_done_55 : decode cX8_done 55 = .ok (.iconst 2, 1) := by decide +kernel
theorem dX8_done_56 : decode cX8_done 56 = .ok (.iastore, 1) := by decide +kernel
theorem dX8_done_57 : decode cX8_done 57 = .ok (.return_, 1) := by decide +kernel
theorem dX8_turn_0 : decode cX8_turn 0 = .ok (.aload_n 0, 1) := by decide +kernel
theorem dX8_turn_1 : decode cX8_turn 1 = .ok (.dup, 1) := by decide +kernel
theorem dX8_turn_2 : decode cX8_turn 2 = .ok (.getfield 133, 3) := by decide +kernel
theorem dX8_turn_5 : decode cX8_turn 5 = .ok (.iconst 1, 1) := by decide +kernel
theorem dX8_turn_6 : decode cX8_turn 6 = .ok (.iadd, 1) := by decide +kernel
theorem dX8_turn_7 : decode cX8_turn 7 = .ok (.putfield 133, 3) := by decide +kernel
theorem dX8_turn_10 : decode cX8_turn 10 = .ok (.aload_n 0, 1) := by decide +kernel
theorem dX8_turn_11 : decode cX8_turn 11 = .ok (.aload_n 0, 1) := by decide +kernel
theorem dX8_turn_12 : decode cX8_turn 12 = .ok (.getfield 108, 3) := by decide +kernel
theorem dX8_turn_15 : decode cX8_turn 15 = .ok (.ldc 136, 2) := by decide +kernel
theorem dX8_turn_17 : decode cX8_turn 17 = .ok (.imul, 1) := by decide +kernel
theorem dX8_turn_18 : decode cX8_turn 18 = .ok (.sipush 12345, 3) := by decide +kernel
theorem dX8_turn_21 : decode cX8_turn 21 = .ok (.iadd, 1) := by decide +kernel
theorem dX8_turn_22 : decode cX8_turn 22 = .ok (.putfield 108, 3) := by decide +kernel
theorem dX8_turn_25 : decode cX8_turn 25 = .ok (.aload_n 0, 1) := by decide +kernel
theorem dX8_turn_26 : decode cX8_turn 26 = .ok (.aload_n 0, 1) := by decide +kernel
theorem dX8_turn_27 : decode cX8_turn 27 = .ok (.getfield 108, 3) := by decide +kernel
theorem dX8_turn_30 : decode cX8_turn 30 = .ok (.bipush 16, 2) := by decide +kernel
theorem dX8_turn_32 : decode cX8_turn 32 = .ok (.iushr, 1) := by decide +kernel
theorem dX8_turn_33 : decode cX8_turn 33 = .ok (.aload_n 0, 1) := by decide +kernel
theorem dX8_turn_34 : decode cX8_turn 34 = .ok (.invokevirtual 103, 3) := by decide +kernel
theorem dX8_turn_37 : decode cX8_turn 37 = .ok (.irem, 1) := by decide +kernel
theorem dX8_turn_38 : decode cX8_turn 38 = .ok (.invokevirtual 137, 3) := by decide +kernel
theorem dX8_turn_41 : decode cX8_turn 41 = .ok (.istore_n 1, 1) := by decide +kernel
theorem dX8_turn_42 : decode cX8_turn 42 = .ok (.aload_n 0, 1) := by decide +kernel
theorem dX8_turn_43 : decode cX8_turn 43 = .ok (.iload_n 1, 1) := by decide +kernel
theorem dX8_turn_44 : decode cX8_turn 44 = .ok (.putfield 72, 3) := by decide +kernel
theorem dX8_turn_47 : decode cX8_turn 47 = .ok (.aload_n 0, 1) := by decide +kernel
theorem dX8_turn_48 : decode cX8_turn 48 = .ok (.getfield 65, 3) := by decide +kernel
theorem dX8_turn_51 : decode cX8_turn 51 = .ok (.iload_n 1, 1) := by decide +kernel
theorem dX8_turn_52 : decode cX8_turn 52 = .ok (.iaload, 1) := by decide +kernel
theorem dX8_turn_53 : decode cX8_turn 53 = .ok (.ifCond .le 78, 3) := by decide +kernel
theorem dX8_turn_56 : decode cX8_turn 56 = .ok (.aload_n 0, 1) := by decide +kernel
theorem dX8_turn_57 : decode cX8_turn 57 = .ok (.getfield 133, 3) := by decide +kernel
theorem dX8_turn_60 : decode cX8_turn 60 = .ok (.aload_n 0, 1) := by decide +kernel
theorem dX8_turn_61 : decode cX8_turn 61 = .ok (.getfield 65, 3) := by decide +kernel
theorem dX8_turn_64 : decode cX8_turn 64 = .ok (.iload_n 1, 1) := by decide +kernel
theorem dX8_turn_65 : decode cX8_turn 65 = .ok (.iaload, 1) := by decide +kernel
theorem dX8_turn_66 : decode cX8_turn 66 = .ok (.if_icmp .lt 65, 3) := by decide +kernel
theorem dX8_turn_69 : decode cX8_turn 69 = .ok (.aload_n 0, 1) := by decide +kernel
theorem dX8_turn_70 : decode cX8_turn 70 = .ok (.getfield 62, 3) := by decide +kernel
theorem dX8_turn_73 : decode cX8_turn 73 = .ok (.iload_n 1, 1) := by decide +kernel
theorem dX8_turn_74 : decode cX8_turn 74 = .ok (.iconst 0, 1) := by decide +kernel
theorem dX8_turn_75 : decode cX8_turn 75 = .ok (.bastore, 1) := by decide +kernel
theorem dX8_turn_76 : decode cX8_turn 76 = .ok (.aload_n 0, 1) := by decide +kernel
theorem dX8_turn_77 : decode cX8_turn 77 = .ok (.getfield 68, 3) := by decide +kernel
theorem dX8_turn_80 : decode cX8_turn 80 = .ok (.iload_n 1, 1) := by decide +kernel
theorem dX8_turn_81 : decode cX8_turn 81 = .ok (.iaload, 1) := by decide +kernel
theorem dX8_turn_82 : decode cX8_turn 82 = .ok (.ldc 71, 2) := by decide +kernel
theorem dX8_turn_84 : decode cX8_turn 84 = .ok (.if_icmp .eq 46, 3) := by decide +kernel
theorem dX8_turn_87 : decode cX8_turn 87 = .ok (.aload_n 0, 1) := by decide +kernel
theorem dX8_turn_88 : decode cX8_turn 88 = .ok (.dup, 1) := by decide +kernel
theorem dX8_turn_89 : decode cX8_turn 89 = .ok (.getfield 141, 3) := by decide +kernel
theorem dX8_turn_92 : decode cX8_turn 92 = .ok (.iconst 1, 1) := by decide +kernel
theorem dX8_turn_93 : decode cX8_turn 93 = .ok (.isub, 1) := by decide +kernel
theorem dX8_turn_94 : decode cX8_turn 94 = .ok (.putfield 141, 3) := by decide +kernel
theorem dX8_turn_97 : decode cX8_turn 97 = .ok (.aload_n 0, 1) := by decide +kernel
theorem dX8_turn_98 : decode cX8_turn 98 = .ok (.getfield 59, 3) := by decide +kernel
theorem dX8_turn_101 : decode cX8_turn 101 = .ok (.aload_n 0, 1) := by decide +kernel
theorem dX8_turn_102 : decode cX8_turn 102 = .ok (.getfield 141, 3) := by decide +kernel
theorem dX8_turn_105 : decode cX8_turn 105 = .ok (.aload_n 0, 1) := by decide +kernel
theorem dX8_turn_106 : decode cX8_turn 106 = .ok (.getfield 68, 3) := by decide +kernel
theorem dX8_turn_109 : decode cX8_turn 109 = .ok (.iload_n 1, 1) := by decide +kernel
theorem dX8_turn_110 : decode cX8_turn 110 = .ok (.iaload, 1) := by decide +kernel
theorem dX8_turn_111 : decode cX8_turn 111 = .ok (.iastore, 1) := by decide +kernel
theorem dX8_turn_112 : decode cX8_turn 112 = .ok (.aload_n 0, 1) := by decide +kernel
theorem dX8_turn_113 : decode cX8_turn 113 = .ok (.getfield 68, 3) := by decide +kernel
theorem dX8_turn_116 : decode cX8_turn 116 = .ok (.iload_n 1, 1) := by decide +kernel
theorem dX8_turn_117 : decode cX8_turn 117 = .ok (.ldc 71, 2) := by decide +kernel
theorem dX8_turn_119 : decode cX8_turn 119 = .ok (.iastore, 1) := by decide +kernel
theorem dX8_turn_120 : decode cX8_turn 120 = .ok (.aload_n 0, 1) := by decide +kernel
theorem dX8_turn_121 : decode cX8_turn 121 = .ok (.dup, 1) := by decide +kernel
theorem dX8_turn_122 : decode cX8_turn 122 = .ok (.getfield 130, 3) := by decide +kernel
theorem dX8_turn_125 : decode cX8_turn 125 = .ok (.iconst 1, 1) := by decide +kernel
theorem dX8_turn_126 : decode cX8_turn 126 = .ok (.iadd, 1) := by decide +kernel
theorem dX8_turn_127 : decode cX8_turn 127 = .ok (.putfield 130, 3) := by decide +kernel
theorem dX8_turn_130 : decode cX8_turn 130 = .ok (.return_, 1) := by decide +kernel
theorem dX8_turn_131 : decode cX8_turn 131 = .ok (.aload_n 0, 1) := by decide +kernel
theorem dX8_turn_132 : decode cX8_turn 132 = .ok (.getfield 68, 3) := by decide +kernel
theorem dX8_turn_135 : decode cX8_turn 135 = .ok (.iload_n 1, 1) := by decide +kernel
theorem dX8_turn_136 : decode cX8_turn 136 = .ok (.iaload, 1) := by decide +kernel
theorem dX8_turn_137 : decode cX8_turn 137 = .ok (.ldc 71, 2) := by decide +kernel
theorem dX8_turn_139 : decode cX8_turn 139 = .ok (.if_icmp .ne 72, 3) := by decide +kernel
theorem dX8_turn_142 : decode cX8_turn 142 = .ok (.aload_n 0, 1) := by decide +kernel
theorem dX8_turn_143 : decode cX8_turn 143 = .ok (.getfield 141, 3) := by decide +kernel
theorem dX8_turn_146 : decode cX8_turn 146 = .ok (.aload_n 0, 1) := by decide +kernel
theorem dX8_turn_147 : decode cX8_turn 147 = .ok (.getfield 144, 3) := by decide +kernel
theorem dX8_turn_150 : decode cX8_turn 150 = .ok (.if_icmp .ge 60, 3) := by decide +kernel
theorem dX8_turn_153 : decode cX8_turn 153 = .ok (.aload_n 0, 1) := by decide +kernel
theorem dX8_turn_154 : decode cX8_turn 154 = .ok (.getfield 59, 3) := by decide +kernel
theorem dX8_turn_157 : decode cX8_turn 157 = .ok (.aload_n 0, 1) := by decide +kernel
theorem dX8_turn_158 : decode cX8_turn 158 = .ok (.getfield 141, 3) := by decide +kernel
theorem dX8_turn_161 : decode cX8_turn 161 = .ok (.iaload, 1) := by decide +kernel
theorem dX8_turn_162 : decode cX8_turn 162 = .ok (.istore_n 2, 1) := by decide +kernel
theorem dX8_turn_163 : decode cX8_turn 163 = .ok (.aload_n 0, 1) := by decide +kernel
theorem dX8_turn_164 : decode cX8_turn 164 = .ok (.dup, 1) := by decide +kernel
theorem dX8_turn_165 : decode cX8_turn 165 = .ok (.getfield 141, 3) := by decide +kernel
theorem dX8_turn_168 : decode cX8_turn 168 = .ok (.iconst 1, 1) := by decide +kernel
theorem dX8_turn_169 : decode cX8_turn 169 = .ok (.iadd, 1) := by decide +kernel
theorem dX8_turn_170 : decode cX8_turn 170 = .ok (.putfield 141, 3) := by decide +kernel
theorem dX8_turn_173 : decode cX8_turn 173 = .ok (.aload_n 0, 1) := by decide +kernel
theorem dX8_turn_174 : decode cX8_turn 174 = .ok (.getfield 68, 3) := by decide +kernel
theorem dX8_turn_177 : decode cX8_turn 177 = .ok (.iload_n 1, 1) := by decide +kernel
theorem dX8_turn_178 : decode cX8_turn 178 = .ok (.iload_n 2, 1) := by decide +kernel
theorem dX8_turn_179 : decode cX8_turn 179 = .ok (.iastore, 1) := by decide +kernel
theorem dX8_turn_180 : decode cX8_turn 180 = .ok (.aload_n 0, 1) := by decide +kernel
theorem dX8_turn_181 : decode cX8_turn 181 = .ok (.dup, 1) := by decide +kernel
theorem dX8_turn_182 : decode cX8_turn 182 = .ok (.getfield 147, 3) := by decide +kernel
theorem dX8_turn_185 : decode cX8_turn 185 = .ok (.iconst 1, 1) := by decide +kernel
theorem dX8_turn_186 : decode cX8_turn 186 = .ok (.iadd, 1) := by decide +kernel
theorem dX8_turn_187 : decode cX8_turn 187 = .ok (.putfield 147, 3) := by decide +kernel
theorem dX8_turn_190 : decode cX8_turn 190 = .ok (.aload_n 0, 1) := by decide +kernel
theorem dX8_turn_191 : decode cX8_turn 191 = .ok (.iload_n 2, 1) := by decide +kernel
theorem dX8_turn_192 : decode cX8_turn 192 = .ok (.invokevirtual 150, 3) := by decide +kernel
theorem dX8_turn_195 : decode cX8_turn 195 = .ok (.aload_n 0, 1) := by decide +kernel
theorem dX8_turn_196 : decode cX8_turn 196 = .ok (.getfield 19, 3) := by decide +kernel
theorem dX8_turn_199 : decode cX8_turn 199 = .ok (.iload_n 2, 1) := by decide +kernel
theorem dX8_turn_200 : decode cX8_turn 200 = .ok (.iaload, 1) := by decide +kernel
theorem dX8_turn_201 : decode cX8_turn 201 = .ok (.ifCond .ne 9, 3) := by decide +kernel
theorem dX8_turn_204 : decode cX8_turn 204 = .ok (.aload_n 0, 1) := by decide +kernel
theorem dX8_turn_205 : decode cX8_turn 205 = .ok (.iload_n 1, 1) := by decide +kernel
theorem dX8_turn_206 : decode cX8_turn 206 = .ok (.iload_n 2, 1) := by decide +kernel
theorem dX8_turn_207 : decode cX8_turn 207 = .ok (.invokevirtual 154, 3) := by decide +kernel
theorem dX8_turn_210 : decode cX8_turn 210 = .ok (.return_, 1) := by decide +kernel
theorem dX8_turn_211 : decode cX8_turn 211 = .ok (.aload_n 0, 1) := by decide +kernel
theorem dX8_turn_212 : decode cX8_turn 212 = .ok (.getfield 68, 3) := by decide +kernel
theorem dX8_turn_215 : decode cX8_turn 215 = .ok (.iload_n 1, 1) := by decide +kernel
theorem dX8_turn_216 : decode cX8_turn 216 = .ok (.iaload, 1) := by decide +kernel
theorem dX8_turn_217 : decode cX8_turn 217 = .ok (.istore_n 2, 1) := by decide +kernel
theorem dX8_turn_218 : decode cX8_turn 218 = .ok (.aload_n 0, 1) := by decide +kernel
theorem dX8_turn_219 : decode cX8_turn 219 = .ok (.getfield 49, 3) := by decide +kernel
theorem dX8_turn_222 : decode cX8_turn 222 = .ok (.iload_n 2, 1) := by decide +kernel
theorem dX8_turn_223 : decode cX8_turn 223 = .ok (.aload_n 0, 1) := by decide +kernel
theorem dX8_turn_224 : decode cX8_turn 224 = .ok (.iload_n 2, 1) := by decide +kernel
theorem dX8_turn_225 : decode cX8_turn 225 = .ok (.aload_n 0, 1) := by decide +kernel
theorem dX8_turn_226 : decode cX8_turn 226 = .ok (.getfield 31, 3) := by decide +kernel
theorem dX8_turn_229 : decode cX8_turn 229 = .ok (.iload_n 2, 1) := by decide +kernel
theorem dX8_turn_230 : decode cX8_turn 230 = .ok (.iaload, 1) := by decide +kernel
theorem dX8_turn_231 : decode cX8_turn 231 = .ok (.invokevirtual 158, 3) := by decide +kernel
theorem dX8_turn_234 : decode cX8_turn 234 = .ok (.iastore, 1) := by decide +kernel
theorem dX8_turn_235 : decode cX8_turn 235 = .ok (.aload_n 0, 1) := by decide +kernel
theorem dX8_turn_236 : decode cX8_turn 236 = .ok (.getfield 31, 3) := by decide +kernel
theorem dX8_turn_239 : decode cX8_turn 239 = .ok (.iload_n 2, 1) := by decide +kernel
theorem dX8_turn_240 : decode cX8_turn 240 = .ok (.dup2, 1) := by decide +kernel
theorem dX8_turn_241 : decode cX8_turn 241 = .ok (.iaload, 1) := by decide +kernel
theorem dX8_turn_242 : decode cX8_turn 242 = .ok (.iconst 1, 1) := by decide +kernel
theorem dX8_turn_243 : decode cX8_turn 243 = .ok (.iadd, 1) := by decide +kernel
theorem dX8_turn_244 : decode cX8_turn 244 = .ok (.iastore, 1) := by decide +kernel
theorem dX8_turn_245 : decode cX8_turn 245 = .ok (.aload_n 0, 1) := by decide +kernel
theorem dX8_turn_246 : decode cX8_turn 246 = .ok (.getfield 49, 3) := by decide +kernel
theorem dX8_turn_249 : decode cX8_turn 249 = .ok (.iload_n 2, 1) := by decide +kernel
theorem dX8_turn_250 : decode cX8_turn 250 = .ok (.iaload, 1) := by decide +kernel
theorem dX8_turn_251 : decode cX8_turn 251 = .ok (.ifCond .gt 18, 3) := by decide +kernel
theorem dX8_turn_254 : decode cX8_turn 254 = .ok (.aload_n 0, 1) := by decide +kernel
theorem dX8_turn_255 : decode cX8_turn 255 = .ok (.getfield 31, 3) := by decide +kernel
theorem dX8_turn_258 : decode cX8_turn 258 = .ok (.iload_n 2, 1) := by decide +kernel
theorem dX8_turn_259 : decode cX8_turn 259 = .ok (.iaload, 1) := by decide +kernel
theorem dX8_turn_260 : decode cX8_turn 260 = .ok (.aload_n 0, 1) := by decide +kernel
theorem dX8_turn_261 : decode cX8_turn 261 = .ok (.getfield 19, 3) := by decide +kernel
theorem dX8_turn_264 : decode cX8_turn 264 = .ok (.iload_n 2, 1) := by decide +kernel
theorem dX8_turn_265 : decode cX8_turn 265 = .ok (.iaload, 1) := by decide +kernel
theorem dX8_turn_266 : decode cX8_turn 266 = .ok (.if_icmp .ne 9, 3) := by decide +kernel
theorem dX8_turn_269 : decode cX8_turn 269 = .ok (.aload_n 0, 1) := by decide +kernel
theorem dX8_turn_270 : decode cX8_turn 270 = .ok (.iload_n 1, 1) := by decide +kernel
theorem dX8_turn_271 : decode cX8_turn 271 = .ok (.iload_n 2, 1) := by decide +kernel
theorem dX8_turn_272 : decode cX8_turn 272 = .ok (.invokevirtual 154, 3) := by decide +kernel
theorem dX8_turn_275 : decode cX8_turn 275 = .ok (.return_, 1) := by decide +kernel
theorem dX8_round_0 : decode cX8_round 0 = .ok (.aload_n 0, 1) := by decide +kernel
theorem dX8_round_1 : decode cX8_round 1 = .ok (.sipush 200, 3) := by decide +kernel
theorem dX8_round_4 : decode cX8_round 4 = .ok (.putfield 141, 3) := by decide +kernel
theorem dX8_round_7 : decode cX8_round 7 = .ok (.aload_n 0, 1) := by decide +kernel
theorem dX8_round_8 : decode cX8_round 8 = .ok (.sipush 200, 3) := by decide +kernel
theorem dX8_round_11 : decode cX8_round 11 = .ok (.putfield 144, 3) := by decide +kernel
theorem dX8_round_14 : decode cX8_round 14 = .ok (.iconst 0, 1) := by decide +kernel
theorem dX8_round_15 : decode cX8_round 15 = .ok (.istore_n 1, 1) := by decide +kernel
theorem dX8_round_16 : decode cX8_round 16 = .ok (.iload_n 1, 1) := by decide +kernel
theorem dX8_round_17 : decode cX8_round 17 = .ok (.aload_n 0, 1) := by decide +kernel
theorem dX8_round_18 : decode cX8_round 18 = .ok (.getfield 87, 3) := by decide +kernel
theorem dX8_round_21 : decode cX8_round 21 = .ok (.if_icmp .ge 44, 3) := by decide +kernel
theorem dX8_round_24 : decode cX8_round 24 = .ok (.aload_n 0, 1) := by decide +kernel
theorem dX8_round_25 : decode cX8_round 25 = .ok (.getfield 59, 3) := by decide +kernel
theorem dX8_round_28 : decode cX8_round 28 = .ok (.aload_n 0, 1) := by decide +kernel
theorem dX8_round_29 : decode cX8_round 29 = .ok (.getfield 144, 3) := by decide +kernel
theorem dX8_round_32 : decode cX8_round 32 = .ok (.iload_n 1, 1) := by decide +kernel
theorem dX8_round_33 : decode cX8_round 33 = .ok (.iastore, 1) := by decide +kernel
theorem dX8_round_34 : decode cX8_round 34 = .ok (.aload_n 0, 1) := by decide +kernel
theorem dX8_round_35 : decode cX8_round 35 = .ok (.dup, 1) := by decide +kernel
theorem dX8_round_36 : decode cX8_round 36 = .ok (.getfield 144, 3) := by decide +kernel
theorem dX8_round_39 : decode cX8_round 39 = .ok (.iconst 1, 1) := by decide +kernel
theorem dX8_round_40 : decode cX8_round 40 = .ok (.iadd, 1) := by decide +kernel
theorem dX8_round_41 : decode cX8_round 41 = .ok (.putfield 144, 3) := by decide +kernel
theorem dX8_round_44 : decode cX8_round 44 = .ok (.aload_n 0, 1) := by decide +kernel
theorem dX8_round_45 : decode cX8_round 45 = .ok (.getfield 55, 3) := by decide +kernel
theorem dX8_round_48 : decode cX8_round 48 = .ok (.iload_n 1, 1) := by decide +kernel
theorem dX8_round_49 : decode cX8_round 49 = .ok (.iconst 0, 1) := by decide +kernel
theorem dX8_round_50 : decode cX8_round 50 = .ok (.bastore, 1) := by decide +kernel
theorem dX8_round_51 : decode cX8_round 51 = .ok (.aload_n 0, 1) := by decide +kernel
theorem dX8_round_52 : decode cX8_round 52 = .ok (.getfield 52, 3) := by decide +kernel
theorem dX8_round_55 : decode cX8_round 55 = .ok (.iload_n 1, 1) := by decide +kernel
theorem dX8_round_56 : decode cX8_round 56 = .ok (.ldc 71, 2) := by decide +kernel
theorem dX8_round_58 : decode cX8_round 58 = .ok (.iastore, 1) := by decide +kernel
theorem dX8_round_59 : decode cX8_round 59 = .ok (.iinc 1 1, 3) := by decide +kernel
theorem dX8_round_62 : decode cX8_round 62 = .ok (.goto (-46), 3) := by decide +kernel
theorem dX8_round_65 : decode cX8_round 65 = .ok (.iconst 0, 1) := by decide +kernel
theorem dX8_round_66 : decode cX8_round 66 = .ok (.istore_n 1, 1) := by decide +kernel
theorem dX8_round_67 : decode cX8_round 67 = .ok (.iload_n 1, 1) := by decide +kernel
theorem dX8_round_68 : decode cX8_round 68 = .ok (.iconst 4, 1) := by decide +kernel
theorem dX8_round_69 : decode cX8_round 69 = .ok (.if_icmp .ge 17, 3) := by decide +kernel
theorem dX8_round_72 : decode cX8_round 72 = .ok (.aload_n 0, 1) := by decide +kernel
theorem dX8_round_73 : decode cX8_round 73 = .ok (.getfield 68, 3) := by decide +kernel
theorem dX8_round_76 : decode cX8_round 76 = .ok (.iload_n 1, 1) := by decide +kernel
theorem dX8_round_77 : decode cX8_round 77 = .ok (.ldc 71, 2) := by decide +kernel
theorem dX8_round_79 : decode cX8_round 79 = .ok (.iastore, 1) := by decide +kernel
theorem dX8_round_80 : decode cX8_round 80 = .ok (.iinc 1 1, 3) := by decide +kernel
theorem dX8_round_83 : decode cX8_round 83 = .ok (.goto (-16), 3) := by decide +kernel
theorem dX8_round_86 : decode cX8_round 86 = .ok (.aload_n 0, 1) := by decide +kernel
theorem dX8_round_87 : decode cX8_round 87 = .ok (.invokevirtual 162, 3) := by decide +kernel
theorem dX8_round_90 : decode cX8_round 90 = .ok (.istore_n 1, 1) := by decide +kernel
theorem dX8_round_91 : decode cX8_round 91 = .ok (.iload_n 1, 1) := by decide +kernel
theorem dX8_round_92 : decode cX8_round 92 = .ok (.ifCond .ne 22, 3) := by decide +kernel
theorem dX8_round_95 : decode cX8_round 95 = .ok (.aload_n 0, 1) := by decide +kernel
theorem dX8_round_96 : decode cX8_round 96 = .ok (.invokevirtual 103, 3) := by decide +kernel
theorem dX8_round_99 : decode cX8_round 99 = .ok (.ifCond .le 15, 3) := by decide +kernel
theorem dX8_round_102 : decode cX8_round 102 = .ok (.aload_n 0, 1) := by decide +kernel
theorem dX8_round_103 : decode cX8_round 103 = .ok (.invokevirtual 166, 3) := by decide +kernel
theorem dX8_round_106 : decode cX8_round 106 = .ok (.aload_n 0, 1) := by decide +kernel
theorem dX8_round_107 : decode cX8_round 107 = .ok (.invokevirtual 162, 3) := by decide +kernel
theorem dX8_round_110 : decode cX8_round 110 = .ok (.istore_n 1, 1) := by decide +kernel
theorem dX8_round_111 : decode cX8_round 111 = .ok (.goto (-20), 3) := by decide +kernel
theorem dX8_round_114 : decode cX8_round 114 = .ok (.iload_n 1, 1) := by decide +kernel
theorem dX8_round_115 : decode cX8_round 115 = .ok (.ireturn, 1) := by decide +kernel
theorem dX8_areDone_0 : decode cX8_areDone 0 = .ok (.iconst 0, 1) := by decide +kernel
theorem dX8_areDone_1 : decode cX8_areDone 1 = .ok (.istore_n 1, 1) := by decide +kernel
theorem dX8_areDone_2 : decode cX8_areDone 2 = .ok (.iload_n 1, 1) := by decide +kernel
theorem dX8_areDone_3 : decode cX8_areDone 3 = .ok (.aload_n 0, 1) := by decide +kernel
theorem dX8_areDone_4 : decode cX8_areDone 4 = .ok (.getfield 87, 3) := by decide +kernel
theorem dX8_areDone_7 : decode cX8_areDone 7 = .ok (.if_icmp .ge 20, 3) := by decide +kernel
theorem dX8_areDone_10 : decode cX8_areDone 10 = .ok (.aload_n 0, 1) := by decide +kernel
theorem dX8_areDone_11 : decode cX8_areDone 11 = .ok (.getfield 55, 3) := by decide +kernel
theorem dX8_areDone_14 : decode cX8_areDone 14 = .ok (.iload_n 1, 1) := by decide +kernel
theorem dX8_areDone_15 : decode cX8_areDone 15 = .ok (.baload, 1) := by decide +kernel
theorem dX8_areDone_16 : decode cX8_areDone 16 = .ok (.ifCond .ne 5, 3) := by decide +kernel
theorem dX8_areDone_19 : decode cX8_areDone 19 = .ok (.iconst 0, 1) := by decide +kernel
theorem dX8_areDone_20 : decode cX8_areDone 20 = .ok (.ireturn, 1) := by decide +kernel
theorem dX8_areDone_21 : decode cX8_areDone 21 = .ok (.iinc 1 1, 3) := by decide +kernel
theorem dX8_areDone_24 : decode cX8_areDone 24 = .ok (.goto (-22), 3) := by decide +kernel
theorem dX8_areDone_27 : decode cX8_areDone 27 = .ok (.iconst 1, 1) := by decide +kernel
theorem dX8_areDone_28 : decode cX8_areDone 28 = .ok (.ireturn, 1) := by decide +kernel
theorem dX8_bound_0 : decode cX8_bound 0 = .ok (.iload_n 0, 1) := by decide +kernel
theorem dX8_bound_1 : decode cX8_bound 1 = .ok (.ifCond .ne 8, 3) := by decide +kernel
theorem dX8_bound_4 : decode cX8_bound 4 = .ok (.ldc 85, 2) := by decide +kernel
theorem dX8_bound_6 : decode cX8_bound 6 = .ok (.goto 78, 3) := by decide +kernel
theorem dX8_bound_9 : decode cX8_bound 9 = .ok (.iload_n 0, 1) := by decide +kernel
theorem dX8_bound_10 : decode cX8_bound 10 = .ok (.iconst 1, 1) := by decide +kernel
theorem dX8_bound_11 : decode cX8_bound 11 = .ok (.if_icmp .ne 9, 3) := by decide +kernel
theorem dX8_bound_14 : decode cX8_bound 14 = .ok (.sipush (-1000), 3) := by decide +kernel
theorem dX8_bound_17 : decode cX8_bound 17 = .ok (.goto 67, 3) := by decide +kernel
theorem dX8_bound_20 : decode cX8_bound 20 = .ok (.iload_n 0, 1) := by decide +kernel
theorem dX8_bound_21 : decode cX8_bound 21 = .ok (.iconst 2, 1) := by decide +kernel
theorem dX8_bound_22 : decode cX8_bound 22 = .ok (.if_icmp .ne 8, 3) := by decide +kernel
theorem dX8_bound_25 : decode cX8_bound 25 = .ok (.bipush (-100), 2) := by decide +kernel
theorem dX8_bound_27 : decode cX8_bound 27 = .ok (.goto 57, 3) := by decide +kernel
theorem dX8_bound_30 : decode cX8_bound 30 = .ok (.iload_n 0, 1) := by decide +kernel
theorem dX8_bound_31 : decode cX8_bound 31 = .ok (.iconst 3, 1) := by decide +kernel
theorem dX8_bound_32 : decode cX8_bound 32 = .ok (.if_icmp .ne 8, 3) := by decide +kernel
theorem dX8_bound_35 : decode cX8_bound 35 = .ok (.bipush (-10), 2) := by decide +kernel
theorem dX8_bound_37 : decode cX8_bound 37 = .ok (.goto 47, 3) := by decide +kernel
theorem dX8_bound_40 : decode cX8_bound 40 = .ok (.iload_n 0, 1) := by decide +kernel
theorem dX8_bound_41 : decode cX8_bound 41 = .ok (.iconst 4, 1) := by decide +kernel
theorem dX8_bound_42 : decode cX8_bound 42 = .ok (.if_icmp .ne 7, 3) := by decide +kernel
theorem dX8_bound_45 : decode cX8_bound 45 = .ok (.iconst 0, 1) := by decide +kernel
theorem dX8_bound_46 : decode cX8_bound 46 = .ok (.goto 38, 3) := by decide +kernel
theorem dX8_bound_49 : decode cX8_bound 49 = .ok (.iload_n 0, 1) := by decide +kernel
theorem dX8_bound_50 : decode cX8_bound 50 = .ok (.iconst 5, 1) := by decide +kernel
theorem dX8_bound_51 : decode cX8_bound 51 = .ok (.if_icmp .ne 8, 3) := by decide +kernel
theorem dX8_bound_54 : decode cX8_bound 54 = .ok (.bipush 10, 2) := by decide +kernel
theorem dX8_bound_56 : decode cX8_bound 56 = .ok (.goto 28, 3) := by decide +kernel
theorem dX8_bound_59 : decode cX8_bound 59 = .ok (.iload_n 0, 1) := by decide +kernel
theorem dX8_bound_60 : decode cX8_bound 60 = .ok (.bipush 6, 2) := by decide +kernel
theorem dX8_bound_62 : decode cX8_bound 62 = .ok (.if_icmp .ne 8, 3) := by decide +kernel
theorem dX8_bound_65 : decode cX8_bound 65 = .ok (.bipush 100, 2) := by decide +kernel
theorem dX8_bound_67 : decode cX8_bound 67 = .ok (.goto 17, 3) := by decide +kernel
theorem dX8_bound_70 : decode cX8_bound 70 = .ok (.iload_n 0, 1) := by decide +kernel
theorem dX8_bound_71 : decode cX8_bound 71 = .ok (.bipush 7, 2) := by decide +kernel
theorem dX8_bound_73 : decode cX8_bound 73 = .ok (.if_icmp .ne 9, 3) := by decide +kernel
theorem dX8_bound_76 : decode cX8_bound 76 = .ok (.sipush 1000, 3) := by decide +kernel
theorem dX8_bound_79 : decode cX8_bound 79 = .ok (.goto 5, 3) := by decide +kernel
theorem dX8_bound_82 : decode cX8_bound 82 = .ok (.ldc 86, 2) := by decide +kernel
theorem dX8_bound_84 : decode cX8_bound 84 = .ok (.ireturn, 1) := by decide +kernel
theorem dX8_join_0 : decode cX8_join 0 = .ok (.aload_n 0, 1) := by decide +kernel
theorem dX8_join_1 : decode cX8_join 1 = .ok (.getfield 16, 3) := by decide +kernel
theorem dX8_join_4 : decode cX8_join 4 = .ok (.iload_n 1, 1) := by decide +kernel
theorem dX8_join_5 : decode cX8_join 5 = .ok (.iaload, 1) := by decide +kernel
theorem dX8_join_6 : decode cX8_join 6 = .ok (.istore_n 3, 1) := by decide +kernel
theorem dX8_join_7 : decode cX8_join 7 = .ok (.aload_n 0, 1) := by decide +kernel
theorem dX8_join_8 : decode cX8_join 8 = .ok (.getfield 37, 3) := by decide +kernel
theorem dX8_join_11 : decode cX8_join 11 = .ok (.iconst 3, 1) := by decide +kernel
theorem dX8_join_12 : decode cX8_join 12 = .ok (.iload_n 1, 1) := by decide +kernel
theorem dX8_join_13 : decode cX8_join 13 = .ok (.imul, 1) := by decide +kernel
theorem dX8_join_14 : decode cX8_join 14 = .ok (.aload_n 0, 1) := by decide +kernel
theorem dX8_join_15 : decode cX8_join 15 = .ok (.getfield 34, 3) := by decide +kernel
theorem dX8_join_18 : decode cX8_join 18 = .ok (.iload_n 1, 1) := by decide +kernel
theorem dX8_join_19 : decode cX8_join 19 = .ok (.iaload, 1) := by decide +kernel
theorem dX8_join_20 : decode cX8_join 20 = .ok (.iadd, 1) := by decide +kernel
theorem dX8_join_21 : decode cX8_join 21 = .ok (.iconst 1, 1) := by decide +kernel
theorem dX8_join_22 : decode cX8_join 22 = .ok (.isub, 1) := by decide +kernel
theorem dX8_join_23 : decode cX8_join 23 = .ok (.iaload, 1) := by decide +kernel
theorem dX8_join_24 : decode cX8_join 24 = .ok (.istore 4, 2) := by decide +kernel
theorem dX8_join_26 : decode cX8_join 26 = .ok (.aload_n 0, 1) := by decide +kernel
theorem dX8_join_27 : decode cX8_join 27 = .ok (.getfield 40, 3) := by decide +kernel
theorem dX8_join_30 : decode cX8_join 30 = .ok (.iconst 3, 1) := by decide +kernel
theorem dX8_join_31 : decode cX8_join 31 = .ok (.iload_n 1, 1) := by decide +kernel
theorem dX8_join_32 : decode cX8_join 32 = .ok (.imul, 1) := by decide +kernel
theorem dX8_join_33 : decode cX8_join 33 = .ok (.aload_n 0, 1) := by decide +kernel
theorem dX8_join_34 : decode cX8_join 34 = .ok (.getfield 34, 3) := by decide +kernel
theorem dX8_join_37 : decode cX8_join 37 = .ok (.iload_n 1, 1) := by decide +kernel
theorem dX8_join_38 : decode cX8_join 38 = .ok (.iaload, 1) := by decide +kernel
theorem dX8_join_39 : decode cX8_join 39 = .ok (.iadd, 1) := by decide +kernel
theorem dX8_join_40 : decode cX8_join 40 = .ok (.iconst 1, 1) := by decide +kernel
theorem dX8_join_41 : decode cX8_join 41 = .ok (.isub, 1) := by decide +kernel
theorem dX8_join_42 : decode cX8_join 42 = .ok (.iaload, 1) := by decide +kernel
theorem dX8_join_43 : decode cX8_join 43 = .ok (.istore 5, 2) := by decide +kernel
theorem dX8_join_45 : decode cX8_join 45 = .ok (.aload_n 0, 1) := by decide +kernel
theorem dX8_join_46 : decode cX8_join 46 = .ok (.getfield 7, 3) := by decide +kernel
theorem dX8_join_49 : decode cX8_join 49 = .ok (.iload_n 3, 1) := by decide +kernel
theorem dX8_join_50 : decode cX8_join 50 = .ok (.iaload, 1) := by decide +kernel
theorem dX8_join_51 : decode cX8_join 51 = .ok (.aload_n 0, 1) := by decide +kernel
theorem dX8_join_52 : decode cX8_join 52 = .ok (.getfield 13, 3) := by decide +kernel
theorem dX8_join_55 : decode cX8_join 55 = .ok (.iload_n 3, 1) := by decide +kernel
theorem dX8_join_56 : decode cX8_join 56 = .ok (.iaload, 1) := by decide +kernel
theorem dX8_join_57 : decode cX8_join 57 = .ok (.if_icmp .le 21, 3) := by decide +kernel
theorem dX8_join_60 : decode cX8_join 60 = .ok (.aload_n 0, 1) := by decide +kernel
theorem dX8_join_61 : decode cX8_join 61 = .ok (.getfield 7, 3) := by decide +kernel
theorem dX8_join_64 : decode cX8_join 64 = .ok (.iload_n 3, 1) := by decide +kernel
theorem dX8_join_65 : decode cX8_join 65 = .ok (.iload 4, 2) := by decide +kernel
theorem dX8_join_67 : decode cX8_join 67 = .ok (.iastore, 1) := by decide +kernel
theorem dX8_join_68 : decode cX8_join 68 = .ok (.aload_n 0, 1) := by decide +kernel
theorem dX8_join_69 : decode cX8_join 69 = .ok (.getfield 13, 3) := by decide +kernel
theorem dX8_join_72 : decode cX8_join 72 = .ok (.iload_n 3, 1) := by decide +kernel
theorem dX8_join_73 : decode cX8_join 73 = .ok (.iload 5, 2) := by decide +kernel
theorem dX8_join_75 : decode cX8_join 75 = .ok (.iastore, 1) := by decide +kernel
theorem dX8_join_76 : decode cX8_join 76 = .ok (.iconst 1, 1) := by decide +kernel
theorem dX8_join_77 : decode cX8_join 77 = .ok (.ireturn, 1) := by decide +kernel
theorem dX8_join_78 : decode cX8_join 78 = .ok (.iload 4, 2) := by decide +kernel
theorem dX8_join_80 : decode cX8_join 80 = .ok (.aload_n 0, 1) := by decide +kernel
theorem dX8_join_81 : decode cX8_join 81 = .ok (.getfield 7, 3) := by decide +kernel
theorem dX8_join_84 : decode cX8_join 84 = .ok (.iload_n 3, 1) := by decide +kernel
theorem dX8_join_85 : decode cX8_join 85 = .ok (.iaload, 1) := by decide +kernel
theorem dX8_join_86 : decode cX8_join 86 = .ok (.if_icmp .lt 14, 3) := by decide +kernel
theorem dX8_join_89 : decode cX8_join 89 = .ok (.iload 5, 2) := by decide +kernel
theorem dX8_join_91 : decode cX8_join 91 = .ok (.aload_n 0, 1) := by decide +kernel
theorem dX8_join_92 : decode cX8_join 92 = .ok (.getfield 13, 3) := by decide +kernel
theorem dX8_join_95 : decode cX8_join 95 = .ok (.iload_n 3, 1) := by decide +kernel
theorem dX8_join_96 : decode cX8_join 96 = .ok (.iaload, 1) := by decide +kernel
theorem dX8_join_97 : decode cX8_join 97 = .ok (.if_icmp .le 7, 3) := by decide +kernel
theorem dX8_join_100 : decode cX8_join 100 = .ok (.iconst 1, 1) := by decide +kernel
theorem dX8_join_101 : decode cX8_join 101 = .ok (.goto 4, 3) := by decide +kernel
theorem dX8_join_104 : decode cX8_join 104 = .ok (.iconst 0, 1) := by decide +kernel
theorem dX8_join_105 : decode cX8_join 105 = .ok (.istore 6, 2) := by decide +kernel
theorem dX8_join_107 : decode cX8_join 107 = .ok (.iload 4, 2) := by decide +kernel
theorem dX8_join_109 : decode cX8_join 109 = .ok (.aload_n 0, 1) := by decide +kernel
theorem dX8_join_110 : decode cX8_join 110 = .ok (.getfield 7, 3) := by decide +kernel
theorem dX8_join_113 : decode cX8_join 113 = .ok (.iload_n 3, 1) := by decide +kernel
theorem dX8_join_114 : decode cX8_join 114 = .ok (.iaload, 1) := by decide +kernel
theorem dX8_join_115 : decode cX8_join 115 = .ok (.if_icmp .ge 47, 3) := by decide +kernel
theorem dX8_join_118 : decode cX8_join 118 = .ok (.bipush 8, 2) := by decide +kernel
theorem dX8_join_120 : decode cX8_join 120 = .ok (.istore 7, 2) := by decide +kernel
theorem dX8_join_122 : decode cX8_join 122 = .ok (.iload_n 2, 1) := by decide +kernel
theorem dX8_join_123 : decode cX8_join 123 = .ok (.ifCond .eq 19, 3) := by decide +kernel
theorem dX8_join_126 : decode cX8_join 126 = .ok (.iload 7, 2) := by decide +kernel
theorem dX8_join_128 : decode cX8_join 128 = .ok (.invokestatic 169, 3) := by decide +kernel
theorem dX8_join_131 : decode cX8_join 131 = .ok (.iload 4, 2) := by decide +kernel
theorem dX8_join_133 : decode cX8_join 133 = .ok (.if_icmp .le 9, 3) := by decide +kernel
theorem dX8_join_136 : decode cX8_join 136 = .ok (.iinc 7 (-1), 3) := by decide +kernel
theorem dX8_join_139 : decode cX8_join 139 = .ok (.goto (-17), 3) := by decide +kernel
theorem dX8_join_142 : decode cX8_join 142 = .ok (.aload_n 0, 1) := by decide +kernel
theorem dX8_join_143 : decode cX8_join 143 = .ok (.getfield 7, 3) := by decide +kernel
theorem dX8_join_146 : decode cX8_join 146 = .ok (.iload_n 3, 1) := by decide +kernel
theorem dX8_join_147 : decode cX8_join 147 = .ok (.iload_n 2, 1) := by decide +kernel
theorem dX8_join_148 : decode cX8_join 148 = .ok (.ifCond .eq 11, 3) := by decide +kernel
theorem dX8_join_151 : decode cX8_join 151 = .ok (.iload 7, 2) := by decide +kernel
theorem dX8_join_153 : decode cX8_join 153 = .ok (.invokestatic 169, 3) := by decide +kernel
theorem dX8_join_156 : decode cX8_join 156 = .ok (.goto 5, 3) := by decide +kernel
theorem dX8_join_159 : decode cX8_join 159 = .ok (.iload 4, 2) := by decide +kernel
theorem dX8_join_161 : decode cX8_join 161 = .ok (.iastore, 1) := by decide +kernel
theorem dX8_join_162 : decode cX8_join 162 = .ok (.iload 5, 2) := by decide +kernel
theorem dX8_join_164 : decode cX8_join 164 = .ok (.aload_n 0, 1) := by decide +kernel
theorem dX8_join_165 : decode cX8_join 165 = .ok (.getfield 13, 3) := by decide +kernel
theorem dX8_join_168 : decode cX8_join 168 = .ok (.iload_n 3, 1) := by decide +kernel
theorem dX8_join_169 : decode cX8_join 169 = .ok (.iaload, 1) := by decide +kernel
theorem dX8_join_170 : decode cX8_join 170 = .ok (.if_icmp .le 46, 3) := by decide +kernel
theorem dX8_join_173 : decode cX8_join 173 = .ok (.iconst 0, 1) := by decide +kernel
theorem dX8_join_174 : decode cX8_join 174 = .ok (.istore 7, 2) := by decide +kernel
theorem dX8_join_176 : decode cX8_join 176 = .ok (.iload_n 2, 1) := by decide +kernel
theorem dX8_join_177 : decode cX8_join 177 = .ok (.ifCond .eq 19, 3) := by decide +kernel
theorem dX8_join_180 : decode cX8_join 180 = .ok (.iload 7, 2) := by decide +kernel
theorem dX8_join_182 : decode cX8_join 182 = .ok (.invokestatic 169, 3) := by decide +kernel
theorem dX8_join_185 : decode cX8_join 185 = .ok (.iload 5, 2) := by decide +kernel
theorem dX8_join_187 : decode cX8_join 187 = .ok (.if_icmp .ge 9, 3) := by decide +kernel
theorem dX8_join_190 : decode cX8_join 190 = .ok (.iinc 7 1, 3) := by decide +kernel
theorem dX8_join_193 : decode cX8_join 193 = .ok (.goto (-17), 3) := by decide +kernel
theorem dX8_join_196 : decode cX8_join 196 = .ok (.aload_n 0, 1) := by decide +kernel
theorem dX8_join_197 : decode cX8_join 197 = .ok (.getfield 13, 3) := by decide +kernel
theorem dX8_join_200 : decode cX8_join 200 = .ok (.iload_n 3, 1) := by decide +kernel
theorem dX8_join_201 : decode cX8_join 201 = .ok (.iload_n 2, 1) := by decide +kernel
theorem dX8_join_202 : decode cX8_join 202 = .ok (.ifCond .eq 11, 3) := by decide +kernel
theorem dX8_join_205 : decode cX8_join 205 = .ok (.iload 7, 2) := by decide +kernel
theorem dX8_join_207 : decode cX8_join 207 = .ok (.invokestatic 169, 3) := by decide +kernel
theorem dX8_join_210 : decode cX8_join 210 = .ok (.goto 5, 3) := by decide +kernel
theorem dX8_join_213 : decode cX8_join 213 = .ok (.iload 5, 2) := by decide +kernel
theorem dX8_join_215 : decode cX8_join 215 = .ok (.iastore, 1) := by decide +kernel
theorem dX8_join_216 : decode cX8_join 216 = .ok (.iload 6, 2) := by decide +kernel
theorem dX8_join_218 : decode cX8_join 218 = .ok (.ireturn, 1) := by decide +kernel
theorem dX8_run_0 : decode cX8_run 0 = .ok (.iload_n 1, 1) := by decide +kernel
theorem dX8_run_1 : decode cX8_run 1 = .ok (.iconst 1, 1) := by decide +kernel
theorem dX8_run_2 : decode cX8_run 2 = .ok (.if_icmp .lt 9, 3) := by decide +kernel
theorem dX8_run_5 : decode cX8_run 5 = .ok (.iload_n 1, 1) := by decide +kernel
theorem dX8_run_6 : decode cX8_run 6 = .ok (.bipush 10, 2) := by decide +kernel
theorem dX8_run_8 : decode cX8_run 8 = .ok (.if_icmp .le 6, 3) := by decide +kernel
theorem dX8_run_11 : decode cX8_run 11 = .ok (.ldc 102, 2) := by decide +kernel
theorem dX8_run_13 : decode cX8_run 13 = .ok (.ireturn, 1) := by decide +kernel
theorem dX8_run_14 : decode cX8_run 14 = .ok (.aload_n 0, 1) := by decide +kernel
theorem dX8_run_15 : decode cX8_run 15 = .ok (.iconst 0, 1) := by decide +kernel
theorem dX8_run_16 : decode cX8_run 16 = .ok (.putfield 172, 3) := by decide +kernel
theorem dX8_run_19 : decode cX8_run 19 = .ok (.aload_n 0, 1) := by decide +kernel
theorem dX8_run_20 : decode cX8_run 20 = .ok (.ldc 71, 2) := by decide +kernel
theorem dX8_run_22 : decode cX8_run 22 = .ok (.putfield 82, 3) := by decide +kernel
theorem dX8_run_25 : decode cX8_run 25 = .ok (.aload_n 0, 1) := by decide +kernel
theorem dX8_run_26 : decode cX8_run 26 = .ok (.iconst 0, 1) := by decide +kernel
theorem dX8_run_27 : decode cX8_run 27 = .ok (.putfield 175, 3) := by decide +kernel
theorem dX8_run_30 : decode cX8_run 30 = .ok (.aload_n 0, 1) := by decide +kernel
theorem dX8_run_31 : decode cX8_run 31 = .ok (.iconst 0, 1) := by decide +kernel
theorem dX8_run_32 : decode cX8_run 32 = .ok (.putfield 178, 3) := by decide +kernel
theorem dX8_run_35 : decode cX8_run 35 = .ok (.aload_n 0, 1) := by decide +kernel
theorem dX8_run_36 : decode cX8_run 36 = .ok (.iconst 0, 1) := by decide +kernel
theorem dX8_run_37 : decode cX8_run 37 = .ok (.putfield 147, 3) := by decide +kernel
theorem dX8_run_40 : decode cX8_run 40 = .ok (.aload_n 0, 1) := by decide +kernel
theorem dX8_run_41 : decode cX8_run 41 = .ok (.iconst 0, 1) := by decide +kernel
theorem dX8_run_42 : decode cX8_run 42 = .ok (.putfield 130, 3) := by decide +kernel
theorem dX8_run_45 : decode cX8_run 45 = .ok (.iconst 0, 1) := by decide +kernel
theorem dX8_run_46 : decode cX8_run 46 = .ok (.istore_n 2, 1) := by decide +kernel
theorem dX8_run_47 : decode cX8_run 47 = .ok (.iconst 0, 1) := by decide +kernel
theorem dX8_run_48 : decode cX8_run 48 = .ok (.istore_n 3, 1) := by decide +kernel
theorem dX8_run_49 : decode cX8_run 49 = .ok (.iload_n 3, 1) := by decide +kernel
theorem dX8_run_50 : decode cX8_run 50 = .ok (.aload_n 0, 1) := by decide +kernel
theorem dX8_run_51 : decode cX8_run 51 = .ok (.getfield 87, 3) := by decide +kernel
theorem dX8_run_54 : decode cX8_run 54 = .ok (.if_icmp .ge 18, 3) := by decide +kernel
theorem dX8_run_57 : decode cX8_run 57 = .ok (.iload_n 2, 1) := by decide +kernel
theorem dX8_run_58 : decode cX8_run 58 = .ok (.aload_n 0, 1) := by decide +kernel
theorem dX8_run_59 : decode cX8_run 59 = .ok (.getfield 19, 3) := by decide +kernel
theorem dX8_run_62 : decode cX8_run 62 = .ok (.iload_n 3, 1) := by decide +kernel
theorem dX8_run_63 : decode cX8_run 63 = .ok (.iaload, 1) := by decide +kernel
theorem dX8_run_64 : decode cX8_run 64 = .ok (.iadd, 1) := by decide +kernel
theorem dX8_run_65 : decode cX8_run 65 = .ok (.istore_n 2, 1) := by decide +kernel
theorem dX8_run_66 : decode cX8_run 66 = .ok (.iinc 3 1, 3) := by decide +kernel
theorem dX8_run_69 : decode cX8_run 69 = .ok (.goto (-20), 3) := by decide +kernel
theorem dX8_run_72 : decode cX8_run 72 = .ok (.iconst 1, 1) := by decide +kernel
theorem dX8_run_73 : decode cX8_run 73 = .ok (.istore_n 3, 1) := by decide +kernel
theorem dX8_run_74 : decode cX8_run 74 = .ok (.iload_n 3, 1) := by decide +kernel
theorem dX8_run_75 : decode cX8_run 75 = .ok (.iload_n 1, 1) := by decide +kernel
theorem dX8_run_76 : decode cX8_run 76 = .ok (.if_icmp .gt 162, 3) := by decide +kernel
theorem dX8_run_79 : decode cX8_run 79 = .ok (.aload_n 0, 1) := by decide +kernel
theorem dX8_run_80 : decode cX8_run 80 = .ok (.invokevirtual 181, 3) := by decide +kernel
theorem dX8_run_83 : decode cX8_run 83 = .ok (.ifCond .ne 5, 3) := by decide +kernel
theorem dX8_run_86 : decode cX8_run 86 = .ok (.iconst 3, 1) := by decide +kernel
theorem dX8_run_87 : decode cX8_run 87 = .ok (.ireturn, 1) := by decide +kernel
theorem dX8_run_88 : decode cX8_run 88 = .ok (.iconst 0, 1) := by decide +kernel
theorem dX8_run_89 : decode cX8_run 89 = .ok (.istore 4, 2) := by decide +kernel
theorem dX8_run_91 : decode cX8_run 91 = .ok (.iload 4, 2) := by decide +kernel
theorem dX8_run_93 : decode cX8_run 93 = .ok (.aload_n 0, 1) := by decide +kernel
theorem dX8_run_94 : decode cX8_run 94 = .ok (.getfield 87, 3) := by decide +kernel
theorem dX8_run_97 : decode cX8_run 97 = .ok (.if_icmp .ge 38, 3) := by decide +kernel
theorem dX8_run_100 : decode cX8_run 100 = .ok (.aload_n 0, 1) := by decide +kernel
theorem dX8_run_101 : decode cX8_run 101 = .ok (.getfield 49, 3) := by decide +kernel
theorem dX8_run_104 : decode cX8_run 104 = .ok (.iload 4, 2) := by decide +kernel
theorem dX8_run_106 : decode cX8_run 106 = .ok (.iaload, 1) := by decide +kernel
theorem dX8_run_107 : decode cX8_run 107 = .ok (.ifCond .le 22, 3) := by decide +kernel
theorem dX8_run_110 : decode cX8_run 110 = .ok (.aload_n 0, 1) := by decide +kernel
theorem dX8_run_111 : decode cX8_run 111 = .ok (.iload 4, 2) := by decide +kernel
theorem dX8_run_113 : decode cX8_run 113 = .ok (.putfield 82, 3) := by decide +kernel
theorem dX8_run_116 : decode cX8_run 116 = .ok (.aload_n 0, 1) := by decide +kernel
theorem dX8_run_117 : decode cX8_run 117 = .ok (.aload_n 0, 1) := by decide +kernel
theorem dX8_run_118 : decode cX8_run 118 = .ok (.getfield 49, 3) := by decide +kernel
theorem dX8_run_121 : decode cX8_run 121 = .ok (.iload 4, 2) := by decide +kernel
theorem dX8_run_123 : decode cX8_run 123 = .ok (.iaload, 1) := by decide +kernel
theorem dX8_run_124 : decode cX8_run 124 = .ok (.putfield 175, 3) := by decide +kernel
theorem dX8_run_127 : decode cX8_run 127 = .ok (.iconst 2, 1) := by decide +kernel
theorem dX8_run_128 : decode cX8_run 128 = .ok (.ireturn, 1) := by decide +kernel
theorem dX8_run_129 : decode cX8_run 129 = .ok (.iinc 4 1, 3) := by decide +kernel
theorem dX8_run_132 : decode cX8_run 132 = .ok (.goto (-41), 3) := by decide +kernel
theorem dX8_run_135 : decode cX8_run 135 = .ok (.aload_n 0, 1) := by decide +kernel
theorem dX8_run_136 : decode cX8_run 136 = .ok (.getfield 178, 3) := by decide +kernel
theorem dX8_run_139 : decode cX8_run 139 = .ok (.iload_n 2, 1) := by decide +kernel
theorem dX8_run_140 : decode cX8_run 140 = .ok (.iadd, 1) := by decide +kernel
theorem dX8_run_141 : decode cX8_run 141 = .ok (.aload_n 0, 1) := by decide +kernel
theorem dX8_run_142 : decode cX8_run 142 = .ok (.getfield 79, 3) := by decide +kernel
theorem dX8_run_145 : decode cX8_run 145 = .ok (.if_icmp .le 5, 3) := by decide +kernel
theorem dX8_run_148 : decode cX8_run 148 = .ok (.iconst 4, 1) := by decide +kernel
theorem dX8_run_149 : decode cX8_run 149 = .ok (.ireturn, 1) := by decide +kernel
theorem dX8_run_150 : decode cX8_run 150 = .ok (.aload_n 0, 1) := by decide +kernel
theorem dX8_run_151 : decode cX8_run 151 = .ok (.dup, 1) := by decide +kernel
theorem dX8_run_152 : decode cX8_run 152 = .ok (.getfield 178, 3) := by decide +kernel
theorem dX8_run_155 : decode cX8_run 155 = .ok (.iload_n 2, 1) := by decide +kernel
theorem dX8_run_156 : decode cX8_run 156 = .ok (.iadd, 1) := by decide +kernel
theorem dX8_run_157 : decode cX8_run 157 = .ok (.putfield 178, 3) := by decide +kernel
theorem dX8_run_160 : decode cX8_run 160 = .ok (.aload_n 0, 1) := by decide +kernel
theorem dX8_run_161 : decode cX8_run 161 = .ok (.dup, 1) := by decide +kernel
theorem dX8_run_162 : decode cX8_run 162 = .ok (.getfield 172, 3) := by decide +kernel
theorem dX8_run_165 : decode cX8_run 165 = .ok (.iconst 1, 1) := by decide +kernel
theorem dX8_run_166 : decode cX8_run 166 = .ok (.iadd, 1) := by decide +kernel
theorem dX8_run_167 : decode cX8_run 167 = .ok (.putfield 172, 3) := by decide +kernel
theorem dX8_run_170 : decode cX8_run 170 = .ok (.iconst 0, 1) := by decide +kernel
theorem dX8_run_171 : decode cX8_run 171 = .ok (.istore 4, 2) := by decide +kernel
theorem dX8_run_173 : decode cX8_run 173 = .ok (.iconst 0, 1) := by decide +kernel
theorem dX8_run_174 : decode cX8_run 174 = .ok (.istore 5, 2) := by decide +kernel
theorem dX8_run_176 : decode cX8_run 176 = .ok (.iload 5, 2) := by decide +kernel
theorem dX8_run_178 : decode cX8_run 178 = .ok (.aload_n 0, 1) := by decide +kernel
theorem dX8_run_179 : decode cX8_run 179 = .ok (.getfield 87, 3) := by decide +kernel
theorem dX8_run_182 : decode cX8_run 182 = .ok (.if_icmp .ge 43, 3) := by decide +kernel
theorem dX8_run_185 : decode cX8_run 185 = .ok (.aload_n 0, 1) := by decide +kernel
theorem dX8_run_186 : decode cX8_run 186 = .ok (.iload 5, 2) := by decide +kernel
theorem dX8_run_188 : decode cX8_run 188 = .ok (.iload_n 3, 1) := by decide +kernel
theorem dX8_run_189 : decode cX8_run 189 = .ok (.aload_n 0, 1) := by decide +kernel
theorem dX8_run_190 : decode cX8_run 190 = .ok (.getfield 76, 3) := by decide +kernel
theorem dX8_run_193 : decode cX8_run 193 = .ok (.if_icmp .lt 7, 3) := by decide +kernel
theorem dX8_run_196 : decode cX8_run 196 = .ok (.iconst 1, 1) := by decide +kernel
theorem dX8_run_197 : decode cX8_run 197 = .ok (.goto 4, 3) := by decide +kernel
theorem dX8_run_200 : decode cX8_run 200 = .ok (.iconst 0, 1) := by decide +kernel
theorem dX8_run_201 : decode cX8_run 201 = .ok (.invokevirtual 184, 3) := by decide +kernel
theorem dX8_run_204 : decode cX8_run 204 = .ok (.ifCond .ne 8, 3) := by decide +kernel
theorem dX8_run_207 : decode cX8_run 207 = .ok (.iload 4, 2) := by decide +kernel
theorem dX8_run_209 : decode cX8_run 209 = .ok (.ifCond .eq 7, 3) := by decide +kernel
theorem dX8_run_212 : decode cX8_run 212 = .ok (.iconst 1, 1) := by decide +kernel
theorem dX8_run_213 : decode cX8_run 213 = .ok (.goto 4, 3) := by decide +kernel
theorem dX8_run_216 : decode cX8_run 216 = .ok (.iconst 0, 1) := by decide +kernel
theorem dX8_run_217 : decode cX8_run 217 = .ok (.istore 4, 2) := by decide +kernel
theorem dX8_run_219 : decode cX8_run 219 = .ok (.iinc 5 1, 3) := by decide +kernel
theorem dX8_run_222 : decode cX8_run 222 = .ok (.goto (-46), 3) := by decide +kernel
theorem dX8_run_225 : decode cX8_run 225 = .ok (.iload 4, 2) := by decide +kernel
theorem dX8_run_227 : decode cX8_run 227 = .ok (.ifCond .ne 5, 3) := by decide +kernel
theorem dX8_run_230 : decode cX8_run 230 = .ok (.iconst 0, 1) := by decide +kernel
theorem dX8_run_231 : decode cX8_run 231 = .ok (.ireturn, 1) := by decide +kernel
theorem dX8_run_232 : decode cX8_run 232 = .ok (.iinc 3 1, 3) := by decide +kernel
theorem dX8_run_235 : decode cX8_run 235 = .ok (.goto (-161), 3) := by decide +kernel
theorem dX8_run_238 : decode cX8_run 238 = .ok (.iconst 1, 1) := by decide +kernel
theorem dX8_run_239 : decode cX8_run 239 = .ok (.ireturn, 1) := by decide +kernel
theorem dX8_told_0 : decode cX8_told 0 = .ok (.iload_n 1, 1) := by decide +kernel
theorem dX8_told_1 : decode cX8_told 1 = .ok (.tableswitch 105 0 9 #[55, 60, 65, 70, 75, 80, 85, 90, 95, 100], 55) := by decide +kernel
theorem dX8_told_56 : decode cX8_told 56 = .ok (.aload_n 0, 1) := by decide +kernel
theorem dX8_told_57 : decode cX8_told 57 = .ok (.getfield 172, 3) := by decide +kernel
theorem dX8_told_60 : decode cX8_told 60 = .ok (.ireturn, 1) := by decide +kernel
theorem dX8_told_61 : decode cX8_told 61 = .ok (.aload_n 0, 1) := by decide +kernel
theorem dX8_told_62 : decode cX8_told 62 = .ok (.getfield 82, 3) := by decide +kernel
theorem dX8_told_65 : decode cX8_told 65 = .ok (.ireturn, 1) := by decide +kernel
theorem dX8_told_66 : decode cX8_told 66 = .ok (.aload_n 0, 1) := by decide +kernel
theorem dX8_told_67 : decode cX8_told 67 = .ok (.getfield 175, 3) := by decide +kernel
theorem dX8_told_70 : decode cX8_told 70 = .ok (.ireturn, 1) := by decide +kernel
theorem dX8_told_71 : decode cX8_told 71 = .ok (.aload_n 0, 1) := by decide +kernel
theorem dX8_told_72 : decode cX8_told 72 = .ok (.getfield 178, 3) := by decide +kernel
theorem dX8_told_75 : decode cX8_told 75 = .ok (.ireturn, 1) := by decide +kernel
theorem dX8_told_76 : decode cX8_told 76 = .ok (.aload_n 0, 1) := by decide +kernel
theorem dX8_told_77 : decode cX8_told 77 = .ok (.getfield 147, 3) := by decide +kernel
theorem dX8_told_80 : decode cX8_told 80 = .ok (.ireturn, 1) := by decide +kernel
theorem dX8_told_81 : decode cX8_told 81 = .ok (.aload_n 0, 1) := by decide +kernel
theorem dX8_told_82 : decode cX8_told 82 = .ok (.getfield 130, 3) := by decide +kernel
theorem dX8_told_85 : decode cX8_told 85 = .ok (.ireturn, 1) := by decide +kernel
theorem dX8_told_86 : decode cX8_told 86 = .ok (.aload_n 0, 1) := by decide +kernel
theorem dX8_told_87 : decode cX8_told 87 = .ok (.getfield 133, 3) := by decide +kernel
theorem dX8_told_90 : decode cX8_told 90 = .ok (.ireturn, 1) := by decide +kernel
theorem dX8_told_91 : decode cX8_told 91 = .ok (.aload_n 0, 1) := by decide +kernel
theorem dX8_told_92 : decode cX8_told 92 = .ok (.invokevirtual 103, 3) := by decide +kernel
theorem dX8_told_95 : decode cX8_told 95 = .ok (.ireturn, 1) := by decide +kernel
theorem dX8_told_96 : decode cX8_told 96 = .ok (.aload_n 0, 1) := by decide +kernel
theorem dX8_told_97 : decode cX8_told 97 = .ok (.getfield 87, 3) := by decide +kernel
theorem dX8_told_100 : decode cX8_told 100 = .ok (.ireturn, 1) := by decide +kernel
theorem dX8_told_101 : decode cX8_told 101 = .ok (.aload_n 0, 1) := by decide +kernel
theorem dX8_told_102 : decode cX8_told 102 = .ok (.getfield 72, 3) := by decide +kernel
theorem dX8_told_105 : decode cX8_told 105 = .ok (.ireturn, 1) := by decide +kernel
theorem dX8_told_106 : decode cX8_told 106 = .ok (.ldc 102, 2) := by decide +kernel
theorem dX8_told_108 : decode cX8_told 108 = .ok (.ireturn, 1) := by decide +kernel
theorem dX8_doer_0 : decode cX8_doer 0 = .ok (.aload_n 0, 1) := by decide +kernel
theorem dX8_doer_1 : decode cX8_doer 1 = .ok (.iload_n 1, 1) := by decide +kernel
theorem dX8_doer_2 : decode cX8_doer 2 = .ok (.invokevirtual 96, 3) := by decide +kernel
theorem dX8_doer_5 : decode cX8_doer 5 = .ok (.ifCond .eq 12, 3) := by decide +kernel
theorem dX8_doer_8 : decode cX8_doer 8 = .ok (.aload_n 0, 1) := by decide +kernel
theorem dX8_doer_9 : decode cX8_doer 9 = .ok (.getfield 52, 3) := by decide +kernel
theorem dX8_doer_12 : decode cX8_doer 12 = .ok (.iload_n 1, 1) := by decide +kernel
theorem dX8_doer_13 : decode cX8_doer 13 = .ok (.iaload, 1) := by decide +kernel
theorem dX8_doer_14 : decode cX8_doer 14 = .ok (.goto 5, 3) := by decide +kernel
theorem dX8_doer_17 : decode cX8_doer 17 = .ok (.ldc 94, 2) := by decide +kernel
theorem dX8_doer_19 : decode cX8_doer 19 = .ok (.ireturn, 1) := by decide +kernel
theorem dX8_clear_0 : decode cX8_clear 0 = .ok (.iconst 0, 1) := by decide +kernel
theorem dX8_clear_1 : decode cX8_clear 1 = .ok (.istore_n 1, 1) := by decide +kernel
theorem dX8_clear_2 : decode cX8_clear 2 = .ok (.iconst 0, 1) := by decide +kernel
theorem dX8_clear_3 : decode cX8_clear 3 = .ok (.istore_n 2, 1) := by decide +kernel
theorem dX8_clear_4 : decode cX8_clear 4 = .ok (.iload_n 2, 1) := by decide +kernel
theorem dX8_clear_5 : decode cX8_clear 5 = .ok (.bipush 10, 2) := by decide +kernel
theorem dX8_clear_7 : decode cX8_clear 7 = .ok (.if_icmp .ge 46, 3) := by decide +kernel
theorem dX8_clear_10 : decode cX8_clear 10 = .ok (.iload_n 1, 1) := by decide +kernel
theorem dX8_clear_11 : decode cX8_clear 11 = .ok (.aload_n 0, 1) := by decide +kernel
theorem dX8_clear_12 : decode cX8_clear 12 = .ok (.getfield 7, 3) := by decide +kernel
theorem dX8_clear_15 : decode cX8_clear 15 = .ok (.iload_n 2, 1) := by decide +kernel
theorem dX8_clear_16 : decode cX8_clear 16 = .ok (.iaload, 1) := by decide +kernel
theorem dX8_clear_17 : decode cX8_clear 17 = .ok (.aload_n 0, 1) := by decide +kernel
theorem dX8_clear_18 : decode cX8_clear 18 = .ok (.getfield 13, 3) := by decide +kernel
theorem dX8_clear_21 : decode cX8_clear 21 = .ok (.iload_n 2, 1) := by decide +kernel
theorem dX8_clear_22 : decode cX8_clear 22 = .ok (.iaload, 1) := by decide +kernel
theorem dX8_clear_23 : decode cX8_clear 23 = .ok (.if_icmp .gt 7, 3) := by decide +kernel
theorem dX8_clear_26 : decode cX8_clear 26 = .ok (.iconst 1, 1) := by decide +kernel
theorem dX8_clear_27 : decode cX8_clear 27 = .ok (.goto 4, 3) := by decide +kernel
theorem dX8_clear_30 : decode cX8_clear 30 = .ok (.iconst 0, 1) := by decide +kernel
theorem dX8_clear_31 : decode cX8_clear 31 = .ok (.iadd, 1) := by decide +kernel
theorem dX8_clear_32 : decode cX8_clear 32 = .ok (.istore_n 1, 1) := by decide +kernel
theorem dX8_clear_33 : decode cX8_clear 33 = .ok (.aload_n 0, 1) := by decide +kernel
theorem dX8_clear_34 : decode cX8_clear 34 = .ok (.getfield 7, 3) := by decide +kernel
theorem dX8_clear_37 : decode cX8_clear 37 = .ok (.iload_n 2, 1) := by decide +kernel
theorem dX8_clear_38 : decode cX8_clear 38 = .ok (.iconst 1, 1) := by decide +kernel
theorem dX8_clear_39 : decode cX8_clear 39 = .ok (.iastore, 1) := by decide +kernel
theorem dX8_clear_40 : decode cX8_clear 40 = .ok (.aload_n 0, 1) := by decide +kernel
theorem dX8_clear_41 : decode cX8_clear 41 = .ok (.getfield 13, 3) := by decide +kernel
theorem dX8_clear_44 : decode cX8_clear 44 = .ok (.iload_n 2, 1) := by decide +kernel
theorem dX8_clear_45 : decode cX8_clear 45 = .ok (.iconst 0, 1) := by decide +kernel
theorem dX8_clear_46 : decode cX8_clear 46 = .ok (.iastore, 1) := by decide +kernel
theorem dX8_clear_47 : decode cX8_clear 47 = .ok (.iinc 2 1, 3) := by decide +kernel
theorem dX8_clear_50 : decode cX8_clear 50 = .ok (.goto (-46), 3) := by decide +kernel
theorem dX8_clear_53 : decode cX8_clear 53 = .ok (.aload_n 0, 1) := by decide +kernel
theorem dX8_clear_54 : decode cX8_clear 54 = .ok (.iconst 0, 1) := by decide +kernel
theorem dX8_clear_55 : decode cX8_clear 55 = .ok (.putfield 133, 3) := by decide +kernel
theorem dX8_clear_58 : decode cX8_clear 58 = .ok (.aload_n 0, 1) := by decide +kernel
theorem dX8_clear_59 : decode cX8_clear 59 = .ok (.iconst 0, 1) := by decide +kernel
theorem dX8_clear_60 : decode cX8_clear 60 = .ok (.putfield 108, 3) := by decide +kernel
theorem dX8_clear_63 : decode cX8_clear 63 = .ok (.iload_n 1, 1) := by decide +kernel
theorem dX8_clear_64 : decode cX8_clear 64 = .ok (.ireturn, 1) := by decide +kernel
end
section
theorem dL_law_0 : decode cL_law 0 = .ok (.new 7, 3) := by decide +kernel
theorem dL_law_3 : decode cL_law 3 = .ok (.dup, 1) := by decide +kernel
theorem dL_law_4 : decode cL_law 4 = .ok (.invokespecial 9, 3) := by decide +kernel
theorem dL_law_7 : decode cL_law 7 = .ok (.astore_n 1, 1) := by decide +kernel
theorem dL_law_8 : decode cL_law 8 = .ok (.new 10, 3) := by decide +kernel
theorem dL_law_11 : decode cL_law 11 = .ok (.dup, 1) := by decide +kernel
theorem dL_law_12 : decode cL_law 12 = .ok (.invokespecial 12, 3) := by decide +kernel
theorem dL_law_15 : decode cL_law 15 = .ok (.astore_n 2, 1) := by decide +kernel
theorem dL_law_16 : decode cL_law 16 = .ok (.iconst 0, 1) := by decide +kernel
theorem dL_law_17 : decode cL_law 17 = .ok (.istore_n 3, 1) := by decide +kernel
theorem dL_law_18 : decode cL_law 18 = .ok (.iload_n 3, 1) := by decide +kernel
theorem dL_law_19 : decode cL_law 19 = .ok (.aload_n 0, 1) := by decide +kernel
theorem dL_law_20 : decode cL_law 20 = .ok (.arraylength, 1) := by decide +kernel
theorem dL_law_21 : decode cL_law 21 = .ok (.iconst 5, 1) := by decide +kernel
theorem dL_law_22 : decode cL_law 22 = .ok (.isub, 1) := by decide +kernel
theorem dL_law_23 : decode cL_law 23 = .ok (.if_icmp .gt 425, 3) := by decide +kernel
theorem dL_law_26 : decode cL_law 26 = .ok (.aload_n 0, 1) := by decide +kernel
theorem dL_law_27 : decode cL_law 27 = .ok (.iload_n 3, 1) := by decide +kernel
theorem dL_law_28 : decode cL_law 28 = .ok (.iaload, 1) := by decide +kernel
theorem dL_law_29 : decode cL_law 29 = .ok (.bipush 15, 2) := by decide +kernel
theorem dL_law_31 : decode cL_law 31 = .ok (.iand, 1) := by decide +kernel
theorem dL_law_32 : decode cL_law 32 = .ok (.tableswitch 410 0 11 #[64, 87, 140, 183, 216, 239, 272, 295, 328, 351, 374, 397], 64) := by decide +kernel
theorem dL_law_96 : decode cL_law 96 = .ok (.aload_n 1, 1) := by decide +kernel
theorem dL_law_97 : decode cL_law 97 = .ok (.aload_n 0, 1) := by decide +kernel
theorem dL_law_98 : decode cL_law 98 = .ok (.iload_n 3, 1) := by decide +kernel
theorem dL_law_99 : decode cL_law 99 = .ok (.iconst 1, 1) := by decide +kernel
theorem dL_law_100 : decode cL_law 100 = .ok (.iadd, 1) := by decide +kernel
theorem dL_law_101 : decode cL_law 101 = .ok (.iaload, 1) := by decide +kernel
theorem dL_law_102 : decode cL_law 102 = .ok (.invokevirtual 13, 3) := by decide +kernel
theorem dL_law_105 : decode cL_law 105 = .ok (.aload_n 2, 1) := by decide +kernel
theorem dL_law_106 : decode cL_law 106 = .ok (.aload_n 0, 1) := by decide +kernel
theorem dL_law_107 : decode cL_law 107 = .ok (.iload_n 3, 1) := by decide +kernel
theorem dL_law_108 : decode cL_law 108 = .ok (.iconst 1, 1) := by decide +kernel
theorem dL_law_109 : decode cL_law 109 = .ok (.iadd, 1) := by decide +kernel
theorem dL_law_110 : decode cL_law 110 = .ok (.iaload, 1) := by decide +kernel
theorem dL_law_111 : decode cL_law 111 = .ok (.invokevirtual 17, 3) := by decide +kernel
theorem dL_law_114 : decode cL_law 114 = .ok (.if_icmp .eq 328, 3) := by decide +kernel
theorem dL_law_117 : decode cL_law 117 = .ok (.iconst 0, 1) := by decide +kernel
theorem dL_law_118 : decode cL_law 118 = .ok (.ireturn, 1) := by decide +kernel
theorem dL_law_119 : decode cL_law 119 = .ok (.aload_n 1, 1) := by decide +kernel
theorem dL_law_120 : decode cL_law 120 = .ok (.aload_n 0, 1) := by decide +kernel
theorem dL_law_121 : decode cL_law 121 = .ok (.iload_n 3, 1) := by decide +kernel
theorem dL_law_122 : decode cL_law 122 = .ok (.iconst 1, 1) := by decide +kernel
theorem dL_law_123 : decode cL_law 123 = .ok (.iadd, 1) := by decide +kernel
theorem dL_law_124 : decode cL_law 124 = .ok (.iaload, 1) := by decide +kernel
theorem dL_law_125 : decode cL_law 125 = .ok (.aload_n 0, 1) := by decide +kernel
theorem dL_law_126 : decode cL_law 126 = .ok (.iload_n 3, 1) := by decide +kernel
theorem dL_law_127 : decode cL_law 127 = .ok (.iconst 2, 1) := by decide +kernel
theorem dL_law_128 : decode cL_law 128 = .ok (.iadd, 1) := by decide +kernel
theorem dL_law_129 : decode cL_law 129 = .ok (.iaload, 1) := by decide +kernel
theorem dL_law_130 : decode cL_law 130 = .ok (.aload_n 0, 1) := by decide +kernel
theorem dL_law_131 : decode cL_law 131 = .ok (.iload_n 3, 1) := by decide +kernel
theorem dL_law_132 : decode cL_law 132 = .ok (.iconst 3, 1) := by decide +kernel
theorem dL_law_133 : decode cL_law 133 = .ok (.iadd, 1) := by decide +kernel
theorem dL_law_134 : decode cL_law 134 = .ok (.iaload, 1) := by decide +kernel
theorem dL_law_135 : decode cL_law 135 = .ok (.aload_n 0, 1) := by decide +kernel
theorem dL_law_136 : decode cL_law 136 = .ok (.iload_n 3, 1) := by decide +kernel
theorem dL_law_137 : decode cL_law 137 = .ok (.iconst 4, 1) := by decide +kernel
theorem dL_law_138 : decode cL_law 138 = .ok (.iadd, 1) := by decide +kernel
theorem dL_law_139 : decode cL_law 139 = .ok (.iaload, 1) := by decide +kernel
theorem dL_law_140 : decode cL_law 140 = .ok (.invokevirtual 18, 3) := by decide +kernel
theorem dL_law_143 : decode cL_law 143 = .ok (.aload_n 2, 1) := by decide +kernel
theorem dL_law_144 : decode cL_law 144 = .ok (.aload_n 0, 1) := by decide +kernel
theorem dL_law_145 : decode cL_law 145 = .ok (.iload_n 3, 1) := by decide +kernel
theorem dL_law_146 : decode cL_law 146 = .ok (.iconst 1, 1) := by decide +kernel
theorem dL_law_147 : decode cL_law 147 = .ok (.iadd, 1) := by decide +kernel
theorem dL_law_148 : decode cL_law 148 = .ok (.iaload, 1) := by decide +kernel
theorem dL_law_149 : decode cL_law 149 = .ok (.aload_n 0, 1) := by decide +kernel
theorem dL_law_150 : decode cL_law 150 = .ok (.iload_n 3, 1) := by decide +kernel
theorem dL_law_151 : decode cL_law 151 = .ok (.iconst 2, 1) := by decide +kernel
theorem dL_law_152 : decode cL_law 152 = .ok (.iadd, 1) := by decide +kernel
theorem dL_law_153 : decode cL_law 153 = .ok (.iaload, 1) := by decide +kernel
theorem dL_law_154 : decode cL_law 154 = .ok (.aload_n 0, 1) := by decide +kernel
theorem dL_law_155 : decode cL_law 155 = .ok (.iload_n 3, 1) := by decide +kernel
theorem dL_law_156 : decode cL_law 156 = .ok (.iconst 3, 1) := by decide +kernel
theorem dL_law_157 : decode cL_law 157 = .ok (.iadd, 1) := by decide +kernel
theorem dL_law_158 : decode cL_law 158 = .ok (.iaload, 1) := by decide +kernel
theorem dL_law_159 : decode cL_law 159 = .ok (.aload_n 0, 1) := by decide +kernel
theorem dL_law_160 : decode cL_law 160 = .ok (.iload_n 3, 1) := by decide +kernel
theorem dL_law_161 : decode cL_law 161 = .ok (.iconst 4, 1) := by decide +kernel
theorem dL_law_162 : decode cL_law 162 = .ok (.iadd, 1) := by decide +kernel
theorem dL_law_163 : decode cL_law 163 = .ok (.iaload, 1) := by decide +kernel
theorem dL_law_164 : decode cL_law 164 = .ok (.invokevirtual 22, 3) := by decide +kernel
theorem dL_law_167 : decode cL_law 167 = .ok (.if_icmp .eq 275, 3) := by decide +kernel
theorem dL_law_170 : decode cL_law 170 = .ok (.iconst 0, 1) := by decide +kernel
theorem dL_law_171 : decode cL_law 171 = .ok (.ireturn, 1) := by decide +kernel
theorem dL_law_172 : decode cL_law 172 = .ok (.aload_n 1, 1) := by decide +kernel
theorem dL_law_173 : decode cL_law 173 = .ok (.aload_n 0, 1) := by decide +kernel
theorem dL_law_174 : decode cL_law 174 = .ok (.iload_n 3, 1) := by decide +kernel
theorem dL_law_175 : decode cL_law 175 = .ok (.iconst 1, 1) := by decide +kernel
theorem dL_law_176 : decode cL_law 176 = .ok (.iadd, 1) := by decide +kernel
theorem dL_law_177 : decode cL_law 177 = .ok (.iaload, 1) := by decide +kernel
theorem dL_law_178 : decode cL_law 178 = .ok (.aload_n 0, 1) := by decide +kernel
theorem dL_law_179 : decode cL_law 179 = .ok (.iload_n 3, 1) := by decide +kernel
theorem dL_law_180 : decode cL_law 180 = .ok (.iconst 2, 1) := by decide +kernel
theorem dL_law_181 : decode cL_law 181 = .ok (.iadd, 1) := by decide +kernel
theorem dL_law_182 : decode cL_law 182 = .ok (.iaload, 1) := by decide +kernel
theorem dL_law_183 : decode cL_law 183 = .ok (.aload_n 0, 1) := by decide +kernel
theorem dL_law_184 : decode cL_law 184 = .ok (.iload_n 3, 1) := by decide +kernel
theorem dL_law_185 : decode cL_law 185 = .ok (.iconst 3, 1) := by decide +kernel
theorem dL_law_186 : decode cL_law 186 = .ok (.iadd, 1) := by decide +kernel
theorem dL_law_187 : decode cL_law 187 = .ok (.iaload, 1) := by decide +kernel
theorem dL_law_188 : decode cL_law 188 = .ok (.invokevirtual 23, 3) := by decide +kernel
theorem dL_law_191 : decode cL_law 191 = .ok (.aload_n 2, 1) := by decide +kernel
theorem dL_law_192 : decode cL_law 192 = .ok (.aload_n 0, 1) := by decide +kernel
theorem dL_law_193 : decode cL_law 193 = .ok (.iload_n 3, 1) := by decide +kernel
theorem dL_law_194 : decode cL_law 194 = .ok (.iconst 1, 1) := by decide +kernel
theorem dL_law_195 : decode cL_law 195 = .ok (.iadd, 1) := by decide +kernel
theorem dL_law_196 : decode cL_law 196 = .ok (.iaload, 1) := by decide +kernel
theorem dL_law_197 : decode cL_law 197 = .ok (.aload_n 0, 1) := by decide +kernel
theorem dL_law_198 : decode cL_law 198 = .ok (.iload_n 3, 1) := by decide +kernel
theorem dL_law_199 : decode cL_law 199 = .ok (.iconst 2, 1) := by decide +kernel
theorem dL_law_200 : decode cL_law 200 = .ok (.iadd, 1) := by decide +kernel
theorem dL_law_201 : decode cL_law 201 = .ok (.iaload, 1) := by decide +kernel
theorem dL_law_202 : decode cL_law 202 = .ok (.aload_n 0, 1) := by decide +kernel
theorem dL_law_203 : decode cL_law 203 = .ok (.iload_n 3, 1) := by decide +kernel
theorem dL_law_204 : decode cL_law 204 = .ok (.iconst 3, 1) := by decide +kernel
theorem dL_law_205 : decode cL_law 205 = .ok (.iadd, 1) := by decide +kernel
theorem dL_law_206 : decode cL_law 206 = .ok (.iaload, 1) := by decide +kernel
theorem dL_law_207 : decode cL_law 207 = .ok (.invokevirtual 27, 3) := by decide +kernel
theorem dL_law_210 : decode cL_law 210 = .ok (.if_icmp .eq 232, 3) := by decide +kernel
theorem dL_law_213 : decode cL_law 213 = .ok (.iconst 0, 1) := by decide +kernel
theorem dL_law_214 : decode cL_law 214 = .ok (.ireturn, 1) := by decide +kernel
theorem dL_law_215 : decode cL_law 215 = .ok (.aload_n 1, 1) := by decide +kernel
theorem dL_law_216 : decode cL_law 216 = .ok (.aload_n 0, 1) := by decide +kernel
theorem dL_law_217 : decode cL_law 217 = .ok (.iload_n 3, 1) := by decide +kernel
theorem dL_law_218 : decode cL_law 218 = .ok (.iconst 1, 1) := by decide +kernel
theorem dL_law_219 : decode cL_law 219 = .ok (.iadd, 1) := by decide +kernel
theorem dL_law_220 : decode cL_law 220 = .ok (.iaload, 1) := by decide +kernel
theorem dL_law_221 : decode cL_law 221 = .ok (.aload_n 0, 1) := by decide +kernel
theorem dL_law_222 : decode cL_law 222 = .ok (.iload_n 3, 1) := by decide +kernel
theorem dL_law_223 : decode cL_law 223 = .ok (.iconst 2, 1) := by decide +kernel
theorem dL_law_224 : decode cL_law 224 = .ok (.iadd, 1) := by decide +kernel
theorem dL_law_225 : decode cL_law 225 = .ok (.iaload, 1) := by decide +kernel
theorem dL_law_226 : decode cL_law 226 = .ok (.invokevirtual 28, 3) := by decide +kernel
theorem dL_law_229 : decode cL_law 229 = .ok (.aload_n 2, 1) := by decide +kernel
theorem dL_law_230 : decode cL_law 230 = .ok (.aload_n 0, 1) := by decide +kernel
theorem dL_law_231 : decode cL_law 231 = .ok (.iload_n 3, 1) := by decide +kernel
theorem dL_law_232 : decode cL_law 232 = .ok (.iconst 1, 1) := by decide +kernel
theorem dL_law_233 : decode cL_law 233 = .ok (.iadd, 1) := by decide +kernel
theorem dL_law_234 : decode cL_law 234 = .ok (.iaload, 1) := by decide +kernel
theorem dL_law_235 : decode cL_law 235 = .ok (.aload_n 0, 1) := by decide +kernel
theorem dL_law_236 : decode cL_law 236 = .ok (.iload_n 3, 1) := by decide +kernel
theorem dL_law_237 : decode cL_law 237 = .ok (.iconst 2, 1) := by decide +kernel
theorem dL_law_238 : decode cL_law 238 = .ok (.iadd, 1) := by decide +kernel
theorem dL_law_239 : decode cL_law 239 = .ok (.iaload, 1) := by decide +kernel
theorem dL_law_240 : decode cL_law 240 = .ok (.invokevirtual 32, 3) := by decide +kernel
theorem dL_law_243 : decode cL_law 243 = .ok (.if_icmp .eq 199, 3) := by decide +kernel
theorem dL_law_246 : decode cL_law 246 = .ok (.iconst 0, 1) := by decide +kernel
theorem dL_law_247 : decode cL_law 247 = .ok (.ireturn, 1) := by decide +kernel
theorem dL_law_248 : decode cL_law 248 = .ok (.aload_n 1, 1) := by decide +kernel
theorem dL_law_249 : decode cL_law 249 = .ok (.aload_n 0, 1) := by decide +kernel
theorem dL_law_250 : decode cL_law 250 = .ok (.iload_n 3, 1) := by decide +kernel
theorem dL_law_251 : decode cL_law 251 = .ok (.iconst 1, 1) := by decide +kernel
theorem dL_law_252 : decode cL_law 252 = .ok (.iadd, 1) := by decide +kernel
theorem dL_law_253 : decode cL_law 253 = .ok (.iaload, 1) := by decide +kernel
theorem dL_law_254 : decode cL_law 254 = .ok (.invokevirtual 33, 3) := by decide +kernel
theorem dL_law_257 : decode cL_law 257 = .ok (.aload_n 2, 1) := by decide +kernel
theorem dL_law_258 : decode cL_law 258 = .ok (.aload_n 0, 1) := by decide +kernel
theorem dL_law_259 : decode cL_law 259 = .ok (.iload_n 3, 1) := by decide +kernel
theorem dL_law_260 : decode cL_law 260 = .ok (.iconst 1, 1) := by decide +kernel
theorem dL_law_261 : decode cL_law 261 = .ok (.iadd, 1) := by decide +kernel
theorem dL_law_262 : decode cL_law 262 = .ok (.iaload, 1) := by decide +kernel
theorem dL_law_263 : decode cL_law 263 = .ok (.invokevirtual 36, 3) := by decide +kernel
theorem dL_law_266 : decode cL_law 266 = .ok (.if_icmp .eq 176, 3) := by decide +kernel
theorem dL_law_269 : decode cL_law 269 = .ok (.iconst 0, 1) := by decide +kernel
theorem dL_law_270 : decode cL_law 270 = .ok (.ireturn, 1) := by decide +kernel
theorem dL_law_271 : decode cL_law 271 = .ok (.aload_n 1, 1) := by decide +kernel
theorem dL_law_272 : decode cL_law 272 = .ok (.aload_n 0, 1) := by decide +kernel
theorem dL_law_273 : decode cL_law 273 = .ok (.iload_n 3, 1) := by decide +kernel
theorem dL_law_274 : decode cL_law 274 = .ok (.iconst 1, 1) := by decide +kernel
theorem dL_law_275 : decode cL_law 275 = .ok (.iadd, 1) := by decide +kernel
theorem dL_law_276 : decode cL_law 276 = .ok (.iaload, 1) := by decide +kernel
theorem dL_law_277 : decode cL_law 277 = .ok (.aload_n 0, 1) := by decide +kernel
theorem dL_law_278 : decode cL_law 278 = .ok (.iload_n 3, 1) := by decide +kernel
theorem dL_law_279 : decode cL_law 279 = .ok (.iconst 2, 1) := by decide +kernel
theorem dL_law_280 : decode cL_law 280 = .ok (.iadd, 1) := by decide +kernel
theorem dL_law_281 : decode cL_law 281 = .ok (.iaload, 1) := by decide +kernel
theorem dL_law_282 : decode cL_law 282 = .ok (.invokevirtual 37, 3) := by decide +kernel
theorem dL_law_285 : decode cL_law 285 = .ok (.aload_n 2, 1) := by decide +kernel
theorem dL_law_286 : decode cL_law 286 = .ok (.aload_n 0, 1) := by decide +kernel
theorem dL_law_287 : decode cL_law 287 = .ok (.iload_n 3, 1) := by decide +kernel
theorem dL_law_288 : decode cL_law 288 = .ok (.iconst 1, 1) := by decide +kernel
theorem dL_law_289 : decode cL_law 289 = .ok (.iadd, 1) := by decide +kernel
theorem dL_law_290 : decode cL_law 290 = .ok (.iaload, 1) := by decide +kernel
theorem dL_law_291 : decode cL_law 291 = .ok (.aload_n 0, 1) := by decide +kernel
theorem dL_law_292 : decode cL_law 292 = .ok (.iload_n 3, 1) := by decide +kernel
theorem dL_law_293 : decode cL_law 293 = .ok (.iconst 2, 1) := by decide +kernel
theorem dL_law_294 : decode cL_law 294 = .ok (.iadd, 1) := by decide +kernel
theorem dL_law_295 : decode cL_law 295 = .ok (.iaload, 1) := by decide +kernel
theorem dL_law_296 : decode cL_law 296 = .ok (.invokevirtual 40, 3) := by decide +kernel
theorem dL_law_299 : decode cL_law 299 = .ok (.if_icmp .eq 143, 3) := by decide +kernel
theorem dL_law_302 : decode cL_law 302 = .ok (.iconst 0, 1) := by decide +kernel
theorem dL_law_303 : decode cL_law 303 = .ok (.ireturn, 1) := by decide +kernel
theorem dL_law_304 : decode cL_law 304 = .ok (.aload_n 1, 1) := by decide +kernel
theorem dL_law_305 : decode cL_law 305 = .ok (.aload_n 0, 1) := by decide +kernel
theorem dL_law_306 : decode cL_law 306 = .ok (.iload_n 3, 1) := by decide +kernel
theorem dL_law_307 : decode cL_law 307 = .ok (.iconst 1, 1) := by decide +kernel
theorem dL_law_308 : decode cL_law 308 = .ok (.iadd, 1) := by decide +kernel
theorem dL_law_309 : decode cL_law 309 = .ok (.iaload, 1) := by decide +kernel
theorem dL_law_310 : decode cL_law 310 = .ok (.invokevirtual 41, 3) := by decide +kernel
theorem dL_law_313 : decode cL_law 313 = .ok (.aload_n 2, 1) := by decide +kernel
theorem dL_law_314 : decode cL_law 314 = .ok (.aload_n 0, 1) := by decide +kernel
theorem dL_law_315 : decode cL_law 315 = .ok (.iload_n 3, 1) := by decide +kernel
theorem dL_law_316 : decode cL_law 316 = .ok (.iconst 1, 1) := by decide +kernel
theorem dL_law_317 : decode cL_law 317 = .ok (.iadd, 1) := by decide +kernel
theorem dL_law_318 : decode cL_law 318 = .ok (.iaload, 1) := by decide +kernel
theorem dL_law_319 : decode cL_law 319 = .ok (.invokevirtual 44, 3) := by decide +kernel
theorem dL_law_322 : decode cL_law 322 = .ok (.if_icmp .eq 120, 3) := by decide +kernel
theorem dL_law_325 : decode cL_law 325 = .ok (.iconst 0, 1) := by decide +kernel
theorem dL_law_326 : decode cL_law 326 = .ok (.ireturn, 1) := by decide +kernel
theorem dL_law_327 : decode cL_law 327 = .ok (.aload_n 1, 1) := by decide +kernel
theorem dL_law_328 : decode cL_law 328 = .ok (.aload_n 0, 1) := by decide +kernel
theorem dL_law_329 : decode cL_law 329 = .ok (.iload_n 3, 1) := by decide +kernel
theorem dL_law_330 : decode cL_law 330 = .ok (.iconst 1, 1) := by decide +kernel
theorem dL_law_331 : decode cL_law 331 = .ok (.iadd, 1) := by decide +kernel
theorem dL_law_332 : decode cL_law 332 = .ok (.iaload, 1) := by decide +kernel
theorem dL_law_333 : decode cL_law 333 = .ok (.aload_n 0, 1) := by decide +kernel
theorem dL_law_334 : decode cL_law 334 = .ok (.iload_n 3, 1) := by decide +kernel
theorem dL_law_335 : decode cL_law 335 = .ok (.iconst 2, 1) := by decide +kernel
theorem dL_law_336 : decode cL_law 336 = .ok (.iadd, 1) := by decide +kernel
theorem dL_law_337 : decode cL_law 337 = .ok (.iaload, 1) := by decide +kernel
theorem dL_law_338 : decode cL_law 338 = .ok (.invokevirtual 45, 3) := by decide +kernel
theorem dL_law_341 : decode cL_law 341 = .ok (.aload_n 2, 1) := by decide +kernel
theorem dL_law_342 : decode cL_law 342 = .ok (.aload_n 0, 1) := by decide +kernel
theorem dL_law_343 : decode cL_law 343 = .ok (.iload_n 3, 1) := by decide +kernel
theorem dL_law_344 : decode cL_law 344 = .ok (.iconst 1, 1) := by decide +kernel
theorem dL_law_345 : decode cL_law 345 = .ok (.iadd, 1) := by decide +kernel
theorem dL_law_346 : decode cL_law 346 = .ok (.iaload, 1) := by decide +kernel
theorem dL_law_347 : decode cL_law 347 = .ok (.aload_n 0, 1) := by decide +kernel
theorem dL_law_348 : decode cL_law 348 = .ok (.iload_n 3, 1) := by decide +kernel
theorem dL_law_349 : decode cL_law 349 = .ok (.iconst 2, 1) := by decide +kernel
theorem dL_law_350 : decode cL_law 350 = .ok (.iadd, 1) := by decide +kernel
theorem dL_law_351 : decode cL_law 351 = .ok (.iaload, 1) := by decide +kernel
theorem dL_law_352 : decode cL_law 352 = .ok (.invokevirtual 48, 3) := by decide +kernel
theorem dL_law_355 : decode cL_law 355 = .ok (.if_icmp .eq 87, 3) := by decide +kernel
theorem dL_law_358 : decode cL_law 358 = .ok (.iconst 0, 1) := by decide +kernel
theorem dL_law_359 : decode cL_law 359 = .ok (.ireturn, 1) := by decide +kernel
theorem dL_law_360 : decode cL_law 360 = .ok (.aload_n 1, 1) := by decide +kernel
theorem dL_law_361 : decode cL_law 361 = .ok (.aload_n 0, 1) := by decide +kernel
theorem dL_law_362 : decode cL_law 362 = .ok (.iload_n 3, 1) := by decide +kernel
theorem dL_law_363 : decode cL_law 363 = .ok (.iconst 1, 1) := by decide +kernel
theorem dL_law_364 : decode cL_law 364 = .ok (.iadd, 1) := by decide +kernel
theorem dL_law_365 : decode cL_law 365 = .ok (.iaload, 1) := by decide +kernel
theorem dL_law_366 : decode cL_law 366 = .ok (.invokevirtual 49, 3) := by decide +kernel
theorem dL_law_369 : decode cL_law 369 = .ok (.aload_n 2, 1) := by decide +kernel
theorem dL_law_370 : decode cL_law 370 = .ok (.aload_n 0, 1) := by decide +kernel
theorem dL_law_371 : decode cL_law 371 = .ok (.iload_n 3, 1) := by decide +kernel
theorem dL_law_372 : decode cL_law 372 = .ok (.iconst 1, 1) := by decide +kernel
theorem dL_law_373 : decode cL_law 373 = .ok (.iadd, 1) := by decide +kernel
theorem dL_law_374 : decode cL_law 374 = .ok (.iaload, 1) := by decide +kernel
theorem dL_law_375 : decode cL_law 375 = .ok (.invokevirtual 52, 3) := by decide +kernel
theorem dL_law_378 : decode cL_law 378 = .ok (.if_icmp .eq 64, 3) := by decide +kernel
theorem dL_law_381 : decode cL_law 381 = .ok (.iconst 0, 1) := by decide +kernel
theorem dL_law_382 : decode cL_law 382 = .ok (.ireturn, 1) := by decide +kernel
theorem dL_law_383 : decode cL_law 383 = .ok (.aload_n 1, 1) := by decide +kernel
theorem dL_law_384 : decode cL_law 384 = .ok (.aload_n 0, 1) := by decide +kernel
theorem dL_law_385 : decode cL_law 385 = .ok (.iload_n 3, 1) := by decide +kernel
theorem dL_law_386 : decode cL_law 386 = .ok (.iconst 1, 1) := by decide +kernel
theorem dL_law_387 : decode cL_law 387 = .ok (.iadd, 1) := by decide +kernel
theorem dL_law_388 : decode cL_law 388 = .ok (.iaload, 1) := by decide +kernel
theorem dL_law_389 : decode cL_law 389 = .ok (.invokevirtual 53, 3) := by decide +kernel
theorem dL_law_392 : decode cL_law 392 = .ok (.aload_n 2, 1) := by decide +kernel
theorem dL_law_393 : decode cL_law 393 = .ok (.aload_n 0, 1) := by decide +kernel
theorem dL_law_394 : decode cL_law 394 = .ok (.iload_n 3, 1) := by decide +kernel
theorem dL_law_395 : decode cL_law 395 = .ok (.iconst 1, 1) := by decide +kernel
theorem dL_law_396 : decode cL_law 396 = .ok (.iadd, 1) := by decide +kernel
theorem dL_law_397 : decode cL_law 397 = .ok (.iaload, 1) := by decide +kernel
theorem dL_law_398 : decode cL_law 398 = .ok (.invokevirtual 56, 3) := by decide +kernel
theorem dL_law_401 : decode cL_law 401 = .ok (.if_icmp .eq 41, 3) := by decide +kernel
theorem dL_law_404 : decode cL_law 404 = .ok (.iconst 0, 1) := by decide +kernel
theorem dL_law_405 : decode cL_law 405 = .ok (.ireturn, 1) := by decide +kernel
theorem dL_law_406 : decode cL_law 406 = .ok (.aload_n 1, 1) := by decide +kernel
theorem dL_law_407 : decode cL_law 407 = .ok (.aload_n 0, 1) := by decide +kernel
theorem dL_law_408 : decode cL_law 408 = .ok (.iload_n 3, 1) := by decide +kernel
theorem dL_law_409 : decode cL_law 409 = .ok (.iconst 1, 1) := by decide +kernel
theorem dL_law_410 : decode cL_law 410 = .ok (.iadd, 1) := by decide +kernel
theorem dL_law_411 : decode cL_law 411 = .ok (.iaload, 1) := by decide +kernel
theorem dL_law_412 : decode cL_law 412 = .ok (.invokevirtual 57, 3) := by decide +kernel
theorem dL_law_415 : decode cL_law 415 = .ok (.aload_n 2, 1) := by decide +kernel
theorem dL_law_416 : decode cL_law 416 = .ok (.aload_n 0, 1) := by decide +kernel
theorem dL_law_417 : decode cL_law 417 = .ok (.iload_n 3, 1) := by decide +kernel
theorem dL_law_418 : decode cL_law 418 = .ok (.iconst 1, 1) := by decide +kernel
theorem dL_law_419 : decode cL_law 419 = .ok (.iadd, 1) := by decide +kernel
theorem dL_law_420 : decode cL_law 420 = .ok (.iaload, 1) := by decide +kernel
theorem dL_law_421 : decode cL_law 421 = .ok (.invokevirtual 60, 3) := by decide +kernel
theorem dL_law_424 : decode cL_law 424 = .ok (.if_icmp .eq 18, 3) := by decide +kernel
theorem dL_law_427 : decode cL_law 427 = .ok (.iconst 0, 1) := by decide +kernel
theorem dL_law_428 : decode cL_law 428 = .ok (.ireturn, 1) := by decide +kernel
theorem dL_law_429 : decode cL_law 429 = .ok (.aload_n 1, 1) := by decide +kernel
theorem dL_law_430 : decode cL_law 430 = .ok (.invokevirtual 61, 3) := by decide +kernel
theorem dL_law_433 : decode cL_law 433 = .ok (.aload_n 2, 1) := by decide +kernel
theorem dL_law_434 : decode cL_law 434 = .ok (.invokevirtual 65, 3) := by decide +kernel
theorem dL_law_437 : decode cL_law 437 = .ok (.if_icmp .eq 5, 3) := by decide +kernel
theorem dL_law_440 : decode cL_law 440 = .ok (.iconst 0, 1) := by decide +kernel
theorem dL_law_441 : decode cL_law 441 = .ok (.ireturn, 1) := by decide +kernel
theorem dL_law_442 : decode cL_law 442 = .ok (.iinc 3 5, 3) := by decide +kernel
theorem dL_law_445 : decode cL_law 445 = .ok (.goto (-427), 3) := by decide +kernel
theorem dL_law_448 : decode cL_law 448 = .ok (.iconst 1, 1) := by decide +kernel
theorem dL_law_449 : decode cL_law 449 = .ok (.ireturn, 1) := by decide +kernel
end
section
theorem wd_0 : Cond.classLink RL 7 RX7 ∈ wsL_law := List.mem_of_getElem? (i := 0) (by decide +kernel)
theorem wd_1 : Cond.instantiable RX7 9 ∈ wsL_law := List.mem_of_getElem? (i := 1) (by decide +kernel)
theorem wd_2 : Cond.initialized RX7 ∈ wsL_law := List.mem_of_getElem? (i := 2) (by decide +kernel)
theorem wd_3 : Cond.classLink RL 10 RX8 ∈ wsL_law := List.mem_of_getElem? (i := 3) (by decide +kernel)
theorem wd_4 : Cond.instantiable RX8 34 ∈ wsL_law := List.mem_of_getElem? (i := 4) (by decide +kernel)
theorem wd_5 : Cond.initialized RX8 ∈ wsL_law := List.mem_of_getElem? (i := 5) (by decide +kernel)
theorem wd_6 : Cond.methodLink RL 9 yX7_init ∈ wsL_law := List.mem_of_getElem? (i := 6) (by decide +kernel)
theorem wd_7 : Cond.instanceMethod yX7_init ∈ wsL_law := List.mem_of_getElem? (i := 7) (by decide +kernel)
theorem wd_8 : Cond.code yX7_init cX7_init 2 none ∈ wsL_law := List.mem_of_getElem? (i := 8) (by decide +kernel)
theorem wd_9 : Cond.methodLink RX7 1 objectInit ∈ wsL_law := List.mem_of_getElem? (i := 9) (by decide +kernel)
theorem wd_10 : Cond.instanceMethod objectInit ∈ wsL_law := List.mem_of_getElem? (i := 10) (by decide +kernel)
theorem wd_11 : Cond.code objectInit ⟨#[0xb1]⟩ 1 none ∈ wsL_law := List.mem_of_getElem? (i := 11) (by decide +kernel)
theorem wd_12 : Cond.classLink RX7 7 RX2 ∈ wsL_law := List.mem_of_getElem? (i := 12) (by decide +kernel)
theorem wd_13 : Cond.instantiable RX2 3 ∈ wsL_law := List.mem_of_getElem? (i := 13) (by decide +kernel)
theorem wd_14 : Cond.initialized RX2 ∈ wsL_law := List.mem_of_getElem? (i := 14) (by decide +kernel)
theorem wd_15 : Cond.fieldLink RX7 10 "FactShares" "facts" "LFactShares$Facts;" ∈ wsL_law := List.mem_of_getElem? (i := 15) (by decide +kernel)
theorem wd_16 : Cond.classLink RX7 16 RX4 ∈ wsL_law := List.mem_of_getElem? (i := 16) (by decide +kernel)
theorem wd_17 : Cond.fieldLink RX7 18 "FactShares" "shares" "[LFactShares$Share;" ∈ wsL_law := List.mem_of_getElem? (i := 17) (by decide +kernel)
theorem wd_18 : Cond.classLink RX7 22 RX3 ∈ wsL_law := List.mem_of_getElem? (i := 18) (by decide +kernel)
theorem wd_19 : Cond.instantiable RX3 3 ∈ wsL_law := List.mem_of_getElem? (i := 19) (by decide +kernel)
theorem wd_20 : Cond.initialized RX3 ∈ wsL_law := List.mem_of_getElem? (i := 20) (by decide +kernel)
theorem wd_21 : Cond.fieldLink RX7 25 "FactShares" "line" "LFactShares$Line;" ∈ wsL_law := List.mem_of_getElem? (i := 21) (by decide +kernel)
theorem wd_22 : Cond.classLink RX7 29 RX1 ∈ wsL_law := List.mem_of_getElem? (i := 22) (by decide +kernel)
theorem wd_23 : Cond.instantiable RX1 5 ∈ wsL_law := List.mem_of_getElem? (i := 23) (by decide +kernel)
theorem wd_24 : Cond.initialized RX1 ∈ wsL_law := List.mem_of_getElem? (i := 24) (by decide +kernel)
theorem wd_25 : Cond.fieldLink RX7 32 "FactShares" "crew" "LFactShares$Crew;" ∈ wsL_law := List.mem_of_getElem? (i := 25) (by decide +kernel)
theorem wd_26 : Cond.classLink RX7 36 RX5 ∈ wsL_law := List.mem_of_getElem? (i := 26) (by decide +kernel)
theorem wd_27 : Cond.instantiable RX5 6 ∈ wsL_law := List.mem_of_getElem? (i := 27) (by decide +kernel)
theorem wd_28 : Cond.initialized RX5 ∈ wsL_law := List.mem_of_getElem? (i := 28) (by decide +kernel)
theorem wd_29 : Cond.fieldLink RX7 39 "FactShares" "tally" "LFactShares$Tally;" ∈ wsL_law := List.mem_of_getElem? (i := 29) (by decide +kernel)
theorem wd_30 : Cond.fieldLink RX7 43 "FactShares" "shareCount" "I" ∈ wsL_law := List.mem_of_getElem? (i := 30) (by decide +kernel)
theorem wd_31 : Cond.fieldLink RX7 47 "FactShares" "undone" "I" ∈ wsL_law := List.mem_of_getElem? (i := 31) (by decide +kernel)
theorem wd_32 : Cond.fieldLink RX7 50 "FactShares" "widenFrom" "I" ∈ wsL_law := List.mem_of_getElem? (i := 32) (by decide +kernel)
theorem wd_33 : Cond.fieldLink RX7 53 "FactShares" "budget" "I" ∈ wsL_law := List.mem_of_getElem? (i := 33) (by decide +kernel)
theorem wd_34 : Cond.instantiable RX4 9 ∈ wsL_law := List.mem_of_getElem? (i := 34) (by decide +kernel)
theorem wd_35 : Cond.initialized RX4 ∈ wsL_law := List.mem_of_getElem? (i := 35) (by decide +kernel)
theorem wd_36 : Cond.instanceMethod yX2_init ∈ wsL_law := List.mem_of_getElem? (i := 36) (by decide +kernel)
theorem wd_37 : Cond.code yX2_init cX2_init 1 none ∈ wsL_law := List.mem_of_getElem? (i := 37) (by decide +kernel)
theorem wd_38 : Cond.methodLink RX2 3 objectInit ∈ wsL_law := List.mem_of_getElem? (i := 38) (by decide +kernel)
theorem wd_39 : Cond.arrayClass .boolean ∈ wsL_law := List.mem_of_getElem? (i := 39) (by decide +kernel)
theorem wd_40 : Cond.fieldLink RX2 9 "FactShares$Facts" "known" "[Z" ∈ wsL_law := List.mem_of_getElem? (i := 40) (by decide +kernel)
theorem wd_41 : Cond.arrayClass .int ∈ wsL_law := List.mem_of_getElem? (i := 41) (by decide +kernel)
theorem wd_42 : Cond.fieldLink RX2 15 "FactShares$Facts" "low" "[I" ∈ wsL_law := List.mem_of_getElem? (i := 42) (by decide +kernel)
theorem wd_43 : Cond.fieldLink RX2 19 "FactShares$Facts" "high" "[I" ∈ wsL_law := List.mem_of_getElem? (i := 43) (by decide +kernel)
theorem wd_44 : Cond.instanceMethod yX3_init ∈ wsL_law := List.mem_of_getElem? (i := 44) (by decide +kernel)
theorem wd_45 : Cond.code yX3_init cX3_init 1 none ∈ wsL_law := List.mem_of_getElem? (i := 45) (by decide +kernel)
theorem wd_46 : Cond.methodLink RX3 3 objectInit ∈ wsL_law := List.mem_of_getElem? (i := 46) (by decide +kernel)
theorem wd_47 : Cond.classLink RX3 9 RX4 ∈ wsL_law := List.mem_of_getElem? (i := 47) (by decide +kernel)
theorem wd_48 : Cond.fieldLink RX3 11 "FactShares$Line" "waiting" "[LFactShares$Share;" ∈ wsL_law := List.mem_of_getElem? (i := 48) (by decide +kernel)
theorem wd_49 : Cond.fieldLink RX3 17 "FactShares$Line" "first" "I" ∈ wsL_law := List.mem_of_getElem? (i := 49) (by decide +kernel)
theorem wd_50 : Cond.fieldLink RX3 21 "FactShares$Line" "behindLast" "I" ∈ wsL_law := List.mem_of_getElem? (i := 50) (by decide +kernel)
theorem wd_51 : Cond.methodLink RX7 31 yX1_init ∈ wsL_law := List.mem_of_getElem? (i := 51) (by decide +kernel)
theorem wd_52 : Cond.instanceMethod yX1_init ∈ wsL_law := List.mem_of_getElem? (i := 52) (by decide +kernel)
theorem wd_53 : Cond.code yX1_init cX1_init 2 none ∈ wsL_law := List.mem_of_getElem? (i := 53) (by decide +kernel)
theorem wd_54 : Cond.methodLink RX1 3 objectInit ∈ wsL_law := List.mem_of_getElem? (i := 54) (by decide +kernel)
theorem wd_55 : Cond.classLink RX1 11 RX6 ∈ wsL_law := List.mem_of_getElem? (i := 55) (by decide +kernel)
theorem wd_56 : Cond.fieldLink RX1 13 "FactShares$Crew" "all" "[LFactShares$Worker;" ∈ wsL_law := List.mem_of_getElem? (i := 56) (by decide +kernel)
theorem wd_57 : Cond.fieldLink RX1 17 "FactShares$Crew" "left" "I" ∈ wsL_law := List.mem_of_getElem? (i := 57) (by decide +kernel)
theorem wd_58 : Cond.fieldLink RX1 21 "FactShares$Crew" "x" "I" ∈ wsL_law := List.mem_of_getElem? (i := 58) (by decide +kernel)
theorem wd_59 : Cond.fieldLink RX1 24 "FactShares$Crew" "turns" "I" ∈ wsL_law := List.mem_of_getElem? (i := 59) (by decide +kernel)
theorem wd_60 : Cond.constant RX1 27 (-2000000) ∈ wsL_law := List.mem_of_getElem? (i := 60) (by decide +kernel)
theorem wd_61 : Cond.fieldLink RX1 28 "FactShares$Crew" "latest" "I" ∈ wsL_law := List.mem_of_getElem? (i := 61) (by decide +kernel)
theorem wd_62 : Cond.instantiable RX6 6 ∈ wsL_law := List.mem_of_getElem? (i := 62) (by decide +kernel)
theorem wd_63 : Cond.initialized RX6 ∈ wsL_law := List.mem_of_getElem? (i := 63) (by decide +kernel)
theorem wd_64 : Cond.methodLink RX1 31 yX6_init ∈ wsL_law := List.mem_of_getElem? (i := 64) (by decide +kernel)
theorem wd_65 : Cond.instanceMethod yX6_init ∈ wsL_law := List.mem_of_getElem? (i := 65) (by decide +kernel)
theorem wd_66 : Cond.code yX6_init cX6_init 2 none ∈ wsL_law := List.mem_of_getElem? (i := 66) (by decide +kernel)
theorem wd_67 : Cond.methodLink RX6 1 objectInit ∈ wsL_law := List.mem_of_getElem? (i := 67) (by decide +kernel)
theorem wd_68 : Cond.classLink RX6 7 RX0 ∈ wsL_law := List.mem_of_getElem? (i := 68) (by decide +kernel)
theorem wd_69 : Cond.instantiable RX0 6 ∈ wsL_law := List.mem_of_getElem? (i := 69) (by decide +kernel)
theorem wd_70 : Cond.initialized RX0 ∈ wsL_law := List.mem_of_getElem? (i := 70) (by decide +kernel)
theorem wd_71 : Cond.fieldLink RX6 10 "FactShares$Worker" "bench" "LFactShares$Bench;" ∈ wsL_law := List.mem_of_getElem? (i := 71) (by decide +kernel)
theorem wd_72 : Cond.fieldLink RX6 16 "FactShares$Worker" "here" "Z" ∈ wsL_law := List.mem_of_getElem? (i := 72) (by decide +kernel)
theorem wd_73 : Cond.fieldLink RX6 20 "FactShares$Worker" "loseFrom" "I" ∈ wsL_law := List.mem_of_getElem? (i := 73) (by decide +kernel)
theorem wd_74 : Cond.fieldLink RX6 24 "FactShares$Worker" "share" "LFactShares$Share;" ∈ wsL_law := List.mem_of_getElem? (i := 74) (by decide +kernel)
theorem wd_75 : Cond.fieldLink RX6 28 "FactShares$Worker" "nextAct" "I" ∈ wsL_law := List.mem_of_getElem? (i := 75) (by decide +kernel)
theorem wd_76 : Cond.fieldLink RX6 31 "FactShares$Worker" "number" "I" ∈ wsL_law := List.mem_of_getElem? (i := 76) (by decide +kernel)
theorem wd_77 : Cond.instanceMethod yX0_init ∈ wsL_law := List.mem_of_getElem? (i := 77) (by decide +kernel)
theorem wd_78 : Cond.code yX0_init cX0_init 1 none ∈ wsL_law := List.mem_of_getElem? (i := 78) (by decide +kernel)
theorem wd_79 : Cond.methodLink RX0 1 objectInit ∈ wsL_law := List.mem_of_getElem? (i := 79) (by decide +kernel)
theorem wd_80 : Cond.fieldLink RX0 9 "FactShares$Bench" "low" "[I" ∈ wsL_law := List.mem_of_getElem? (i := 80) (by decide +kernel)
theorem wd_81 : Cond.fieldLink RX0 13 "FactShares$Bench" "high" "[I" ∈ wsL_law := List.mem_of_getElem? (i := 81) (by decide +kernel)
theorem wd_82 : Cond.fieldLink RX0 16 "FactShares$Bench" "height" "I" ∈ wsL_law := List.mem_of_getElem? (i := 82) (by decide +kernel)
theorem wd_83 : Cond.fieldLink RX0 20 "FactShares$Bench" "rowKnown" "[Z" ∈ wsL_law := List.mem_of_getElem? (i := 83) (by decide +kernel)
theorem wd_84 : Cond.fieldLink RX0 24 "FactShares$Bench" "rowLow" "[I" ∈ wsL_law := List.mem_of_getElem? (i := 84) (by decide +kernel)
theorem wd_85 : Cond.fieldLink RX0 27 "FactShares$Bench" "rowHigh" "[I" ∈ wsL_law := List.mem_of_getElem? (i := 85) (by decide +kernel)
theorem wd_86 : Cond.methodLink RX1 34 yX1_hire ∈ wsL_law := List.mem_of_getElem? (i := 86) (by decide +kernel)
theorem wd_87 : Cond.instanceMethod yX1_hire ∈ wsL_law := List.mem_of_getElem? (i := 87) (by decide +kernel)
theorem wd_88 : Cond.selects RX1 yX1_hire yX1_hire ∈ wsL_law := List.mem_of_getElem? (i := 88) (by decide +kernel)
theorem wd_89 : Cond.code yX1_hire cX1_hire 3 none ∈ wsL_law := List.mem_of_getElem? (i := 89) (by decide +kernel)
theorem wd_90 : Cond.fieldLink RX1 37 "FactShares$Worker" "here" "Z" ∈ wsL_law := List.mem_of_getElem? (i := 90) (by decide +kernel)
theorem wd_91 : Cond.fieldLink RX1 41 "FactShares$Worker" "loseFrom" "I" ∈ wsL_law := List.mem_of_getElem? (i := 91) (by decide +kernel)
theorem wd_92 : Cond.instanceMethod yX5_init ∈ wsL_law := List.mem_of_getElem? (i := 92) (by decide +kernel)
theorem wd_93 : Cond.code yX5_init cX5_init 1 none ∈ wsL_law := List.mem_of_getElem? (i := 93) (by decide +kernel)
theorem wd_94 : Cond.methodLink RX5 3 objectInit ∈ wsL_law := List.mem_of_getElem? (i := 94) (by decide +kernel)
theorem wd_95 : Cond.fieldLink RX5 9 "FactShares$Tally" "rounds" "I" ∈ wsL_law := List.mem_of_getElem? (i := 95) (by decide +kernel)
theorem wd_96 : Cond.constant RX5 15 (-2000000) ∈ wsL_law := List.mem_of_getElem? (i := 96) (by decide +kernel)
theorem wd_97 : Cond.fieldLink RX5 16 "FactShares$Tally" "spoilt" "I" ∈ wsL_law := List.mem_of_getElem? (i := 97) (by decide +kernel)
theorem wd_98 : Cond.fieldLink RX5 21 "FactShares$Tally" "refusal" "I" ∈ wsL_law := List.mem_of_getElem? (i := 98) (by decide +kernel)
theorem wd_99 : Cond.fieldLink RX5 24 "FactShares$Tally" "acts" "I" ∈ wsL_law := List.mem_of_getElem? (i := 99) (by decide +kernel)
theorem wd_100 : Cond.fieldLink RX5 27 "FactShares$Tally" "taken" "I" ∈ wsL_law := List.mem_of_getElem? (i := 100) (by decide +kernel)
theorem wd_101 : Cond.fieldLink RX5 30 "FactShares$Tally" "left" "I" ∈ wsL_law := List.mem_of_getElem? (i := 101) (by decide +kernel)
theorem wd_102 : Cond.instanceMethod yX4_init ∈ wsL_law := List.mem_of_getElem? (i := 102) (by decide +kernel)
theorem wd_103 : Cond.code yX4_init cX4_init 1 none ∈ wsL_law := List.mem_of_getElem? (i := 103) (by decide +kernel)
theorem wd_104 : Cond.methodLink RX4 3 objectInit ∈ wsL_law := List.mem_of_getElem? (i := 104) (by decide +kernel)
theorem wd_105 : Cond.fieldLink RX4 11 "FactShares$Share" "sort" "[I" ∈ wsL_law := List.mem_of_getElem? (i := 105) (by decide +kernel)
theorem wd_106 : Cond.fieldLink RX4 15 "FactShares$Share" "a" "[I" ∈ wsL_law := List.mem_of_getElem? (i := 106) (by decide +kernel)
theorem wd_107 : Cond.fieldLink RX4 18 "FactShares$Share" "b" "[I" ∈ wsL_law := List.mem_of_getElem? (i := 107) (by decide +kernel)
theorem wd_108 : Cond.fieldLink RX4 21 "FactShares$Share" "aim" "I" ∈ wsL_law := List.mem_of_getElem? (i := 108) (by decide +kernel)
theorem wd_109 : Cond.fieldLink RX4 25 "FactShares$Share" "actCount" "I" ∈ wsL_law := List.mem_of_getElem? (i := 109) (by decide +kernel)
theorem wd_110 : Cond.constant RX4 28 (-2000000) ∈ wsL_law := List.mem_of_getElem? (i := 110) (by decide +kernel)
theorem wd_111 : Cond.fieldLink RX4 29 "FactShares$Share" "doneBy" "I" ∈ wsL_law := List.mem_of_getElem? (i := 111) (by decide +kernel)
theorem wd_112 : Cond.fieldLink RX4 34 "FactShares$Share" "refusal" "I" ∈ wsL_law := List.mem_of_getElem? (i := 112) (by decide +kernel)
theorem wd_113 : Cond.fieldLink RX4 37 "FactShares$Share" "answerLow" "I" ∈ wsL_law := List.mem_of_getElem? (i := 113) (by decide +kernel)
theorem wd_114 : Cond.fieldLink RX4 40 "FactShares$Share" "answerHigh" "I" ∈ wsL_law := List.mem_of_getElem? (i := 114) (by decide +kernel)
theorem wd_115 : Cond.methodLink RL 12 yX8_init ∈ wsL_law := List.mem_of_getElem? (i := 115) (by decide +kernel)
theorem wd_116 : Cond.instanceMethod yX8_init ∈ wsL_law := List.mem_of_getElem? (i := 116) (by decide +kernel)
theorem wd_117 : Cond.code yX8_init cX8_init 2 none ∈ wsL_law := List.mem_of_getElem? (i := 117) (by decide +kernel)
theorem wd_118 : Cond.methodLink RX8 1 objectInit ∈ wsL_law := List.mem_of_getElem? (i := 118) (by decide +kernel)
theorem wd_119 : Cond.fieldLink RX8 7 "FactSharesModel" "low" "[I" ∈ wsL_law := List.mem_of_getElem? (i := 119) (by decide +kernel)
theorem wd_120 : Cond.fieldLink RX8 13 "FactSharesModel" "high" "[I" ∈ wsL_law := List.mem_of_getElem? (i := 120) (by decide +kernel)
theorem wd_121 : Cond.fieldLink RX8 16 "FactSharesModel" "aim" "[I" ∈ wsL_law := List.mem_of_getElem? (i := 121) (by decide +kernel)
theorem wd_122 : Cond.fieldLink RX8 19 "FactSharesModel" "acts" "[I" ∈ wsL_law := List.mem_of_getElem? (i := 122) (by decide +kernel)
theorem wd_123 : Cond.fieldLink RX8 22 "FactSharesModel" "sort" "[I" ∈ wsL_law := List.mem_of_getElem? (i := 123) (by decide +kernel)
theorem wd_124 : Cond.fieldLink RX8 25 "FactSharesModel" "one" "[I" ∈ wsL_law := List.mem_of_getElem? (i := 124) (by decide +kernel)
theorem wd_125 : Cond.fieldLink RX8 28 "FactSharesModel" "two" "[I" ∈ wsL_law := List.mem_of_getElem? (i := 125) (by decide +kernel)
theorem wd_126 : Cond.fieldLink RX8 31 "FactSharesModel" "next" "[I" ∈ wsL_law := List.mem_of_getElem? (i := 126) (by decide +kernel)
theorem wd_127 : Cond.fieldLink RX8 34 "FactSharesModel" "depth" "[I" ∈ wsL_law := List.mem_of_getElem? (i := 127) (by decide +kernel)
theorem wd_128 : Cond.fieldLink RX8 37 "FactSharesModel" "stackLow" "[I" ∈ wsL_law := List.mem_of_getElem? (i := 128) (by decide +kernel)
theorem wd_129 : Cond.fieldLink RX8 40 "FactSharesModel" "stackHigh" "[I" ∈ wsL_law := List.mem_of_getElem? (i := 129) (by decide +kernel)
theorem wd_130 : Cond.fieldLink RX8 43 "FactSharesModel" "rowLow" "[I" ∈ wsL_law := List.mem_of_getElem? (i := 130) (by decide +kernel)
theorem wd_131 : Cond.fieldLink RX8 46 "FactSharesModel" "rowHigh" "[I" ∈ wsL_law := List.mem_of_getElem? (i := 131) (by decide +kernel)
theorem wd_132 : Cond.fieldLink RX8 49 "FactSharesModel" "spoilt" "[I" ∈ wsL_law := List.mem_of_getElem? (i := 132) (by decide +kernel)
theorem wd_133 : Cond.fieldLink RX8 52 "FactSharesModel" "doneBy" "[I" ∈ wsL_law := List.mem_of_getElem? (i := 133) (by decide +kernel)
theorem wd_134 : Cond.fieldLink RX8 55 "FactSharesModel" "isDone" "[Z" ∈ wsL_law := List.mem_of_getElem? (i := 134) (by decide +kernel)
theorem wd_135 : Cond.fieldLink RX8 59 "FactSharesModel" "line" "[I" ∈ wsL_law := List.mem_of_getElem? (i := 135) (by decide +kernel)
theorem wd_136 : Cond.fieldLink RX8 62 "FactSharesModel" "isThere" "[Z" ∈ wsL_law := List.mem_of_getElem? (i := 136) (by decide +kernel)
theorem wd_137 : Cond.fieldLink RX8 65 "FactSharesModel" "lostFrom" "[I" ∈ wsL_law := List.mem_of_getElem? (i := 137) (by decide +kernel)
theorem wd_138 : Cond.fieldLink RX8 68 "FactSharesModel" "has" "[I" ∈ wsL_law := List.mem_of_getElem? (i := 138) (by decide +kernel)
theorem wd_139 : Cond.constant RX8 71 (-2000000) ∈ wsL_law := List.mem_of_getElem? (i := 139) (by decide +kernel)
theorem wd_140 : Cond.fieldLink RX8 72 "FactSharesModel" "latest" "I" ∈ wsL_law := List.mem_of_getElem? (i := 140) (by decide +kernel)
theorem wd_141 : Cond.fieldLink RX8 76 "FactSharesModel" "widen" "I" ∈ wsL_law := List.mem_of_getElem? (i := 141) (by decide +kernel)
theorem wd_142 : Cond.fieldLink RX8 79 "FactSharesModel" "budget" "I" ∈ wsL_law := List.mem_of_getElem? (i := 142) (by decide +kernel)
theorem wd_143 : Cond.fieldLink RX8 82 "FactSharesModel" "badShare" "I" ∈ wsL_law := List.mem_of_getElem? (i := 143) (by decide +kernel)
theorem wd_144 : Cond.methodLink RL 13 yX7_share ∈ wsL_law := List.mem_of_getElem? (i := 144) (by decide +kernel)
theorem wd_145 : Cond.instanceMethod yX7_share ∈ wsL_law := List.mem_of_getElem? (i := 145) (by decide +kernel)
theorem wd_146 : Cond.selects RX7 yX7_share yX7_share ∈ wsL_law := List.mem_of_getElem? (i := 146) (by decide +kernel)
theorem wd_147 : Cond.code yX7_share cX7_share 2 (some .int) ∈ wsL_law := List.mem_of_getElem? (i := 147) (by decide +kernel)
theorem wd_148 : Cond.constant RX7 61 (-2000001) ∈ wsL_law := List.mem_of_getElem? (i := 148) (by decide +kernel)
theorem wd_149 : Cond.constant RX7 62 (-2000003) ∈ wsL_law := List.mem_of_getElem? (i := 149) (by decide +kernel)
theorem wd_150 : Cond.fieldLink RX7 63 "FactShares$Share" "aim" "I" ∈ wsL_law := List.mem_of_getElem? (i := 150) (by decide +kernel)
theorem wd_151 : Cond.methodLink RX7 57 yX7_isFact ∈ wsL_law := List.mem_of_getElem? (i := 151) (by decide +kernel)
theorem wd_152 : Cond.static yX7_isFact ∈ wsL_law := List.mem_of_getElem? (i := 152) (by decide +kernel)
theorem wd_153 : Cond.code yX7_isFact cX7_isFact 1 (some .boolean) ∈ wsL_law := List.mem_of_getElem? (i := 153) (by decide +kernel)
theorem wd_154 : Cond.methodLink RL 17 yX8_share ∈ wsL_law := List.mem_of_getElem? (i := 154) (by decide +kernel)
theorem wd_155 : Cond.instanceMethod yX8_share ∈ wsL_law := List.mem_of_getElem? (i := 155) (by decide +kernel)
theorem wd_156 : Cond.selects RX8 yX8_share yX8_share ∈ wsL_law := List.mem_of_getElem? (i := 156) (by decide +kernel)
theorem wd_157 : Cond.code yX8_share cX8_share 2 (some .int) ∈ wsL_law := List.mem_of_getElem? (i := 157) (by decide +kernel)
theorem wd_158 : Cond.constant RX8 94 (-2000001) ∈ wsL_law := List.mem_of_getElem? (i := 158) (by decide +kernel)
theorem wd_159 : Cond.fieldLink RX8 87 "FactSharesModel" "shares" "I" ∈ wsL_law := List.mem_of_getElem? (i := 159) (by decide +kernel)
theorem wd_160 : Cond.constant RX8 95 (-2000003) ∈ wsL_law := List.mem_of_getElem? (i := 160) (by decide +kernel)
theorem wd_161 : Cond.methodLink RX8 90 yX8_isFact ∈ wsL_law := List.mem_of_getElem? (i := 161) (by decide +kernel)
theorem wd_162 : Cond.static yX8_isFact ∈ wsL_law := List.mem_of_getElem? (i := 162) (by decide +kernel)
theorem wd_163 : Cond.code yX8_isFact cX8_isFact 1 (some .boolean) ∈ wsL_law := List.mem_of_getElem? (i := 163) (by decide +kernel)
theorem wd_164 : Cond.methodLink RL 18 yX7_act ∈ wsL_law := List.mem_of_getElem? (i := 164) (by decide +kernel)
theorem wd_165 : Cond.instanceMethod yX7_act ∈ wsL_law := List.mem_of_getElem? (i := 165) (by decide +kernel)
theorem wd_166 : Cond.selects RX7 yX7_act yX7_act ∈ wsL_law := List.mem_of_getElem? (i := 166) (by decide +kernel)
theorem wd_167 : Cond.code yX7_act cX7_act 5 (some .int) ∈ wsL_law := List.mem_of_getElem? (i := 167) (by decide +kernel)
theorem wd_168 : Cond.constant RX7 71 (-2000002) ∈ wsL_law := List.mem_of_getElem? (i := 168) (by decide +kernel)
theorem wd_169 : Cond.fieldLink RX7 79 "FactShares$Share" "actCount" "I" ∈ wsL_law := List.mem_of_getElem? (i := 169) (by decide +kernel)
theorem wd_170 : Cond.methodLink RX7 66 yX7_isShare ∈ wsL_law := List.mem_of_getElem? (i := 170) (by decide +kernel)
theorem wd_171 : Cond.instanceMethod yX7_isShare ∈ wsL_law := List.mem_of_getElem? (i := 171) (by decide +kernel)
theorem wd_172 : Cond.selects RX7 yX7_isShare yX7_isShare ∈ wsL_law := List.mem_of_getElem? (i := 172) (by decide +kernel)
theorem wd_173 : Cond.code yX7_isShare cX7_isShare 2 (some .boolean) ∈ wsL_law := List.mem_of_getElem? (i := 173) (by decide +kernel)
theorem wd_174 : Cond.methodLink RX7 72 yX7_isEnd ∈ wsL_law := List.mem_of_getElem? (i := 174) (by decide +kernel)
theorem wd_175 : Cond.static yX7_isEnd ∈ wsL_law := List.mem_of_getElem? (i := 175) (by decide +kernel)
theorem wd_176 : Cond.code yX7_isEnd cX7_isEnd 1 (some .boolean) ∈ wsL_law := List.mem_of_getElem? (i := 176) (by decide +kernel)
theorem wd_177 : Cond.constant RX7 157 (-1000000) ∈ wsL_law := List.mem_of_getElem? (i := 177) (by decide +kernel)
theorem wd_178 : Cond.constant RX7 158 (1000000) ∈ wsL_law := List.mem_of_getElem? (i := 178) (by decide +kernel)
theorem wd_179 : Cond.methodLink RX7 75 yX4_addAct ∈ wsL_law := List.mem_of_getElem? (i := 179) (by decide +kernel)
theorem wd_180 : Cond.instanceMethod yX4_addAct ∈ wsL_law := List.mem_of_getElem? (i := 180) (by decide +kernel)
theorem wd_181 : Cond.selects RX4 yX4_addAct yX4_addAct ∈ wsL_law := List.mem_of_getElem? (i := 181) (by decide +kernel)
theorem wd_182 : Cond.code yX4_addAct cX4_addAct 4 (some .boolean) ∈ wsL_law := List.mem_of_getElem? (i := 182) (by decide +kernel)
theorem wd_183 : Cond.methodLink RL 22 yX8_act ∈ wsL_law := List.mem_of_getElem? (i := 183) (by decide +kernel)
theorem wd_184 : Cond.instanceMethod yX8_act ∈ wsL_law := List.mem_of_getElem? (i := 184) (by decide +kernel)
theorem wd_185 : Cond.selects RX8 yX8_act yX8_act ∈ wsL_law := List.mem_of_getElem? (i := 185) (by decide +kernel)
theorem wd_186 : Cond.code yX8_act cX8_act 5 (some .int) ∈ wsL_law := List.mem_of_getElem? (i := 186) (by decide +kernel)
theorem wd_187 : Cond.constant RX8 102 (-2000002) ∈ wsL_law := List.mem_of_getElem? (i := 187) (by decide +kernel)
theorem wd_188 : Cond.methodLink RX8 96 yX8_isShare ∈ wsL_law := List.mem_of_getElem? (i := 188) (by decide +kernel)
theorem wd_189 : Cond.instanceMethod yX8_isShare ∈ wsL_law := List.mem_of_getElem? (i := 189) (by decide +kernel)
theorem wd_190 : Cond.selects RX8 yX8_isShare yX8_isShare ∈ wsL_law := List.mem_of_getElem? (i := 190) (by decide +kernel)
theorem wd_191 : Cond.code yX8_isShare cX8_isShare 2 (some .boolean) ∈ wsL_law := List.mem_of_getElem? (i := 191) (by decide +kernel)
theorem wd_192 : Cond.methodLink RX8 99 yX8_isEnd ∈ wsL_law := List.mem_of_getElem? (i := 192) (by decide +kernel)
theorem wd_193 : Cond.static yX8_isEnd ∈ wsL_law := List.mem_of_getElem? (i := 193) (by decide +kernel)
theorem wd_194 : Cond.code yX8_isEnd cX8_isEnd 1 (some .boolean) ∈ wsL_law := List.mem_of_getElem? (i := 194) (by decide +kernel)
theorem wd_195 : Cond.constant RX8 85 (-1000000) ∈ wsL_law := List.mem_of_getElem? (i := 195) (by decide +kernel)
theorem wd_196 : Cond.constant RX8 86 (1000000) ∈ wsL_law := List.mem_of_getElem? (i := 196) (by decide +kernel)
theorem wd_197 : Cond.methodLink RL 23 yX7_fact ∈ wsL_law := List.mem_of_getElem? (i := 197) (by decide +kernel)
theorem wd_198 : Cond.instanceMethod yX7_fact ∈ wsL_law := List.mem_of_getElem? (i := 198) (by decide +kernel)
theorem wd_199 : Cond.selects RX7 yX7_fact yX7_fact ∈ wsL_law := List.mem_of_getElem? (i := 199) (by decide +kernel)
theorem wd_200 : Cond.code yX7_fact cX7_fact 4 (some .int) ∈ wsL_law := List.mem_of_getElem? (i := 200) (by decide +kernel)
theorem wd_201 : Cond.methodLink RX7 82 yX2_put ∈ wsL_law := List.mem_of_getElem? (i := 201) (by decide +kernel)
theorem wd_202 : Cond.instanceMethod yX2_put ∈ wsL_law := List.mem_of_getElem? (i := 202) (by decide +kernel)
theorem wd_203 : Cond.selects RX2 yX2_put yX2_put ∈ wsL_law := List.mem_of_getElem? (i := 203) (by decide +kernel)
theorem wd_204 : Cond.code yX2_put cX2_put 4 none ∈ wsL_law := List.mem_of_getElem? (i := 204) (by decide +kernel)
theorem wd_205 : Cond.methodLink RL 27 yX8_fact ∈ wsL_law := List.mem_of_getElem? (i := 205) (by decide +kernel)
theorem wd_206 : Cond.instanceMethod yX8_fact ∈ wsL_law := List.mem_of_getElem? (i := 206) (by decide +kernel)
theorem wd_207 : Cond.selects RX8 yX8_fact yX8_fact ∈ wsL_law := List.mem_of_getElem? (i := 207) (by decide +kernel)
theorem wd_208 : Cond.code yX8_fact cX8_fact 4 (some .int) ∈ wsL_law := List.mem_of_getElem? (i := 208) (by decide +kernel)
theorem wd_209 : Cond.methodLink RL 28 yX7_end ∈ wsL_law := List.mem_of_getElem? (i := 209) (by decide +kernel)
theorem wd_210 : Cond.instanceMethod yX7_end ∈ wsL_law := List.mem_of_getElem? (i := 210) (by decide +kernel)
theorem wd_211 : Cond.selects RX7 yX7_end yX7_end ∈ wsL_law := List.mem_of_getElem? (i := 211) (by decide +kernel)
theorem wd_212 : Cond.code yX7_end cX7_end 3 (some .int) ∈ wsL_law := List.mem_of_getElem? (i := 212) (by decide +kernel)
theorem wd_213 : Cond.fieldLink RX7 86 "FactShares$Facts" "known" "[Z" ∈ wsL_law := List.mem_of_getElem? (i := 213) (by decide +kernel)
theorem wd_214 : Cond.constant RX7 90 (-2000000) ∈ wsL_law := List.mem_of_getElem? (i := 214) (by decide +kernel)
theorem wd_215 : Cond.fieldLink RX7 91 "FactShares$Facts" "low" "[I" ∈ wsL_law := List.mem_of_getElem? (i := 215) (by decide +kernel)
theorem wd_216 : Cond.fieldLink RX7 95 "FactShares$Facts" "high" "[I" ∈ wsL_law := List.mem_of_getElem? (i := 216) (by decide +kernel)
theorem wd_217 : Cond.methodLink RL 32 yX8_end ∈ wsL_law := List.mem_of_getElem? (i := 217) (by decide +kernel)
theorem wd_218 : Cond.instanceMethod yX8_end ∈ wsL_law := List.mem_of_getElem? (i := 218) (by decide +kernel)
theorem wd_219 : Cond.selects RX8 yX8_end yX8_end ∈ wsL_law := List.mem_of_getElem? (i := 219) (by decide +kernel)
theorem wd_220 : Cond.code yX8_end cX8_end 3 (some .int) ∈ wsL_law := List.mem_of_getElem? (i := 220) (by decide +kernel)
theorem wd_221 : Cond.methodLink RL 33 yX7_workers ∈ wsL_law := List.mem_of_getElem? (i := 221) (by decide +kernel)
theorem wd_222 : Cond.instanceMethod yX7_workers ∈ wsL_law := List.mem_of_getElem? (i := 222) (by decide +kernel)
theorem wd_223 : Cond.selects RX7 yX7_workers yX7_workers ∈ wsL_law := List.mem_of_getElem? (i := 223) (by decide +kernel)
theorem wd_224 : Cond.code yX7_workers cX7_workers 3 (some .int) ∈ wsL_law := List.mem_of_getElem? (i := 224) (by decide +kernel)
theorem wd_225 : Cond.fieldLink RX7 98 "FactShares$Crew" "left" "I" ∈ wsL_law := List.mem_of_getElem? (i := 225) (by decide +kernel)
theorem wd_226 : Cond.methodLink RX7 101 yX1_hire ∈ wsL_law := List.mem_of_getElem? (i := 226) (by decide +kernel)
theorem wd_227 : Cond.methodLink RL 36 yX8_workers ∈ wsL_law := List.mem_of_getElem? (i := 227) (by decide +kernel)
theorem wd_228 : Cond.instanceMethod yX8_workers ∈ wsL_law := List.mem_of_getElem? (i := 228) (by decide +kernel)
theorem wd_229 : Cond.selects RX8 yX8_workers yX8_workers ∈ wsL_law := List.mem_of_getElem? (i := 229) (by decide +kernel)
theorem wd_230 : Cond.code yX8_workers cX8_workers 4 (some .int) ∈ wsL_law := List.mem_of_getElem? (i := 230) (by decide +kernel)
theorem wd_231 : Cond.methodLink RX8 103 yX8_workersLeft ∈ wsL_law := List.mem_of_getElem? (i := 231) (by decide +kernel)
theorem wd_232 : Cond.instanceMethod yX8_workersLeft ∈ wsL_law := List.mem_of_getElem? (i := 232) (by decide +kernel)
theorem wd_233 : Cond.selects RX8 yX8_workersLeft yX8_workersLeft ∈ wsL_law := List.mem_of_getElem? (i := 233) (by decide +kernel)
theorem wd_234 : Cond.code yX8_workersLeft cX8_workersLeft 3 (some .int) ∈ wsL_law := List.mem_of_getElem? (i := 234) (by decide +kernel)
theorem wd_235 : Cond.methodLink RL 37 yX7_lose ∈ wsL_law := List.mem_of_getElem? (i := 235) (by decide +kernel)
theorem wd_236 : Cond.instanceMethod yX7_lose ∈ wsL_law := List.mem_of_getElem? (i := 236) (by decide +kernel)
theorem wd_237 : Cond.selects RX7 yX7_lose yX7_lose ∈ wsL_law := List.mem_of_getElem? (i := 237) (by decide +kernel)
theorem wd_238 : Cond.code yX7_lose cX7_lose 3 (some .int) ∈ wsL_law := List.mem_of_getElem? (i := 238) (by decide +kernel)
theorem wd_239 : Cond.constant RX7 108 (100000) ∈ wsL_law := List.mem_of_getElem? (i := 239) (by decide +kernel)
theorem wd_240 : Cond.fieldLink RX7 109 "FactShares$Crew" "all" "[LFactShares$Worker;" ∈ wsL_law := List.mem_of_getElem? (i := 240) (by decide +kernel)
theorem wd_241 : Cond.fieldLink RX7 113 "FactShares$Worker" "loseFrom" "I" ∈ wsL_law := List.mem_of_getElem? (i := 241) (by decide +kernel)
theorem wd_242 : Cond.methodLink RX7 105 yX1_isHere ∈ wsL_law := List.mem_of_getElem? (i := 242) (by decide +kernel)
theorem wd_243 : Cond.instanceMethod yX1_isHere ∈ wsL_law := List.mem_of_getElem? (i := 243) (by decide +kernel)
theorem wd_244 : Cond.selects RX1 yX1_isHere yX1_isHere ∈ wsL_law := List.mem_of_getElem? (i := 244) (by decide +kernel)
theorem wd_245 : Cond.code yX1_isHere cX1_isHere 2 (some .boolean) ∈ wsL_law := List.mem_of_getElem? (i := 245) (by decide +kernel)
theorem wd_246 : Cond.methodLink RL 40 yX8_lose ∈ wsL_law := List.mem_of_getElem? (i := 246) (by decide +kernel)
theorem wd_247 : Cond.instanceMethod yX8_lose ∈ wsL_law := List.mem_of_getElem? (i := 247) (by decide +kernel)
theorem wd_248 : Cond.selects RX8 yX8_lose yX8_lose ∈ wsL_law := List.mem_of_getElem? (i := 248) (by decide +kernel)
theorem wd_249 : Cond.code yX8_lose cX8_lose 3 (some .int) ∈ wsL_law := List.mem_of_getElem? (i := 249) (by decide +kernel)
theorem wd_250 : Cond.constant RX8 107 (100000) ∈ wsL_law := List.mem_of_getElem? (i := 250) (by decide +kernel)
theorem wd_251 : Cond.methodLink RL 41 yX7_seed ∈ wsL_law := List.mem_of_getElem? (i := 251) (by decide +kernel)
theorem wd_252 : Cond.instanceMethod yX7_seed ∈ wsL_law := List.mem_of_getElem? (i := 252) (by decide +kernel)
theorem wd_253 : Cond.selects RX7 yX7_seed yX7_seed ∈ wsL_law := List.mem_of_getElem? (i := 253) (by decide +kernel)
theorem wd_254 : Cond.code yX7_seed cX7_seed 3 (some .int) ∈ wsL_law := List.mem_of_getElem? (i := 254) (by decide +kernel)
theorem wd_255 : Cond.fieldLink RX7 118 "FactShares$Crew" "x" "I" ∈ wsL_law := List.mem_of_getElem? (i := 255) (by decide +kernel)
theorem wd_256 : Cond.methodLink RL 44 yX8_seed ∈ wsL_law := List.mem_of_getElem? (i := 256) (by decide +kernel)
theorem wd_257 : Cond.instanceMethod yX8_seed ∈ wsL_law := List.mem_of_getElem? (i := 257) (by decide +kernel)
theorem wd_258 : Cond.selects RX8 yX8_seed yX8_seed ∈ wsL_law := List.mem_of_getElem? (i := 258) (by decide +kernel)
theorem wd_259 : Cond.code yX8_seed cX8_seed 3 (some .int) ∈ wsL_law := List.mem_of_getElem? (i := 259) (by decide +kernel)
theorem wd_260 : Cond.fieldLink RX8 108 "FactSharesModel" "x" "I" ∈ wsL_law := List.mem_of_getElem? (i := 260) (by decide +kernel)
theorem wd_261 : Cond.methodLink RL 45 yX7_set ∈ wsL_law := List.mem_of_getElem? (i := 261) (by decide +kernel)
theorem wd_262 : Cond.instanceMethod yX7_set ∈ wsL_law := List.mem_of_getElem? (i := 262) (by decide +kernel)
theorem wd_263 : Cond.selects RX7 yX7_set yX7_set ∈ wsL_law := List.mem_of_getElem? (i := 263) (by decide +kernel)
theorem wd_264 : Cond.code yX7_set cX7_set 4 (some .int) ∈ wsL_law := List.mem_of_getElem? (i := 264) (by decide +kernel)
theorem wd_265 : Cond.methodLink RL 48 yX8_set ∈ wsL_law := List.mem_of_getElem? (i := 265) (by decide +kernel)
theorem wd_266 : Cond.instanceMethod yX8_set ∈ wsL_law := List.mem_of_getElem? (i := 266) (by decide +kernel)
theorem wd_267 : Cond.selects RX8 yX8_set yX8_set ∈ wsL_law := List.mem_of_getElem? (i := 267) (by decide +kernel)
theorem wd_268 : Cond.code yX8_set cX8_set 4 (some .int) ∈ wsL_law := List.mem_of_getElem? (i := 268) (by decide +kernel)
theorem wd_269 : Cond.methodLink RL 49 yX7_run ∈ wsL_law := List.mem_of_getElem? (i := 269) (by decide +kernel)
theorem wd_270 : Cond.instanceMethod yX7_run ∈ wsL_law := List.mem_of_getElem? (i := 270) (by decide +kernel)
theorem wd_271 : Cond.selects RX7 yX7_run yX7_run ∈ wsL_law := List.mem_of_getElem? (i := 271) (by decide +kernel)
theorem wd_272 : Cond.code yX7_run cX7_run 4 (some .int) ∈ wsL_law := List.mem_of_getElem? (i := 272) (by decide +kernel)
theorem wd_273 : Cond.methodLink RX7 121 yX5_beginRun ∈ wsL_law := List.mem_of_getElem? (i := 273) (by decide +kernel)
theorem wd_274 : Cond.instanceMethod yX5_beginRun ∈ wsL_law := List.mem_of_getElem? (i := 274) (by decide +kernel)
theorem wd_275 : Cond.selects RX5 yX5_beginRun yX5_beginRun ∈ wsL_law := List.mem_of_getElem? (i := 275) (by decide +kernel)
theorem wd_276 : Cond.code yX5_beginRun cX5_beginRun 1 none ∈ wsL_law := List.mem_of_getElem? (i := 276) (by decide +kernel)
theorem wd_277 : Cond.methodLink RX7 124 yX7_playRound ∈ wsL_law := List.mem_of_getElem? (i := 277) (by decide +kernel)
theorem wd_278 : Cond.instanceMethod yX7_playRound ∈ wsL_law := List.mem_of_getElem? (i := 278) (by decide +kernel)
theorem wd_279 : Cond.selects RX7 yX7_playRound yX7_playRound ∈ wsL_law := List.mem_of_getElem? (i := 279) (by decide +kernel)
theorem wd_280 : Cond.code yX7_playRound cX7_playRound 4 (some .int) ∈ wsL_law := List.mem_of_getElem? (i := 280) (by decide +kernel)
theorem wd_281 : Cond.fieldLink RX7 131 "FactShares$Tally" "spoilt" "I" ∈ wsL_law := List.mem_of_getElem? (i := 281) (by decide +kernel)
theorem wd_282 : Cond.fieldLink RX7 168 "FactShares$Share" "refusal" "I" ∈ wsL_law := List.mem_of_getElem? (i := 282) (by decide +kernel)
theorem wd_283 : Cond.fieldLink RX7 134 "FactShares$Tally" "refusal" "I" ∈ wsL_law := List.mem_of_getElem? (i := 283) (by decide +kernel)
theorem wd_284 : Cond.fieldLink RX7 137 "FactShares$Tally" "acts" "I" ∈ wsL_law := List.mem_of_getElem? (i := 284) (by decide +kernel)
theorem wd_285 : Cond.fieldLink RX7 128 "FactShares$Tally" "rounds" "I" ∈ wsL_law := List.mem_of_getElem? (i := 285) (by decide +kernel)
theorem wd_286 : Cond.methodLink RX7 159 yX7_beginRound ∈ wsL_law := List.mem_of_getElem? (i := 286) (by decide +kernel)
theorem wd_287 : Cond.instanceMethod yX7_beginRound ∈ wsL_law := List.mem_of_getElem? (i := 287) (by decide +kernel)
theorem wd_288 : Cond.selects RX7 yX7_beginRound yX7_beginRound ∈ wsL_law := List.mem_of_getElem? (i := 288) (by decide +kernel)
theorem wd_289 : Cond.code yX7_beginRound cX7_beginRound 2 none ∈ wsL_law := List.mem_of_getElem? (i := 289) (by decide +kernel)
theorem wd_290 : Cond.fieldLink RX7 150 "FactShares$Share" "doneBy" "I" ∈ wsL_law := List.mem_of_getElem? (i := 290) (by decide +kernel)
theorem wd_291 : Cond.methodLink RX7 176 yX3_fill ∈ wsL_law := List.mem_of_getElem? (i := 291) (by decide +kernel)
theorem wd_292 : Cond.instanceMethod yX3_fill ∈ wsL_law := List.mem_of_getElem? (i := 292) (by decide +kernel)
theorem wd_293 : Cond.selects RX3 yX3_fill yX3_fill ∈ wsL_law := List.mem_of_getElem? (i := 293) (by decide +kernel)
theorem wd_294 : Cond.code yX3_fill cX3_fill 4 none ∈ wsL_law := List.mem_of_getElem? (i := 294) (by decide +kernel)
theorem wd_295 : Cond.methodLink RX3 24 Lib.Math.min.name ∈ wsL_law := List.mem_of_getElem? (i := 295) (by decide +kernel)
theorem wd_296 : Cond.static Lib.Math.min.name ∈ wsL_law := List.mem_of_getElem? (i := 296) (by decide +kernel)
theorem wd_297 : Cond.initialized "java/lang/Math" ∈ wsL_law := List.mem_of_getElem? (i := 297) (by decide +kernel)
theorem wd_298 : Cond.code Lib.Math.min.name Lib.Math.min.code 2 (some .int) ∈ wsL_law := List.mem_of_getElem? (i := 298) (by decide +kernel)
theorem wd_299 : Cond.methodLink RX7 162 yX7_playTurn ∈ wsL_law := List.mem_of_getElem? (i := 299) (by decide +kernel)
theorem wd_300 : Cond.instanceMethod yX7_playTurn ∈ wsL_law := List.mem_of_getElem? (i := 300) (by decide +kernel)
theorem wd_301 : Cond.selects RX7 yX7_playTurn yX7_playTurn ∈ wsL_law := List.mem_of_getElem? (i := 301) (by decide +kernel)
theorem wd_302 : Cond.code yX7_playTurn cX7_playTurn 2 none ∈ wsL_law := List.mem_of_getElem? (i := 302) (by decide +kernel)
theorem wd_303 : Cond.fieldLink RX7 144 "FactShares$Crew" "turns" "I" ∈ wsL_law := List.mem_of_getElem? (i := 303) (by decide +kernel)
theorem wd_304 : Cond.fieldLink RX7 191 "FactShares$Worker" "share" "LFactShares$Share;" ∈ wsL_law := List.mem_of_getElem? (i := 304) (by decide +kernel)
theorem wd_305 : Cond.methodLink RX7 180 yX1_nextToMove ∈ wsL_law := List.mem_of_getElem? (i := 305) (by decide +kernel)
theorem wd_306 : Cond.instanceMethod yX1_nextToMove ∈ wsL_law := List.mem_of_getElem? (i := 306) (by decide +kernel)
theorem wd_307 : Cond.selects RX1 yX1_nextToMove yX1_nextToMove ∈ wsL_law := List.mem_of_getElem? (i := 307) (by decide +kernel)
theorem wd_308 : Cond.code yX1_nextToMove cX1_nextToMove 2 (some (.object "FactShares$Worker")) ∈ wsL_law := List.mem_of_getElem? (i := 308) (by decide +kernel)
theorem wd_309 : Cond.constant RX1 44 (1103515245) ∈ wsL_law := List.mem_of_getElem? (i := 309) (by decide +kernel)
theorem wd_310 : Cond.fieldLink RX1 49 "FactShares$Worker" "number" "I" ∈ wsL_law := List.mem_of_getElem? (i := 310) (by decide +kernel)
theorem wd_311 : Cond.methodLink RX1 45 yX1_leftAt ∈ wsL_law := List.mem_of_getElem? (i := 311) (by decide +kernel)
theorem wd_312 : Cond.instanceMethod yX1_leftAt ∈ wsL_law := List.mem_of_getElem? (i := 312) (by decide +kernel)
theorem wd_313 : Cond.selects RX1 yX1_leftAt yX1_leftAt ∈ wsL_law := List.mem_of_getElem? (i := 313) (by decide +kernel)
theorem wd_314 : Cond.code yX1_leftAt cX1_leftAt 4 (some (.object "FactShares$Worker")) ∈ wsL_law := List.mem_of_getElem? (i := 314) (by decide +kernel)
theorem wd_315 : Cond.methodLink RX7 184 yX6_isToBeLost ∈ wsL_law := List.mem_of_getElem? (i := 315) (by decide +kernel)
theorem wd_316 : Cond.instanceMethod yX6_isToBeLost ∈ wsL_law := List.mem_of_getElem? (i := 316) (by decide +kernel)
theorem wd_317 : Cond.selects RX6 yX6_isToBeLost yX6_isToBeLost ∈ wsL_law := List.mem_of_getElem? (i := 317) (by decide +kernel)
theorem wd_318 : Cond.code yX6_isToBeLost cX6_isToBeLost 2 (some .boolean) ∈ wsL_law := List.mem_of_getElem? (i := 318) (by decide +kernel)
theorem wd_319 : Cond.methodLink RX7 187 yX7_loseNow ∈ wsL_law := List.mem_of_getElem? (i := 319) (by decide +kernel)
theorem wd_320 : Cond.instanceMethod yX7_loseNow ∈ wsL_law := List.mem_of_getElem? (i := 320) (by decide +kernel)
theorem wd_321 : Cond.selects RX7 yX7_loseNow yX7_loseNow ∈ wsL_law := List.mem_of_getElem? (i := 321) (by decide +kernel)
theorem wd_322 : Cond.code yX7_loseNow cX7_loseNow 2 none ∈ wsL_law := List.mem_of_getElem? (i := 322) (by decide +kernel)
theorem wd_323 : Cond.fieldLink RX7 143 "FactShares$Tally" "left" "I" ∈ wsL_law := List.mem_of_getElem? (i := 323) (by decide +kernel)
theorem wd_324 : Cond.methodLink RX7 202 yX3_putInFront ∈ wsL_law := List.mem_of_getElem? (i := 324) (by decide +kernel)
theorem wd_325 : Cond.instanceMethod yX3_putInFront ∈ wsL_law := List.mem_of_getElem? (i := 325) (by decide +kernel)
theorem wd_326 : Cond.selects RX3 yX3_putInFront yX3_putInFront ∈ wsL_law := List.mem_of_getElem? (i := 326) (by decide +kernel)
theorem wd_327 : Cond.code yX3_putInFront cX3_putInFront 2 none ∈ wsL_law := List.mem_of_getElem? (i := 327) (by decide +kernel)
theorem wd_328 : Cond.methodLink RX7 206 yX1_remove ∈ wsL_law := List.mem_of_getElem? (i := 328) (by decide +kernel)
theorem wd_329 : Cond.instanceMethod yX1_remove ∈ wsL_law := List.mem_of_getElem? (i := 329) (by decide +kernel)
theorem wd_330 : Cond.selects RX1 yX1_remove yX1_remove ∈ wsL_law := List.mem_of_getElem? (i := 330) (by decide +kernel)
theorem wd_331 : Cond.code yX1_remove cX1_remove 2 none ∈ wsL_law := List.mem_of_getElem? (i := 331) (by decide +kernel)
theorem wd_332 : Cond.methodLink RX7 195 yX7_takeShare ∈ wsL_law := List.mem_of_getElem? (i := 332) (by decide +kernel)
theorem wd_333 : Cond.instanceMethod yX7_takeShare ∈ wsL_law := List.mem_of_getElem? (i := 333) (by decide +kernel)
theorem wd_334 : Cond.selects RX7 yX7_takeShare yX7_takeShare ∈ wsL_law := List.mem_of_getElem? (i := 334) (by decide +kernel)
theorem wd_335 : Cond.code yX7_takeShare cX7_takeShare 3 none ∈ wsL_law := List.mem_of_getElem? (i := 335) (by decide +kernel)
theorem wd_336 : Cond.fieldLink RX7 140 "FactShares$Tally" "taken" "I" ∈ wsL_law := List.mem_of_getElem? (i := 336) (by decide +kernel)
theorem wd_337 : Cond.methodLink RX7 209 yX3_takeFirst ∈ wsL_law := List.mem_of_getElem? (i := 337) (by decide +kernel)
theorem wd_338 : Cond.instanceMethod yX3_takeFirst ∈ wsL_law := List.mem_of_getElem? (i := 338) (by decide +kernel)
theorem wd_339 : Cond.selects RX3 yX3_takeFirst yX3_takeFirst ∈ wsL_law := List.mem_of_getElem? (i := 339) (by decide +kernel)
theorem wd_340 : Cond.code yX3_takeFirst cX3_takeFirst 1 (some (.object "FactShares$Share")) ∈ wsL_law := List.mem_of_getElem? (i := 340) (by decide +kernel)
theorem wd_341 : Cond.methodLink RX7 213 yX6_begin ∈ wsL_law := List.mem_of_getElem? (i := 341) (by decide +kernel)
theorem wd_342 : Cond.instanceMethod yX6_begin ∈ wsL_law := List.mem_of_getElem? (i := 342) (by decide +kernel)
theorem wd_343 : Cond.selects RX6 yX6_begin yX6_begin ∈ wsL_law := List.mem_of_getElem? (i := 343) (by decide +kernel)
theorem wd_344 : Cond.code yX6_begin cX6_begin 2 none ∈ wsL_law := List.mem_of_getElem? (i := 344) (by decide +kernel)
theorem wd_345 : Cond.methodLink RX6 34 yX0_empty ∈ wsL_law := List.mem_of_getElem? (i := 345) (by decide +kernel)
theorem wd_346 : Cond.instanceMethod yX0_empty ∈ wsL_law := List.mem_of_getElem? (i := 346) (by decide +kernel)
theorem wd_347 : Cond.selects RX0 yX0_empty yX0_empty ∈ wsL_law := List.mem_of_getElem? (i := 347) (by decide +kernel)
theorem wd_348 : Cond.code yX0_empty cX0_empty 2 none ∈ wsL_law := List.mem_of_getElem? (i := 348) (by decide +kernel)
theorem wd_349 : Cond.methodLink RX7 216 yX7_finish ∈ wsL_law := List.mem_of_getElem? (i := 349) (by decide +kernel)
theorem wd_350 : Cond.instanceMethod yX7_finish ∈ wsL_law := List.mem_of_getElem? (i := 350) (by decide +kernel)
theorem wd_351 : Cond.selects RX7 yX7_finish yX7_finish ∈ wsL_law := List.mem_of_getElem? (i := 351) (by decide +kernel)
theorem wd_352 : Cond.code yX7_finish cX7_finish 4 none ∈ wsL_law := List.mem_of_getElem? (i := 352) (by decide +kernel)
theorem wd_353 : Cond.fieldLink RX7 223 "FactShares$Worker" "bench" "LFactShares$Bench;" ∈ wsL_law := List.mem_of_getElem? (i := 353) (by decide +kernel)
theorem wd_354 : Cond.fieldLink RX7 244 "FactShares$Worker" "number" "I" ∈ wsL_law := List.mem_of_getElem? (i := 354) (by decide +kernel)
theorem wd_355 : Cond.methodLink RX7 240 yX0_giveAnswer ∈ wsL_law := List.mem_of_getElem? (i := 355) (by decide +kernel)
theorem wd_356 : Cond.instanceMethod yX0_giveAnswer ∈ wsL_law := List.mem_of_getElem? (i := 356) (by decide +kernel)
theorem wd_357 : Cond.selects RX0 yX0_giveAnswer yX0_giveAnswer ∈ wsL_law := List.mem_of_getElem? (i := 357) (by decide +kernel)
theorem wd_358 : Cond.code yX0_giveAnswer cX0_giveAnswer 2 (some .int) ∈ wsL_law := List.mem_of_getElem? (i := 358) (by decide +kernel)
theorem wd_359 : Cond.fieldLink RX0 55 "FactShares$Share" "answerLow" "I" ∈ wsL_law := List.mem_of_getElem? (i := 359) (by decide +kernel)
theorem wd_360 : Cond.fieldLink RX0 60 "FactShares$Share" "answerHigh" "I" ∈ wsL_law := List.mem_of_getElem? (i := 360) (by decide +kernel)
theorem wd_361 : Cond.methodLink RX7 198 yX7_doNextAct ∈ wsL_law := List.mem_of_getElem? (i := 361) (by decide +kernel)
theorem wd_362 : Cond.instanceMethod yX7_doNextAct ∈ wsL_law := List.mem_of_getElem? (i := 362) (by decide +kernel)
theorem wd_363 : Cond.selects RX7 yX7_doNextAct yX7_doNextAct ∈ wsL_law := List.mem_of_getElem? (i := 363) (by decide +kernel)
theorem wd_364 : Cond.code yX7_doNextAct cX7_doNextAct 5 none ∈ wsL_law := List.mem_of_getElem? (i := 364) (by decide +kernel)
theorem wd_365 : Cond.fieldLink RX7 220 "FactShares$Worker" "nextAct" "I" ∈ wsL_law := List.mem_of_getElem? (i := 365) (by decide +kernel)
theorem wd_366 : Cond.fieldLink RX7 227 "FactShares$Share" "sort" "[I" ∈ wsL_law := List.mem_of_getElem? (i := 366) (by decide +kernel)
theorem wd_367 : Cond.fieldLink RX7 230 "FactShares$Share" "a" "[I" ∈ wsL_law := List.mem_of_getElem? (i := 367) (by decide +kernel)
theorem wd_368 : Cond.fieldLink RX7 233 "FactShares$Share" "b" "[I" ∈ wsL_law := List.mem_of_getElem? (i := 368) (by decide +kernel)
theorem wd_369 : Cond.methodLink RX7 236 yX0_doAct ∈ wsL_law := List.mem_of_getElem? (i := 369) (by decide +kernel)
theorem wd_370 : Cond.instanceMethod yX0_doAct ∈ wsL_law := List.mem_of_getElem? (i := 370) (by decide +kernel)
theorem wd_371 : Cond.selects RX0 yX0_doAct yX0_doAct ∈ wsL_law := List.mem_of_getElem? (i := 371) (by decide +kernel)
theorem wd_372 : Cond.code yX0_doAct cX0_doAct 5 (some .int) ∈ wsL_law := List.mem_of_getElem? (i := 372) (by decide +kernel)
theorem wd_373 : Cond.methodLink RX0 30 yX0_push ∈ wsL_law := List.mem_of_getElem? (i := 373) (by decide +kernel)
theorem wd_374 : Cond.instanceMethod yX0_push ∈ wsL_law := List.mem_of_getElem? (i := 374) (by decide +kernel)
theorem wd_375 : Cond.selects RX0 yX0_push yX0_push ∈ wsL_law := List.mem_of_getElem? (i := 375) (by decide +kernel)
theorem wd_376 : Cond.code yX0_push cX0_push 3 (some .int) ∈ wsL_law := List.mem_of_getElem? (i := 376) (by decide +kernel)
theorem wd_377 : Cond.methodLink RX0 34 yX0_pushFact ∈ wsL_law := List.mem_of_getElem? (i := 377) (by decide +kernel)
theorem wd_378 : Cond.instanceMethod yX0_pushFact ∈ wsL_law := List.mem_of_getElem? (i := 378) (by decide +kernel)
theorem wd_379 : Cond.selects RX0 yX0_pushFact yX0_pushFact ∈ wsL_law := List.mem_of_getElem? (i := 379) (by decide +kernel)
theorem wd_380 : Cond.code yX0_pushFact cX0_pushFact 3 (some .int) ∈ wsL_law := List.mem_of_getElem? (i := 380) (by decide +kernel)
theorem wd_381 : Cond.fieldLink RX0 69 "FactShares$Facts" "known" "[Z" ∈ wsL_law := List.mem_of_getElem? (i := 381) (by decide +kernel)
theorem wd_382 : Cond.fieldLink RX0 74 "FactShares$Facts" "low" "[I" ∈ wsL_law := List.mem_of_getElem? (i := 382) (by decide +kernel)
theorem wd_383 : Cond.fieldLink RX0 75 "FactShares$Facts" "high" "[I" ∈ wsL_law := List.mem_of_getElem? (i := 383) (by decide +kernel)
theorem wd_384 : Cond.methodLink RX0 38 yX0_joinUpperTwo ∈ wsL_law := List.mem_of_getElem? (i := 384) (by decide +kernel)
theorem wd_385 : Cond.instanceMethod yX0_joinUpperTwo ∈ wsL_law := List.mem_of_getElem? (i := 385) (by decide +kernel)
theorem wd_386 : Cond.selects RX0 yX0_joinUpperTwo yX0_joinUpperTwo ∈ wsL_law := List.mem_of_getElem? (i := 386) (by decide +kernel)
theorem wd_387 : Cond.code yX0_joinUpperTwo cX0_joinUpperTwo 4 (some .int) ∈ wsL_law := List.mem_of_getElem? (i := 387) (by decide +kernel)
theorem wd_388 : Cond.methodLink RX0 79 Lib.Math.max.name ∈ wsL_law := List.mem_of_getElem? (i := 388) (by decide +kernel)
theorem wd_389 : Cond.static Lib.Math.max.name ∈ wsL_law := List.mem_of_getElem? (i := 389) (by decide +kernel)
theorem wd_390 : Cond.code Lib.Math.max.name Lib.Math.max.code 2 (some .int) ∈ wsL_law := List.mem_of_getElem? (i := 390) (by decide +kernel)
theorem wd_391 : Cond.methodLink RX0 84 Lib.Math.min.name ∈ wsL_law := List.mem_of_getElem? (i := 391) (by decide +kernel)
theorem wd_392 : Cond.static yX7_nearestEnd ∈ wsL_law := List.mem_of_getElem? (i := 392) (by decide +kernel)
theorem wd_393 : Cond.code yX7_nearestEnd cX7_nearestEnd 1 (some .int) ∈ wsL_law := List.mem_of_getElem? (i := 393) (by decide +kernel)
theorem wd_394 : Cond.methodLink RX0 42 yX0_divideUpper ∈ wsL_law := List.mem_of_getElem? (i := 394) (by decide +kernel)
theorem wd_395 : Cond.instanceMethod yX0_divideUpper ∈ wsL_law := List.mem_of_getElem? (i := 395) (by decide +kernel)
theorem wd_396 : Cond.selects RX0 yX0_divideUpper yX0_divideUpper ∈ wsL_law := List.mem_of_getElem? (i := 396) (by decide +kernel)
theorem wd_397 : Cond.code yX0_divideUpper cX0_divideUpper 5 (some .int) ∈ wsL_law := List.mem_of_getElem? (i := 397) (by decide +kernel)
theorem wd_398 : Cond.methodLink RX0 45 yX0_testPoint ∈ wsL_law := List.mem_of_getElem? (i := 398) (by decide +kernel)
theorem wd_399 : Cond.instanceMethod yX0_testPoint ∈ wsL_law := List.mem_of_getElem? (i := 399) (by decide +kernel)
theorem wd_400 : Cond.selects RX0 yX0_testPoint yX0_testPoint ∈ wsL_law := List.mem_of_getElem? (i := 400) (by decide +kernel)
theorem wd_401 : Cond.code yX0_testPoint cX0_testPoint 1 (some .int) ∈ wsL_law := List.mem_of_getElem? (i := 401) (by decide +kernel)
theorem wd_402 : Cond.methodLink RX0 49 yX0_keepUpper ∈ wsL_law := List.mem_of_getElem? (i := 402) (by decide +kernel)
theorem wd_403 : Cond.instanceMethod yX0_keepUpper ∈ wsL_law := List.mem_of_getElem? (i := 403) (by decide +kernel)
theorem wd_404 : Cond.selects RX0 yX0_keepUpper yX0_keepUpper ∈ wsL_law := List.mem_of_getElem? (i := 404) (by decide +kernel)
theorem wd_405 : Cond.code yX0_keepUpper cX0_keepUpper 2 (some .int) ∈ wsL_law := List.mem_of_getElem? (i := 405) (by decide +kernel)
theorem wd_406 : Cond.methodLink RX0 87 yX0_isItem ∈ wsL_law := List.mem_of_getElem? (i := 406) (by decide +kernel)
theorem wd_407 : Cond.static yX0_isItem ∈ wsL_law := List.mem_of_getElem? (i := 407) (by decide +kernel)
theorem wd_408 : Cond.code yX0_isItem cX0_isItem 1 (some .boolean) ∈ wsL_law := List.mem_of_getElem? (i := 408) (by decide +kernel)
theorem wd_409 : Cond.methodLink RX0 52 yX0_takeItem ∈ wsL_law := List.mem_of_getElem? (i := 409) (by decide +kernel)
theorem wd_410 : Cond.instanceMethod yX0_takeItem ∈ wsL_law := List.mem_of_getElem? (i := 410) (by decide +kernel)
theorem wd_411 : Cond.selects RX0 yX0_takeItem yX0_takeItem ∈ wsL_law := List.mem_of_getElem? (i := 411) (by decide +kernel)
theorem wd_412 : Cond.code yX0_takeItem cX0_takeItem 2 (some .int) ∈ wsL_law := List.mem_of_getElem? (i := 412) (by decide +kernel)
theorem wd_413 : Cond.methodLink RX7 165 yX7_leastSpoilt ∈ wsL_law := List.mem_of_getElem? (i := 413) (by decide +kernel)
theorem wd_414 : Cond.instanceMethod yX7_leastSpoilt ∈ wsL_law := List.mem_of_getElem? (i := 414) (by decide +kernel)
theorem wd_415 : Cond.selects RX7 yX7_leastSpoilt yX7_leastSpoilt ∈ wsL_law := List.mem_of_getElem? (i := 415) (by decide +kernel)
theorem wd_416 : Cond.code yX7_leastSpoilt cX7_leastSpoilt 2 (some .int) ∈ wsL_law := List.mem_of_getElem? (i := 416) (by decide +kernel)
theorem wd_417 : Cond.methodLink RX7 169 yX7_actsOfAllShares ∈ wsL_law := List.mem_of_getElem? (i := 417) (by decide +kernel)
theorem wd_418 : Cond.instanceMethod yX7_actsOfAllShares ∈ wsL_law := List.mem_of_getElem? (i := 418) (by decide +kernel)
theorem wd_419 : Cond.selects RX7 yX7_actsOfAllShares yX7_actsOfAllShares ∈ wsL_law := List.mem_of_getElem? (i := 419) (by decide +kernel)
theorem wd_420 : Cond.code yX7_actsOfAllShares cX7_actsOfAllShares 3 (some .int) ∈ wsL_law := List.mem_of_getElem? (i := 420) (by decide +kernel)
theorem wd_421 : Cond.methodLink RX7 172 yX7_joinAnswers ∈ wsL_law := List.mem_of_getElem? (i := 421) (by decide +kernel)
theorem wd_422 : Cond.instanceMethod yX7_joinAnswers ∈ wsL_law := List.mem_of_getElem? (i := 422) (by decide +kernel)
theorem wd_423 : Cond.selects RX7 yX7_joinAnswers yX7_joinAnswers ∈ wsL_law := List.mem_of_getElem? (i := 423) (by decide +kernel)
theorem wd_424 : Cond.code yX7_joinAnswers cX7_joinAnswers 4 (some .boolean) ∈ wsL_law := List.mem_of_getElem? (i := 424) (by decide +kernel)
theorem wd_425 : Cond.methodLink RX7 247 yX2_join ∈ wsL_law := List.mem_of_getElem? (i := 425) (by decide +kernel)
theorem wd_426 : Cond.instanceMethod yX2_join ∈ wsL_law := List.mem_of_getElem? (i := 426) (by decide +kernel)
theorem wd_427 : Cond.selects RX2 yX2_join yX2_join ∈ wsL_law := List.mem_of_getElem? (i := 427) (by decide +kernel)
theorem wd_428 : Cond.code yX2_join cX2_join 6 (some .boolean) ∈ wsL_law := List.mem_of_getElem? (i := 428) (by decide +kernel)
theorem wd_429 : Cond.fieldLink RX2 26 "FactShares$Share" "aim" "I" ∈ wsL_law := List.mem_of_getElem? (i := 429) (by decide +kernel)
theorem wd_430 : Cond.fieldLink RX2 32 "FactShares$Share" "answerLow" "I" ∈ wsL_law := List.mem_of_getElem? (i := 430) (by decide +kernel)
theorem wd_431 : Cond.fieldLink RX2 35 "FactShares$Share" "answerHigh" "I" ∈ wsL_law := List.mem_of_getElem? (i := 431) (by decide +kernel)
theorem wd_432 : Cond.methodLink RX2 38 yX2_put ∈ wsL_law := List.mem_of_getElem? (i := 432) (by decide +kernel)
theorem wd_433 : Cond.methodLink RX2 42 yX2_boundBelow ∈ wsL_law := List.mem_of_getElem? (i := 433) (by decide +kernel)
theorem wd_434 : Cond.static yX2_boundBelow ∈ wsL_law := List.mem_of_getElem? (i := 434) (by decide +kernel)
theorem wd_435 : Cond.code yX2_boundBelow cX2_boundBelow 2 (some .int) ∈ wsL_law := List.mem_of_getElem? (i := 435) (by decide +kernel)
theorem wd_436 : Cond.fieldLink RX2 49 "FactShares$Facts" "BOUNDS" "[I" ∈ wsL_law := List.mem_of_getElem? (i := 436) (by decide +kernel)
theorem wd_437 : Cond.constant RX2 52 (-1000000) ∈ wsL_law := List.mem_of_getElem? (i := 437) (by decide +kernel)
theorem wd_438 : Cond.methodLink RX2 46 yX2_boundAbove ∈ wsL_law := List.mem_of_getElem? (i := 438) (by decide +kernel)
theorem wd_439 : Cond.static yX2_boundAbove ∈ wsL_law := List.mem_of_getElem? (i := 439) (by decide +kernel)
theorem wd_440 : Cond.code yX2_boundAbove cX2_boundAbove 2 (some .int) ∈ wsL_law := List.mem_of_getElem? (i := 440) (by decide +kernel)
theorem wd_441 : Cond.constant RX2 53 (1000000) ∈ wsL_law := List.mem_of_getElem? (i := 441) (by decide +kernel)
theorem wd_442 : Cond.methodLink RL 52 yX8_run ∈ wsL_law := List.mem_of_getElem? (i := 442) (by decide +kernel)
theorem wd_443 : Cond.instanceMethod yX8_run ∈ wsL_law := List.mem_of_getElem? (i := 443) (by decide +kernel)
theorem wd_444 : Cond.selects RX8 yX8_run yX8_run ∈ wsL_law := List.mem_of_getElem? (i := 444) (by decide +kernel)
theorem wd_445 : Cond.code yX8_run cX8_run 6 (some .int) ∈ wsL_law := List.mem_of_getElem? (i := 445) (by decide +kernel)
theorem wd_446 : Cond.fieldLink RX8 172 "FactSharesModel" "rounds" "I" ∈ wsL_law := List.mem_of_getElem? (i := 446) (by decide +kernel)
theorem wd_447 : Cond.fieldLink RX8 175 "FactSharesModel" "badKind" "I" ∈ wsL_law := List.mem_of_getElem? (i := 447) (by decide +kernel)
theorem wd_448 : Cond.fieldLink RX8 178 "FactSharesModel" "counted" "I" ∈ wsL_law := List.mem_of_getElem? (i := 448) (by decide +kernel)
theorem wd_449 : Cond.fieldLink RX8 147 "FactSharesModel" "taken" "I" ∈ wsL_law := List.mem_of_getElem? (i := 449) (by decide +kernel)
theorem wd_450 : Cond.fieldLink RX8 130 "FactSharesModel" "left" "I" ∈ wsL_law := List.mem_of_getElem? (i := 450) (by decide +kernel)
theorem wd_451 : Cond.methodLink RX8 181 yX8_round ∈ wsL_law := List.mem_of_getElem? (i := 451) (by decide +kernel)
theorem wd_452 : Cond.instanceMethod yX8_round ∈ wsL_law := List.mem_of_getElem? (i := 452) (by decide +kernel)
theorem wd_453 : Cond.selects RX8 yX8_round yX8_round ∈ wsL_law := List.mem_of_getElem? (i := 453) (by decide +kernel)
theorem wd_454 : Cond.code yX8_round cX8_round 2 (some .boolean) ∈ wsL_law := List.mem_of_getElem? (i := 454) (by decide +kernel)
theorem wd_455 : Cond.fieldLink RX8 141 "FactSharesModel" "head" "I" ∈ wsL_law := List.mem_of_getElem? (i := 455) (by decide +kernel)
theorem wd_456 : Cond.fieldLink RX8 144 "FactSharesModel" "tail" "I" ∈ wsL_law := List.mem_of_getElem? (i := 456) (by decide +kernel)
theorem wd_457 : Cond.methodLink RX8 162 yX8_areDone ∈ wsL_law := List.mem_of_getElem? (i := 457) (by decide +kernel)
theorem wd_458 : Cond.instanceMethod yX8_areDone ∈ wsL_law := List.mem_of_getElem? (i := 458) (by decide +kernel)
theorem wd_459 : Cond.selects RX8 yX8_areDone yX8_areDone ∈ wsL_law := List.mem_of_getElem? (i := 459) (by decide +kernel)
theorem wd_460 : Cond.code yX8_areDone cX8_areDone 2 (some .boolean) ∈ wsL_law := List.mem_of_getElem? (i := 460) (by decide +kernel)
theorem wd_461 : Cond.methodLink RX8 166 yX8_turn ∈ wsL_law := List.mem_of_getElem? (i := 461) (by decide +kernel)
theorem wd_462 : Cond.instanceMethod yX8_turn ∈ wsL_law := List.mem_of_getElem? (i := 462) (by decide +kernel)
theorem wd_463 : Cond.selects RX8 yX8_turn yX8_turn ∈ wsL_law := List.mem_of_getElem? (i := 463) (by decide +kernel)
theorem wd_464 : Cond.code yX8_turn cX8_turn 3 none ∈ wsL_law := List.mem_of_getElem? (i := 464) (by decide +kernel)
theorem wd_465 : Cond.fieldLink RX8 133 "FactSharesModel" "turns" "I" ∈ wsL_law := List.mem_of_getElem? (i := 465) (by decide +kernel)
theorem wd_466 : Cond.constant RX8 136 (1103515245) ∈ wsL_law := List.mem_of_getElem? (i := 466) (by decide +kernel)
theorem wd_467 : Cond.methodLink RX8 137 yX8_workerAt ∈ wsL_law := List.mem_of_getElem? (i := 467) (by decide +kernel)
theorem wd_468 : Cond.instanceMethod yX8_workerAt ∈ wsL_law := List.mem_of_getElem? (i := 468) (by decide +kernel)
theorem wd_469 : Cond.selects RX8 yX8_workerAt yX8_workerAt ∈ wsL_law := List.mem_of_getElem? (i := 469) (by decide +kernel)
theorem wd_470 : Cond.code yX8_workerAt cX8_workerAt 4 (some .int) ∈ wsL_law := List.mem_of_getElem? (i := 470) (by decide +kernel)
theorem wd_471 : Cond.methodLink RX8 150 yX8_begin ∈ wsL_law := List.mem_of_getElem? (i := 471) (by decide +kernel)
theorem wd_472 : Cond.instanceMethod yX8_begin ∈ wsL_law := List.mem_of_getElem? (i := 472) (by decide +kernel)
theorem wd_473 : Cond.selects RX8 yX8_begin yX8_begin ∈ wsL_law := List.mem_of_getElem? (i := 473) (by decide +kernel)
theorem wd_474 : Cond.code yX8_begin cX8_begin 3 none ∈ wsL_law := List.mem_of_getElem? (i := 474) (by decide +kernel)
theorem wd_475 : Cond.methodLink RX8 154 yX8_done ∈ wsL_law := List.mem_of_getElem? (i := 475) (by decide +kernel)
theorem wd_476 : Cond.instanceMethod yX8_done ∈ wsL_law := List.mem_of_getElem? (i := 476) (by decide +kernel)
theorem wd_477 : Cond.selects RX8 yX8_done yX8_done ∈ wsL_law := List.mem_of_getElem? (i := 477) (by decide +kernel)
theorem wd_478 : Cond.code yX8_done cX8_done 3 none ∈ wsL_law := List.mem_of_getElem? (i := 478) (by decide +kernel)
theorem wd_479 : Cond.methodLink RX8 158 yX8_work ∈ wsL_law := List.mem_of_getElem? (i := 479) (by decide +kernel)
theorem wd_480 : Cond.instanceMethod yX8_work ∈ wsL_law := List.mem_of_getElem? (i := 480) (by decide +kernel)
theorem wd_481 : Cond.selects RX8 yX8_work yX8_work ∈ wsL_law := List.mem_of_getElem? (i := 481) (by decide +kernel)
theorem wd_482 : Cond.code yX8_work cX8_work 8 (some .int) ∈ wsL_law := List.mem_of_getElem? (i := 482) (by decide +kernel)
theorem wd_483 : Cond.methodLink RX8 115 yX8_push ∈ wsL_law := List.mem_of_getElem? (i := 483) (by decide +kernel)
theorem wd_484 : Cond.instanceMethod yX8_push ∈ wsL_law := List.mem_of_getElem? (i := 484) (by decide +kernel)
theorem wd_485 : Cond.selects RX8 yX8_push yX8_push ∈ wsL_law := List.mem_of_getElem? (i := 485) (by decide +kernel)
theorem wd_486 : Cond.code yX8_push cX8_push 4 (some .int) ∈ wsL_law := List.mem_of_getElem? (i := 486) (by decide +kernel)
theorem wd_487 : Cond.methodLink RX8 119 yX8_by ∈ wsL_law := List.mem_of_getElem? (i := 487) (by decide +kernel)
theorem wd_488 : Cond.instanceMethod yX8_by ∈ wsL_law := List.mem_of_getElem? (i := 488) (by decide +kernel)
theorem wd_489 : Cond.selects RX8 yX8_by yX8_by ∈ wsL_law := List.mem_of_getElem? (i := 489) (by decide +kernel)
theorem wd_490 : Cond.code yX8_by cX8_by 7 (some .int) ∈ wsL_law := List.mem_of_getElem? (i := 490) (by decide +kernel)
theorem wd_491 : Cond.methodLink RX8 126 yX8_nearest ∈ wsL_law := List.mem_of_getElem? (i := 491) (by decide +kernel)
theorem wd_492 : Cond.static yX8_nearest ∈ wsL_law := List.mem_of_getElem? (i := 492) (by decide +kernel)
theorem wd_493 : Cond.code yX8_nearest cX8_nearest 2 (some .int) ∈ wsL_law := List.mem_of_getElem? (i := 493) (by decide +kernel)
theorem wd_494 : Cond.constantLong RX8 111 (-1000000) ∈ wsL_law := List.mem_of_getElem? (i := 494) (by decide +kernel)
theorem wd_495 : Cond.constantLong RX8 113 (1000000) ∈ wsL_law := List.mem_of_getElem? (i := 495) (by decide +kernel)
theorem wd_496 : Cond.methodLink RX8 123 yX8_both ∈ wsL_law := List.mem_of_getElem? (i := 496) (by decide +kernel)
theorem wd_497 : Cond.instanceMethod yX8_both ∈ wsL_law := List.mem_of_getElem? (i := 497) (by decide +kernel)
theorem wd_498 : Cond.selects RX8 yX8_both yX8_both ∈ wsL_law := List.mem_of_getElem? (i := 498) (by decide +kernel)
theorem wd_499 : Cond.code yX8_both cX8_both 9 (some .int) ∈ wsL_law := List.mem_of_getElem? (i := 499) (by decide +kernel)
theorem wd_500 : Cond.methodLink RX8 184 yX8_join ∈ wsL_law := List.mem_of_getElem? (i := 500) (by decide +kernel)
theorem wd_501 : Cond.instanceMethod yX8_join ∈ wsL_law := List.mem_of_getElem? (i := 501) (by decide +kernel)
theorem wd_502 : Cond.selects RX8 yX8_join yX8_join ∈ wsL_law := List.mem_of_getElem? (i := 502) (by decide +kernel)
theorem wd_503 : Cond.code yX8_join cX8_join 8 (some .boolean) ∈ wsL_law := List.mem_of_getElem? (i := 503) (by decide +kernel)
theorem wd_504 : Cond.methodLink RX8 169 yX8_bound ∈ wsL_law := List.mem_of_getElem? (i := 504) (by decide +kernel)
theorem wd_505 : Cond.static yX8_bound ∈ wsL_law := List.mem_of_getElem? (i := 505) (by decide +kernel)
theorem wd_506 : Cond.code yX8_bound cX8_bound 1 (some .int) ∈ wsL_law := List.mem_of_getElem? (i := 506) (by decide +kernel)
theorem wd_507 : Cond.methodLink RL 53 yX7_told ∈ wsL_law := List.mem_of_getElem? (i := 507) (by decide +kernel)
theorem wd_508 : Cond.instanceMethod yX7_told ∈ wsL_law := List.mem_of_getElem? (i := 508) (by decide +kernel)
theorem wd_509 : Cond.selects RX7 yX7_told yX7_told ∈ wsL_law := List.mem_of_getElem? (i := 509) (by decide +kernel)
theorem wd_510 : Cond.code yX7_told cX7_told 2 (some .int) ∈ wsL_law := List.mem_of_getElem? (i := 510) (by decide +kernel)
theorem wd_511 : Cond.fieldLink RX7 147 "FactShares$Crew" "latest" "I" ∈ wsL_law := List.mem_of_getElem? (i := 511) (by decide +kernel)
theorem wd_512 : Cond.methodLink RL 56 yX8_told ∈ wsL_law := List.mem_of_getElem? (i := 512) (by decide +kernel)
theorem wd_513 : Cond.instanceMethod yX8_told ∈ wsL_law := List.mem_of_getElem? (i := 513) (by decide +kernel)
theorem wd_514 : Cond.selects RX8 yX8_told yX8_told ∈ wsL_law := List.mem_of_getElem? (i := 514) (by decide +kernel)
theorem wd_515 : Cond.code yX8_told cX8_told 2 (some .int) ∈ wsL_law := List.mem_of_getElem? (i := 515) (by decide +kernel)
theorem wd_516 : Cond.methodLink RL 57 yX7_doer ∈ wsL_law := List.mem_of_getElem? (i := 516) (by decide +kernel)
theorem wd_517 : Cond.instanceMethod yX7_doer ∈ wsL_law := List.mem_of_getElem? (i := 517) (by decide +kernel)
theorem wd_518 : Cond.selects RX7 yX7_doer yX7_doer ∈ wsL_law := List.mem_of_getElem? (i := 518) (by decide +kernel)
theorem wd_519 : Cond.code yX7_doer cX7_doer 2 (some .int) ∈ wsL_law := List.mem_of_getElem? (i := 519) (by decide +kernel)
theorem wd_520 : Cond.methodLink RL 60 yX8_doer ∈ wsL_law := List.mem_of_getElem? (i := 520) (by decide +kernel)
theorem wd_521 : Cond.instanceMethod yX8_doer ∈ wsL_law := List.mem_of_getElem? (i := 521) (by decide +kernel)
theorem wd_522 : Cond.selects RX8 yX8_doer yX8_doer ∈ wsL_law := List.mem_of_getElem? (i := 522) (by decide +kernel)
theorem wd_523 : Cond.code yX8_doer cX8_doer 2 (some .int) ∈ wsL_law := List.mem_of_getElem? (i := 523) (by decide +kernel)
theorem wd_524 : Cond.methodLink RL 61 yX7_clear ∈ wsL_law := List.mem_of_getElem? (i := 524) (by decide +kernel)
theorem wd_525 : Cond.instanceMethod yX7_clear ∈ wsL_law := List.mem_of_getElem? (i := 525) (by decide +kernel)
theorem wd_526 : Cond.selects RX7 yX7_clear yX7_clear ∈ wsL_law := List.mem_of_getElem? (i := 526) (by decide +kernel)
theorem wd_527 : Cond.code yX7_clear cX7_clear 1 (some .int) ∈ wsL_law := List.mem_of_getElem? (i := 527) (by decide +kernel)
theorem wd_528 : Cond.methodLink RX7 153 yX2_forgetAll ∈ wsL_law := List.mem_of_getElem? (i := 528) (by decide +kernel)
theorem wd_529 : Cond.instanceMethod yX2_forgetAll ∈ wsL_law := List.mem_of_getElem? (i := 529) (by decide +kernel)
theorem wd_530 : Cond.selects RX2 yX2_forgetAll yX2_forgetAll ∈ wsL_law := List.mem_of_getElem? (i := 530) (by decide +kernel)
theorem wd_531 : Cond.code yX2_forgetAll cX2_forgetAll 3 (some .int) ∈ wsL_law := List.mem_of_getElem? (i := 531) (by decide +kernel)
theorem wd_532 : Cond.methodLink RL 65 yX8_clear ∈ wsL_law := List.mem_of_getElem? (i := 532) (by decide +kernel)
theorem wd_533 : Cond.instanceMethod yX8_clear ∈ wsL_law := List.mem_of_getElem? (i := 533) (by decide +kernel)
theorem wd_534 : Cond.selects RX8 yX8_clear yX8_clear ∈ wsL_law := List.mem_of_getElem? (i := 534) (by decide +kernel)
theorem wd_535 : Cond.code yX8_clear cX8_clear 3 (some .int) ∈ wsL_law := List.mem_of_getElem? (i := 535) (by decide +kernel)
theorem wd_good : wsL_law.all goodWord = true := by decide +kernel
end
section
/-! THE WORLD: the class's cells and the reference's, by kind and number. -/
abbrev MC : Type := (Nat → Nat → Nat → Int32) × (Nat → Nat → Option Nat)
abbrev MM : Type := Nat → Nat → Int32
abbrev MW : Type := MC × MM
def up3 (c : Nat → Nat → Nat → Int32) (k i j : Nat) (v : Int32) : Nat → Nat → Nat → Int32 := fun k' i' j' => if k' = k ∧ i' = i ∧ j' = j then v else c k' i' j'
def up2 (c : Nat → Nat → Int32) (k j : Nat) (v : Int32) : Nat → Nat → Int32 := fun k' j' => if k' = k ∧ j' = j then v else c k' j'
def upr (c : Nat → Nat → Option Nat) (k j : Nat) (v : Option Nat) : Nat → Nat → Option Nat := fun k' j' => if k' = k ∧ j' = j then v else c k' j'
abbrev GG : Type := va_G × (ClassId × ClassId × ClassId × ClassId) × (Nat → Nat → Nat) × Nat × Nat
def gad (g : GG) : Nat → Nat → Nat := g.2.2.1
def gA (g : GG) : Nat → Prop := fun q => g.2.2.2.1 ≤ q
def gtB (g : GG) : Nat := g.2.2.2.2
def gcI (g : GG) : ClassId := g.2.1.1
def gcZ (g : GG) : ClassId := g.2.1.2.1
def gcS (g : GG) : ClassId := g.2.1.2.2.1
def gcW (g : GG) : ClassId := g.2.1.2.2.2
def gty (g : GG) : List (ClassId × FieldType) := [(gcI g, .int), (gcZ g, .boolean), (gcS g, .object RX4), (gcW g, .object RX6)]
abbrev aI (c : ClassId) (n : Nat) (f : Nat → Int32) : va_E := .inl (c, n, .inl f)
abbrev aR (c : ClassId) (n : Nat) (f : Nat → Option Nat) : va_E := .inl (c, n, .inr (.inr (.inr (.inr f))))
def ent (g : GG) (m : MW) (k i : Nat) : va_E := match k with
  | 0 => .inr (7, [.ref (gad g 1 0), .ref (gad g 5 0), .ref (gad g 6 0), .ref (gad g 8 0), .ref (gad g 10 0), .int (m.1.1 0 i 5), .int (m.1.1 0 i 6), .int (m.1.1 0 i 7), .int (m.1.1 0 i 8)])
  | 1 => .inr (2, [.ref (gad g 2 0), .ref (gad g 3 0), .ref (gad g 4 0)])
  | 2 => aI (gcZ g) 10 (m.1.1 2 i)
  | 3 => aI (gcI g) 10 (m.1.1 3 i)
  | 4 => aI (gcI g) 10 (m.1.1 4 i)
  | 5 => aR (gcS g) 10 (fun j => some (gad g 11 j))
  | 6 => .inr (3, [.ref (gad g 7 0), .int (m.1.1 6 i 1), .int (m.1.1 6 i 2)])
  | 7 => aR (gcS g) 10 (fun j => (m.1.2 1 j).map (gad g 11))
  | 8 => .inr (1, [.ref (gad g 9 0), .int (m.1.1 8 i 1), .int (m.1.1 8 i 2), .int (m.1.1 8 i 3), .int (m.1.1 8 i 4)])
  | 9 => aR (gcW g) 4 (fun j => some (gad g 15 j))
  | 10 => .inr (5, [.int (m.1.1 10 i 0), .int (m.1.1 10 i 1), .int (m.1.1 10 i 2), .int (m.1.1 10 i 3), .int (m.1.1 10 i 4), .int (m.1.1 10 i 5)])
  | 11 => .inr (4, [.ref (gad g 12 i), .ref (gad g 13 i), .ref (gad g 14 i), .int (m.1.1 11 i 3), .int (m.1.1 11 i 4), .int (m.1.1 11 i 5), .int (m.1.1 11 i 6), .int (m.1.1 11 i 7), .int (m.1.1 11 i 8)])
  | 12 => aI (gcI g) 8 (m.1.1 12 i)
  | 13 => aI (gcI g) 8 (m.1.1 13 i)
  | 14 => aI (gcI g) 8 (m.1.1 14 i)
  | 15 => .inr (6, [.int (nI i), .ref (gad g 16 i), .int (m.1.1 15 i 2), .int (m.1.1 15 i 3), va_rf ((m.1.2 0 i).map (gad g 11)), .int (m.1.1 15 i 5)])
  | 16 => .inr (0, [.ref (gad g 17 i), .ref (gad g 18 i), .int (m.1.1 16 i 2), .ref (gad g 19 i), .ref (gad g 20 i), .ref (gad g 21 i)])
  | 17 => aI (gcI g) 3 (m.1.1 17 i)
  | 18 => aI (gcI g) 3 (m.1.1 18 i)
  | 19 => aI (gcZ g) 3 (m.1.1 19 i)
  | 20 => aI (gcI g) 3 (m.1.1 20 i)
  | 21 => aI (gcI g) 3 (m.1.1 21 i)
  | 22 => .inr (8, [.ref (gad g 30 0), .ref (gad g 31 0), .int (m.2 22 2), .ref (gad g 33 0), .ref (gad g 34 0), .ref (gad g 35 0), .ref (gad g 36 0), .ref (gad g 37 0), .ref (gad g 38 0), .ref (gad g 39 0), .ref (gad g 40 0), .ref (gad g 41 0), .ref (gad g 42 0), .ref (gad g 43 0), .ref (gad g 44 0), .ref (gad g 45 0), .ref (gad g 46 0), .ref (gad g 47 0), .int (m.2 22 18), .int (m.2 22 19), .ref (gad g 50 0), .ref (gad g 51 0), .ref (gad g 52 0), .int (m.2 22 23), .int (m.2 22 24), .int (m.2 22 25), .int (m.2 22 26), .int (m.2 22 27), .int (m.2 22 28), .int (m.2 22 29), .int (m.2 22 30), .int (m.2 22 31), .int (m.2 22 32), .int (m.2 22 33)])
  | 30 => aI (gcI g) 10 (m.2 30)
  | 31 => aI (gcI g) 10 (m.2 31)
  | 33 => aI (gcI g) 10 (m.2 33)
  | 34 => aI (gcI g) 10 (m.2 34)
  | 35 => aI (gcI g) 80 (m.2 35)
  | 36 => aI (gcI g) 80 (m.2 36)
  | 37 => aI (gcI g) 80 (m.2 37)
  | 38 => aI (gcI g) 10 (m.2 38)
  | 39 => aI (gcI g) 10 (m.2 39)
  | 40 => aI (gcI g) 30 (m.2 40)
  | 41 => aI (gcI g) 30 (m.2 41)
  | 42 => aI (gcI g) 30 (m.2 42)
  | 43 => aI (gcI g) 30 (m.2 43)
  | 44 => aI (gcI g) 10 (m.2 44)
  | 45 => aI (gcI g) 10 (m.2 45)
  | 46 => aI (gcZ g) 10 (m.2 46)
  | 47 => aI (gcI g) 400 (m.2 47)
  | 50 => aI (gcZ g) 4 (m.2 50)
  | 51 => aI (gcI g) 4 (m.2 51)
  | 52 => aI (gcI g) 4 (m.2 52)
  | _ => .inr (0, [])
/-- how many there are of a kind -/
def cnt (k : Nat) : Nat := match k with
  | 11 => 10 | 12 => 10 | 13 => 10 | 14 => 10
  | 15 => 4 | 16 => 4 | 17 => 4 | 18 => 4 | 19 => 4 | 20 => 4 | 21 => 4
  | 0 => 1 | 1 => 1 | 2 => 1 | 3 => 1 | 4 => 1 | 5 => 1 | 6 => 1 | 7 => 1 | 8 => 1 | 9 => 1 | 10 => 1 | 22 => 1
  | 30 => 1 | 31 => 1 | 33 => 1 | 34 => 1 | 35 => 1 | 36 => 1 | 37 => 1 | 38 => 1 | 39 => 1 | 40 => 1 | 41 => 1 | 42 => 1 | 43 => 1 | 44 => 1 | 45 => 1 | 46 => 1 | 47 => 1 | 50 => 1 | 51 => 1 | 52 => 1
  | _ => 0
def ids : List (Nat × Nat) := (List.range 53).flatMap (fun k => (List.range (cnt k)).map (fun i => (k, i)))
theorem ids_nd : ids.Nodup := by decide +kernel
theorem ids_in {k i : Nat} (h : i < cnt k) : (k, i) ∈ ids := by
  have hk : k < 53 := by
    rcases Nat.lt_or_ge k 53 with h1 | h1
    · exact h1
    · exfalso
      have : cnt k = 0 := by
        obtain ⟨j, rfl⟩ := Nat.exists_eq_add_of_le h1
        rw [Nat.add_comm]
        rfl
      omega
  exact List.mem_flatMap.mpr ⟨k, List.mem_range.mpr hk, List.mem_map.mpr ⟨i, List.mem_range.mpr h, rfl⟩⟩
def pic (g : GG) (m : MW) : va_W := ids.map (fun q => (gad g q.1 q.2, ent g m q.1 q.2))
theorem pic_at (g : GG) (m : MW) {k i q : Nat} (h : ids[q]? = some (k, i)) : (pic g m)[q]? = some (gad g k i, ent g m k i) := by
  simp only [pic, List.getElem?_map, h, Option.map_some]
theorem ids_pos {k i : Nat} (h : i < cnt k) : ∃ q : Nat, ids[q]? = some (k, i) := List.getElem?_of_mem (ids_in h)
theorem pic_set (g : GG) (m m' : MW) {k i q : Nat} {e : va_E} (h : ids[q]? = some (k, i)) (he : ent g m' k i = e) (ho : ∀ k' i', (k' ≠ k ∨ i' ≠ i) → i' < cnt k' → ent g m' k' i' = ent g m k' i') : (pic g m).set q (gad g k i, e) = pic g m' := by
  have hql := (List.getElem?_eq_some_iff.mp h).1
  apply List.ext_getElem?
  intro j
  by_cases hj : j = q
  · subst hj
    rw [List.getElem?_set_self (by simpa [pic] using hql), pic_at g m' h, he]
  · rw [List.getElem?_set_ne (Ne.symm hj)]
    simp only [pic, List.getElem?_map]
    cases hb : ids[j]? with
    | none => rfl
    | some b =>
      obtain ⟨k', i'⟩ := b
      have hne : k' ≠ k ∨ i' ≠ i := by
        by_cases h1 : k' = k
        · by_cases h2 : i' = i
          · subst h1; subst h2
            exfalso
            have hjl := (List.getElem?_eq_some_iff.mp hb).1
            have := (List.getElem?_inj hjl ids_nd).mp (hb.trans h.symm)
            exact hj this
          · exact Or.inr h2
        · exact Or.inl h1
      have hc : i' < cnt k' := by
        have hm : (k', i') ∈ ids := List.mem_of_getElem? hb
        obtain ⟨a, ha, hm⟩ := List.mem_flatMap.mp hm
        obtain ⟨b, hb2, hm⟩ := List.mem_map.mp hm
        cases hm
        exact List.mem_range.mp hb2
      simp only [Option.map_some, ho k' i' hne hc]
theorem up3_ne {c : Nat → Nat → Nat → Int32} {k i j : Nat} {v : Int32} {k' i' : Nat} (h : k' ≠ k ∨ i' ≠ i) : up3 c k i j v k' i' = c k' i' := by
  funext j'
  unfold up3
  rw [if_neg]
  rintro ⟨a, b, -⟩
  rcases h with h | h
  · exact h a
  · exact h b
theorem up3_eq {c : Nat → Nat → Nat → Int32} {k i j : Nat} {v : Int32} : up3 c k i j v k i = upd (c k i) j v := by
  funext j'
  simp [up3, upd]
theorem up3_self {c : Nat → Nat → Nat → Int32} {k i j : Nat} {v : Int32} : up3 c k i j v k i j = v := by simp [up3]
theorem up3_nj {c : Nat → Nat → Nat → Int32} {k i j j' : Nat} {v : Int32} (h : j' ≠ j) : up3 c k i j v k i j' = c k i j' := by simp [up3, h]
theorem up2_ne {c : Nat → Nat → Int32} {k j : Nat} {v : Int32} {k' : Nat} (h : k' ≠ k) : up2 c k j v k' = c k' := by
  funext j'
  simp [up2, h]
theorem up2_eq {c : Nat → Nat → Int32} {k j : Nat} {v : Int32} : up2 c k j v k = upd (c k) j v := by
  funext j'
  simp [up2, upd]
theorem upr_ne {c : Nat → Nat → Option Nat} {k j : Nat} {v : Option Nat} {k' j' : Nat} (h : k' ≠ k ∨ j' ≠ j) : upr c k j v k' j' = c k' j' := by
  unfold upr
  rw [if_neg]
  rintro ⟨a, b⟩
  rcases h with h | h
  · exact h a
  · exact h b
/-- which kinds hold the mutable references -/
theorem ent_ne3 (g : GG) (m : MW) (k i j : Nat) (v : Int32) (k' i' : Nat) (h : k' ≠ k ∨ i' ≠ i) : ent g ((up3 m.1.1 k i j v, m.1.2), m.2) k' i' = ent g m k' i' := by
  have h2 := fun j' => congrFun (up3_ne (c := m.1.1) (j := j) (v := v) h) j'
  have h1 := up3_ne (c := m.1.1) (j := j) (v := v) h
  unfold ent
  split <;> first | rfl | simp only [h1, h2]
theorem ent_ne2 (g : GG) (m : MW) (k j : Nat) (v : Int32) (k' i' : Nat) (h : k' ≠ k) : ent g (m.1, up2 m.2 k j v) k' i' = ent g m k' i' := by
  have h2 := fun j' => congrFun (up2_ne (c := m.2) (j := j) (v := v) h) j'
  have h1 := up2_ne (c := m.2) (j := j) (v := v) h
  unfold ent
  split <;> first | rfl | simp only [h1, h2]
theorem ent_ner0 (g : GG) (m : MW) (w : Nat) (v : Option Nat) (k' i' : Nat) (h : k' ≠ 15 ∨ i' ≠ w) : ent g ((m.1.1, upr m.1.2 0 w v), m.2) k' i' = ent g m k' i' := by
  have h1 : ∀ j', upr m.1.2 0 w v 1 j' = m.1.2 1 j' := fun j' => upr_ne (Or.inl (by decide))
  by_cases hk : k' = 15
  · subst hk
    have h2 : i' ≠ w := by
      rcases h with h | h
      · exact absurd rfl h
      · exact h
    have h3 : upr m.1.2 0 w v 0 i' = m.1.2 0 i' := upr_ne (Or.inr h2)
    simp only [ent, h3]
  · unfold ent
    split <;> first | rfl | exact absurd rfl hk | simp only [h1]
theorem ent_ner1 (g : GG) (m : MW) (j : Nat) (v : Option Nat) (k' i' : Nat) (h : k' ≠ 7) : ent g ((m.1.1, upr m.1.2 1 j v), m.2) k' i' = ent g m k' i' := by
  have h1 : ∀ j', upr m.1.2 1 j v 0 j' = m.1.2 0 j' := fun j' => upr_ne (Or.inl (by decide))
  unfold ent
  split <;> first | rfl | exact absurd rfl h | simp only [h1]
end
section
def bnd (j : Nat) : Int32 := match j with
  | 0 => -1000000 | 1 => -1000 | 2 => -100 | 3 => -10 | 4 => 0 | 5 => 10 | 6 => 100 | 7 => 1000 | _ => 1000000
/-- what holds of a state throughout: the tables, the addresses apart, the class's constants -/
def Wd (g : GG) (U : State) : Prop := va_K g.1 vwCl (gty g) U ∧ (∀ m, va_D (gA g) (pic g m)) ∧ va_Z RX2 "BOUNDS" "[I" (.ref (gtB g)) (gA g) U U.heap ∧ va_T .int (gtB g) 9 (fun j => .int (bnd j)) (gA g) U U.heap ∧ va_Nw (.methodLinkNest RX0 63 yX7_isFact RX7) U ∧ va_Nw (.methodLinkNest RX0 76 yX7_nearestEnd RX7) U ∧ va_Nw (.methodLinkNest RX2 22 yX7_isFact RX7) U
def World (g : GG) (m : MW) (U : State) : Prop := va_P g.1 vwCl (pic g m) U.heap ∧ Wd g U
theorem Wd.same {g : GG} {u U : State} (hh : U.heap = u.heap) (hv : U.vm = u.vm) (h : Wd g u) : Wd g U := by
  obtain ⟨h1, h2, h3, h4, h5, h6, h7⟩ := h
  have ha : u.vm.Alike U.vm := by rw [hv]; exact Vm.Alike.refl _
  refine ⟨va_K.moved ha h1, h2, ?_, ?_, va_Nw.same rfl hv.symm h5, va_Nw.same rfl hv.symm h6, va_Nw.same rfl hv.symm h7⟩
  · rw [hh]; exact va_Z.moved ha h3
  · rw [hh]; exact va_T.moved ha h4
theorem World.blind {g : GG} {m : MW} {av : List Value} : FrameBlind (va_Pc av (World g m)) := by
  intro a U f mk h
  exact ⟨h.1, h.2.1, h.2.2.same rfl rfl⟩
theorem Wd.warm {g : GG} {s U : State} {H : Heap} {locs : List Loc} (hS : va_S (gA g) s.heap H locs) (hU : U.heap = H) (hW : s.WarmedH U.vm) (h : Wd g s) : Wd g U := by
  obtain ⟨h1, h2, h3, h4, h5, h6, h7⟩ := h
  refine ⟨va_K.moved hW.alike h1, h2, ?_, ?_, va_Nw.warmM hW h5, va_Nw.warmM hW h6, va_Nw.warmM hW h7⟩
  · rw [hU]; exact va_Z.moved hW.alike (h3.kept hS.2.1)
  · rw [hU]; exact va_T.moved hW.alike (h4.kept hS.2.1)
def QE (g : GG) (E : Option Value → MW → Prop) : Array Value → State → Outcome → State → Prop := fun _ st oc t => (∃ (r : Option Value) (m' : MW), oc = .returned r ∧ E r m' ∧ va_P g.1 vwCl (pic g m') t.heap) ∧ va_F (gA g) st t
/-- A CONTRACT: y, on these arguments, in any state that holds the world m: it returns, E of its answer and of the new world -/
def Ct (l : Launch) (y : MethodName) (bytes : ByteArray) (maxL : Nat) (ret : Option FieldType) (fr lo : Nat) (av : List Value) (g : GG) (m : MW) (E : Option Value → MW → Prop) : Prop :=
  Met l y (.code y bytes maxL ret :: wsL_law) { frames := fr, cells := 0, slots := 0, locals := lo } (va_Pc av (World g m)) (QE g E) 0 0 (gA g)
/-- the fixed things of a walk -/
def Cx (p : Program) (s : State) (mi : MethodId) (args : Array Value) (meth : Method) (c : Code) (cc : ByteArray) (own : String) (nL : Nat) (ret : Option FieldType) (g : GG) : Prop :=
  p.tables.exec = Jvm.exec ∧ c.code = cc ∧ c.maxLocals = nL ∧ s.vm.findClass own = some mi.cls ∧ (∀ w ∈ wsL_law, w.before args s = true) ∧ Wd g s ∧ meth.sig.returnType = ret ∧ meth.locks = false
/-- the machine at pc, with these locals and this stack, in any heap that holds the world m, comes to Q -/
def TT (p : Program) (l : Launch) (e : Env) (R : Room) (s : State) (mi : MethodId) (args : Array Value) (below : List Frame) (meth : Method) (c : Code) (cells slots : Nat) (Q : State → Prop) (g : GG) (nL : Nat) (m : MW) (pc : Nat) (lv : List (Nat × Value)) (st : List Value) : Prop :=
  ∀ (H : Heap) (locs : List Loc) (ls : Array Slot), va_P g.1 vwCl (pic g m) H → va_S (gA g) s.heap H locs → lv_has ls nL lv → W p l e R s mi args below meth c H locs cells slots Q (F0 mi pc ls st)
theorem ct_intro {l : Launch} {y : MethodName} {bytes : ByteArray} {maxL : Nat} {ret : Option FieldType} {fr lo : Nat} {av : List Value} {g : GG} {m : MW} {E : Option Value → MW → Prop} (own : String) (hy : plainName y.cls = true) (ho : y.cls = own) (hn : (lg_sl av).length ≤ maxL)
    (body : ∀ (p : Program) (e : Env) (s : State) (mi : MethodId) (below : List Frame) (meth : Method) (c : Code), Cx p s mi av.toArray meth c bytes own maxL ret g → TT p l e { frames := fr, cells := 0, slots := 0, locals := lo } s mi av.toArray below meth c 0 0 (MQ below (QE g E) av.toArray s 0 0 (gA g)) g maxL m 0 (lv_args 0 av) []) : Ct l y bytes maxL ret fr lo av g m E := by
  refine Met.ofW (cc := bytes) (maxL := maxL) (ret := ret) hy rfl ?_
  intro p e s mi args below meth c s₁ B hml hv
  obtain ⟨rfl, hP, hWd⟩ := hv
  have hts := atoms_spec (ws := .code y bytes maxL ret :: wsL_law) B.pre
  have hown : s.vm.findClass own = some mi.cls := by rw [← ho]; exact findClass_of_methodNamed B.named
  have hl := lv_entry av (n := maxL) hn
  rw [lg_entry_eq]
  exact body p e s mi below meth c ⟨B.exec, B.bytes, hml, hown, fun w hw => hts w (List.mem_cons_of_mem _ hw), hWd, B.returns, B.notSynchronized⟩ s.heap [] _ hP va_S.rf hl
theorem lk_mem {l : List (Nat × Value)} {i : Nat} {v : Value} (h : l.lookup i = some v) : (i, v) ∈ l := by
  induction l with
  | nil => cases h
  | cons a t ih =>
    obtain ⟨k, w⟩ := a
    simp only [List.lookup] at h
    split at h
    · rename_i hk
      have : i = k := by simpa using hk
      subst this
      cases h
      exact List.mem_cons_self
    · exact List.mem_cons_of_mem _ (ih h)
section TR
variable {p : Program} {l : Launch} {e : Env} {R : Room} {s : State} {mi : MethodId} {args : Array Value} {below : List Frame} {meth : Method} {c : Code} {cells slots : Nat} {Q : State → Prop} {g : GG} {nL : Nat} {m : MW} {pc : Nat} {lv : List (Nat × Value)} {rest : List Value} {cc : ByteArray} {own : String} {ret : Option FieldType}
theorem kt_iconst (C : Cx p s mi args meth c cc own nL ret g) {n : Int} {v : Int32} (hdg : decode cc pc = .ok (.iconst n, 1)) (hv : Int32.ofInt n = v) (k : TT p l e R s mi args below meth c cells slots Q g nL m (pc + 1) lv (.int v :: rest)) : TT p l e R s mi args below meth c cells slots Q g nL m pc lv rest := fun H locs ls hP hS hl => lv_iconst C.1 C.2.1 hdg hv (k H locs ls hP hS hl)
theorem kt_bipush (C : Cx p s mi args meth c cc own nL ret g) {n : Int} {v : Int32} (hdg : decode cc pc = .ok (.bipush n, 2)) (hv : (Int8.ofInt n).toInt32 = v) (k : TT p l e R s mi args below meth c cells slots Q g nL m (pc + 2) lv (.int v :: rest)) : TT p l e R s mi args below meth c cells slots Q g nL m pc lv rest := fun H locs ls hP hS hl => lv_bipush C.1 C.2.1 hdg hv (k H locs ls hP hS hl)
theorem kt_sipush (C : Cx p s mi args meth c cc own nL ret g) {n : Int} {v : Int32} (hdg : decode cc pc = .ok (.sipush n, 3)) (hv : (Int16.ofInt n).toInt32 = v) (k : TT p l e R s mi args below meth c cells slots Q g nL m (pc + 3) lv (.int v :: rest)) : TT p l e R s mi args below meth c cells slots Q g nL m pc lv rest := fun H locs ls hP hS hl => lv_sipush C.1 C.2.1 hdg hv (k H locs ls hP hS hl)
theorem kt_ldc (C : Cx p s mi args meth c cc own nL ret g) {index : Nat} {v : Int32} (hw : Cond.constant own index v ∈ wsL_law) (hdg : decode cc pc = .ok (.ldc index, 2)) (k : TT p l e R s mi args below meth c cells slots Q g nL m (pc + 2) lv (.int v :: rest)) : TT p l e R s mi args below meth c cells slots Q g nL m pc lv rest := fun H locs ls hP hS hl => lv_ldc C.1 C.2.1 C.2.2.2.1 (C.2.2.2.2.1 _ hw) hdg (k H locs ls hP hS hl)
theorem kt_ldc2 (C : Cx p s mi args meth c cc own nL ret g) {index : Nat} {v : Int64} (hw : Cond.constantLong own index v ∈ wsL_law) (hdg : decode cc pc = .ok (.ldc2_w index, 3)) (k : TT p l e R s mi args below meth c cells slots Q g nL m (pc + 3) lv (.long v :: rest)) : TT p l e R s mi args below meth c cells slots Q g nL m pc lv rest := fun H locs ls hP hS hl => lv_ldc2 C.1 C.2.1 C.2.2.2.1 (C.2.2.2.2.1 _ hw) hdg (k H locs ls hP hS hl)
theorem kt_iload_n (C : Cx p s mi args meth c cc own nL ret g) {k : Fin 4} {i : Nat} {x : Int32} (hdg : decode cc pc = .ok (.iload_n k, 1)) (hi : (k : Nat) = i) (h : lv.lookup i = some (.int x)) (kk : TT p l e R s mi args below meth c cells slots Q g nL m (pc + 1) lv (.int x :: rest)) : TT p l e R s mi args below meth c cells slots Q g nL m pc lv rest := fun H locs ls hP hS hl => lv_iload_n C.1 C.2.1 hdg hi (hl.2.2 _ (lk_mem h)) (kk H locs ls hP hS hl)
theorem kt_iload (C : Cx p s mi args meth c cc own nL ret g) {i : Nat} {x : Int32} (hdg : decode cc pc = .ok (.iload i, 2)) (h : lv.lookup i = some (.int x)) (kk : TT p l e R s mi args below meth c cells slots Q g nL m (pc + 2) lv (.int x :: rest)) : TT p l e R s mi args below meth c cells slots Q g nL m pc lv rest := fun H locs ls hP hS hl => lv_iload C.1 C.2.1 hdg (hl.2.2 _ (lk_mem h)) (kk H locs ls hP hS hl)
theorem kt_lload_n (C : Cx p s mi args meth c cc own nL ret g) {k : Fin 4} {i : Nat} {x : Int64} (hdg : decode cc pc = .ok (.lload_n k, 1)) (hi : (k : Nat) = i) (h : lv.lookup i = some (.long x)) (kk : TT p l e R s mi args below meth c cells slots Q g nL m (pc + 1) lv (.long x :: rest)) : TT p l e R s mi args below meth c cells slots Q g nL m pc lv rest := fun H locs ls hP hS hl => lv_lload_n C.1 C.2.1 hdg hi (hl.2.2 _ (lk_mem h)) (kk H locs ls hP hS hl)
theorem kt_aload_n (C : Cx p s mi args meth c cc own nL ret g) {k : Fin 4} {i : Nat} {x : Nat} (hdg : decode cc pc = .ok (.aload_n k, 1)) (hi : (k : Nat) = i) (h : lv.lookup i = some (.ref x)) (kk : TT p l e R s mi args below meth c cells slots Q g nL m (pc + 1) lv (.ref x :: rest)) : TT p l e R s mi args below meth c cells slots Q g nL m pc lv rest := fun H locs ls hP hS hl => lv_aload_n C.1 C.2.1 hdg hi (hl.2.2 _ (lk_mem h)) (kk H locs ls hP hS hl)
theorem kt_aload (C : Cx p s mi args meth c cc own nL ret g) {i : Nat} {x : Nat} (hdg : decode cc pc = .ok (.aload i, 2)) (h : lv.lookup i = some (.ref x)) (kk : TT p l e R s mi args below meth c cells slots Q g nL m (pc + 2) lv (.ref x :: rest)) : TT p l e R s mi args below meth c cells slots Q g nL m pc lv rest := fun H locs ls hP hS hl => lv_aload C.1 C.2.1 hdg (hl.2.2 _ (lk_mem h)) (kk H locs ls hP hS hl)
theorem kt_aload_nN (C : Cx p s mi args meth c cc own nL ret g) {k : Fin 4} {i : Nat} (hdg : decode cc pc = .ok (.aload_n k, 1)) (hi : (k : Nat) = i) (h : lv.lookup i = some .null) (kk : TT p l e R s mi args below meth c cells slots Q g nL m (pc + 1) lv (.null :: rest)) : TT p l e R s mi args below meth c cells slots Q g nL m pc lv rest := fun H locs ls hP hS hl => lv_aload_nN C.1 C.2.1 hdg hi (hl.2.2 _ (lk_mem h)) (kk H locs ls hP hS hl)
theorem kt_istore_n (C : Cx p s mi args meth c cc own nL ret g) {k : Fin 4} {i : Nat} {x : Int32} {lv' : List (Nat × Value)} (hdg : decode cc pc = .ok (.istore_n k, 1)) (hi : (k : Nat) = i) (hn : i < nL) (hl' : (i, Value.int x) :: lv.filter (fun q => !(q.1 == i) && !(q.1 + 1 == i && q.2.category == 2)) = lv') (kk : TT p l e R s mi args below meth c cells slots Q g nL m (pc + 1) lv' rest) : TT p l e R s mi args below meth c cells slots Q g nL m pc lv (.int x :: rest) := fun H locs ls hP hS hl => lv_istore_n C.1 C.2.1 hdg hi hl hn hl' (fun ls' hl2 => kk H locs ls' hP hS hl2)
theorem kt_istore (C : Cx p s mi args meth c cc own nL ret g) {i : Nat} {x : Int32} {lv' : List (Nat × Value)} (hdg : decode cc pc = .ok (.istore i, 2)) (hn : i < nL) (hl' : (i, Value.int x) :: lv.filter (fun q => !(q.1 == i) && !(q.1 + 1 == i && q.2.category == 2)) = lv') (kk : TT p l e R s mi args below meth c cells slots Q g nL m (pc + 2) lv' rest) : TT p l e R s mi args below meth c cells slots Q g nL m pc lv (.int x :: rest) := fun H locs ls hP hS hl => lv_istore C.1 C.2.1 hdg hl hn hl' (fun ls' hl2 => kk H locs ls' hP hS hl2)
theorem kt_astore_n (C : Cx p s mi args meth c cc own nL ret g) {k : Fin 4} {i : Nat} {x : Nat} {lv' : List (Nat × Value)} (hdg : decode cc pc = .ok (.astore_n k, 1)) (hi : (k : Nat) = i) (hn : i < nL) (hl' : (i, Value.ref x) :: lv.filter (fun q => !(q.1 == i) && !(q.1 + 1 == i && q.2.category == 2)) = lv') (kk : TT p l e R s mi args below meth c cells slots Q g nL m (pc + 1) lv' rest) : TT p l e R s mi args below meth c cells slots Q g nL m pc lv (.ref x :: rest) := fun H locs ls hP hS hl => lv_astore_n C.1 C.2.1 hdg hi hl hn hl' (fun ls' hl2 => kk H locs ls' hP hS hl2)
theorem kt_astore_nN (C : Cx p s mi args meth c cc own nL ret g) {k : Fin 4} {i : Nat} {lv' : List (Nat × Value)} (hdg : decode cc pc = .ok (.astore_n k, 1)) (hi : (k : Nat) = i) (hn : i < nL) (hl' : (i, Value.null) :: lv.filter (fun q => !(q.1 == i) && !(q.1 + 1 == i && q.2.category == 2)) = lv') (kk : TT p l e R s mi args below meth c cells slots Q g nL m (pc + 1) lv' rest) : TT p l e R s mi args below meth c cells slots Q g nL m pc lv (.null :: rest) := fun H locs ls hP hS hl => lv_astore_nN C.1 C.2.1 hdg hi hl hn hl' (fun ls' hl2 => kk H locs ls' hP hS hl2)
theorem kt_iinc (C : Cx p s mi args meth c cc own nL ret g) {i : Nat} {n : Int} {x v : Int32} {lv' : List (Nat × Value)} (hdg : decode cc pc = .ok (.iinc i n, 3)) (h : lv.lookup i = some (.int x)) (hv : x + Int32.ofInt n = v) (hn : i < nL) (hl' : (i, Value.int v) :: lv.filter (fun q => !(q.1 == i) && !(q.1 + 1 == i && q.2.category == 2)) = lv') (kk : TT p l e R s mi args below meth c cells slots Q g nL m (pc + 3) lv' rest) : TT p l e R s mi args below meth c cells slots Q g nL m pc lv rest := fun H locs ls hP hS hl => by
  obtain ⟨k, hk⟩ := List.getElem?_of_mem (lk_mem h)
  exact lv_iinc (k := k) C.1 C.2.1 hdg hl hk hv hn hl' (fun ls' hl2 => kk H locs ls' hP hS hl2)
theorem kt_iadd (C : Cx p s mi args meth c cc own nL ret g) {x y : Int32} (hdg : decode cc pc = .ok (.iadd, 1)) (k : TT p l e R s mi args below meth c cells slots Q g nL m (pc + 1) lv (.int (x + y) :: rest)) : TT p l e R s mi args below meth c cells slots Q g nL m pc lv (.int y :: .int x :: rest) := fun H locs ls hP hS hl => lv_iadd C.1 C.2.1 hdg (k H locs ls hP hS hl)
theorem kt_isub (C : Cx p s mi args meth c cc own nL ret g) {x y : Int32} (hdg : decode cc pc = .ok (.isub, 1)) (k : TT p l e R s mi args below meth c cells slots Q g nL m (pc + 1) lv (.int (x - y) :: rest)) : TT p l e R s mi args below meth c cells slots Q g nL m pc lv (.int y :: .int x :: rest) := fun H locs ls hP hS hl => lv_isub C.1 C.2.1 hdg (k H locs ls hP hS hl)
theorem kt_imul (C : Cx p s mi args meth c cc own nL ret g) {x y : Int32} (hdg : decode cc pc = .ok (.imul, 1)) (k : TT p l e R s mi args below meth c cells slots Q g nL m (pc + 1) lv (.int (x * y) :: rest)) : TT p l e R s mi args below meth c cells slots Q g nL m pc lv (.int y :: .int x :: rest) := fun H locs ls hP hS hl => lv_imul C.1 C.2.1 hdg (k H locs ls hP hS hl)
theorem kt_iand (C : Cx p s mi args meth c cc own nL ret g) {x y : Int32} (hdg : decode cc pc = .ok (.iand, 1)) (k : TT p l e R s mi args below meth c cells slots Q g nL m (pc + 1) lv (.int (x &&& y) :: rest)) : TT p l e R s mi args below meth c cells slots Q g nL m pc lv (.int y :: .int x :: rest) := fun H locs ls hP hS hl => lv_iand C.1 C.2.1 hdg (k H locs ls hP hS hl)
theorem kt_idiv (C : Cx p s mi args meth c cc own nL ret g) {x y : Int32} (hdg : decode cc pc = .ok (.idiv, 1)) (hne : ¬ y = 0) (k : TT p l e R s mi args below meth c cells slots Q g nL m (pc + 1) lv (.int (x / y) :: rest)) : TT p l e R s mi args below meth c cells slots Q g nL m pc lv (.int y :: .int x :: rest) := fun H locs ls hP hS hl => lv_idiv C.1 C.2.1 hdg hne (k H locs ls hP hS hl)
theorem kt_irem (C : Cx p s mi args meth c cc own nL ret g) {x y : Int32} (hdg : decode cc pc = .ok (.irem, 1)) (hne : ¬ y = 0) (k : TT p l e R s mi args below meth c cells slots Q g nL m (pc + 1) lv (.int (x - x / y * y) :: rest)) : TT p l e R s mi args below meth c cells slots Q g nL m pc lv (.int y :: .int x :: rest) := fun H locs ls hP hS hl => lv_irem C.1 C.2.1 hdg hne (k H locs ls hP hS hl)
theorem kt_iushr (C : Cx p s mi args meth c cc own nL ret g) {x y v : Int32} (hdg : decode cc pc = .ok (.iushr, 1)) (hv : (x.toUInt32 >>> (y.toUInt32 &&& Int32.toUInt32 31)).toInt32 = v) (k : TT p l e R s mi args below meth c cells slots Q g nL m (pc + 1) lv (.int v :: rest)) : TT p l e R s mi args below meth c cells slots Q g nL m pc lv (.int y :: .int x :: rest) := fun H locs ls hP hS hl => lv_iushr C.1 C.2.1 hdg hv (k H locs ls hP hS hl)
theorem kt_i2l (C : Cx p s mi args meth c cc own nL ret g) {x : Int32} {v : Int64} (hdg : decode cc pc = .ok (.i2l, 1)) (hv : x.toInt64 = v) (k : TT p l e R s mi args below meth c cells slots Q g nL m (pc + 1) lv (.long v :: rest)) : TT p l e R s mi args below meth c cells slots Q g nL m pc lv (.int x :: rest) := fun H locs ls hP hS hl => lv_i2l C.1 C.2.1 hdg hv (k H locs ls hP hS hl)
theorem kt_l2i (C : Cx p s mi args meth c cc own nL ret g) {x : Int64} {v : Int32} (hdg : decode cc pc = .ok (.l2i, 1)) (hv : x.toInt32 = v) (k : TT p l e R s mi args below meth c cells slots Q g nL m (pc + 1) lv (.int v :: rest)) : TT p l e R s mi args below meth c cells slots Q g nL m pc lv (.long x :: rest) := fun H locs ls hP hS hl => lv_l2i C.1 C.2.1 hdg hv (k H locs ls hP hS hl)
theorem kt_ladd (C : Cx p s mi args meth c cc own nL ret g) {x y : Int64} (hdg : decode cc pc = .ok (.ladd, 1)) (k : TT p l e R s mi args below meth c cells slots Q g nL m (pc + 1) lv (.long (x + y) :: rest)) : TT p l e R s mi args below meth c cells slots Q g nL m pc lv (.long y :: .long x :: rest) := fun H locs ls hP hS hl => lv_ladd C.1 C.2.1 hdg (k H locs ls hP hS hl)
theorem kt_lsub (C : Cx p s mi args meth c cc own nL ret g) {x y : Int64} (hdg : decode cc pc = .ok (.lsub, 1)) (k : TT p l e R s mi args below meth c cells slots Q g nL m (pc + 1) lv (.long (x - y) :: rest)) : TT p l e R s mi args below meth c cells slots Q g nL m pc lv (.long y :: .long x :: rest) := fun H locs ls hP hS hl => lv_lsub C.1 C.2.1 hdg (k H locs ls hP hS hl)
theorem kt_ldiv (C : Cx p s mi args meth c cc own nL ret g) {x y : Int64} (hdg : decode cc pc = .ok (.ldiv, 1)) (hne : ¬ y = 0) (k : TT p l e R s mi args below meth c cells slots Q g nL m (pc + 1) lv (.long (x / y) :: rest)) : TT p l e R s mi args below meth c cells slots Q g nL m pc lv (.long y :: .long x :: rest) := fun H locs ls hP hS hl => lv_ldiv C.1 C.2.1 hdg hne (k H locs ls hP hS hl)
theorem kt_lcmp (C : Cx p s mi args meth c cc own nL ret g) {x y : Int64} (hdg : decode cc pc = .ok (.lcmp, 1)) (k : TT p l e R s mi args below meth c cells slots Q g nL m (pc + 1) lv (.int (lg_cmp x y) :: rest)) : TT p l e R s mi args below meth c cells slots Q g nL m pc lv (.long y :: .long x :: rest) := fun H locs ls hP hS hl => W.lcmp C.1 C.2.1 hdg (k H locs ls hP hS hl)
theorem kt_dup (C : Cx p s mi args meth c cc own nL ret g) {va : Value} (hdg : decode cc pc = .ok (.dup, 1)) (hva : va.category = 1) (k : TT p l e R s mi args below meth c cells slots Q g nL m (pc + 1) lv (va :: va :: rest)) : TT p l e R s mi args below meth c cells slots Q g nL m pc lv (va :: rest) := fun H locs ls hP hS hl => lv_dup C.1 C.2.1 hdg hva (k H locs ls hP hS hl)
theorem kt_dup2 (C : Cx p s mi args meth c cc own nL ret g) {va vb : Value} (hdg : decode cc pc = .ok (.dup2, 1)) (hva : va.category = 1) (hvb : vb.category = 1) (k : TT p l e R s mi args below meth c cells slots Q g nL m (pc + 1) lv (va :: vb :: va :: vb :: rest)) : TT p l e R s mi args below meth c cells slots Q g nL m pc lv (va :: vb :: rest) := fun H locs ls hP hS hl => lv_dup2_11 C.1 C.2.1 hdg hva hvb (k H locs ls hP hS hl)
theorem kt_null (C : Cx p s mi args meth c cc own nL ret g) (hdg : decode cc pc = .ok (.aconst_null, 1)) (k : TT p l e R s mi args below meth c cells slots Q g nL m (pc + 1) lv (.null :: rest)) : TT p l e R s mi args below meth c cells slots Q g nL m pc lv rest := fun H locs ls hP hS hl => lv_null C.1 C.2.1 hdg (k H locs ls hP hS hl)
theorem kt_goto (C : Cx p s mi args meth c cc own nL ret g) {off : Int} (tgt : Nat) (hdg : decode cc pc = .ok (.goto off, 3)) (ht : (pc : Int) + off = (tgt : Int)) (k : TT p l e R s mi args below meth c cells slots Q g nL m tgt lv rest) : TT p l e R s mi args below meth c cells slots Q g nL m pc lv rest := fun H locs ls hP hS hl => lv_goto C.1 C.2.1 hdg ht (k H locs ls hP hS hl)
theorem kt_if_eq (C : Cx p s mi args meth c cc own nL ret g) {x : Int32} {off : Int} (tgt : Nat) (hdg : decode cc pc = .ok (.ifCond .eq off, 3)) (ht : (pc : Int) + off = (tgt : Int)) (kt : x = 0 → TT p l e R s mi args below meth c cells slots Q g nL m tgt lv rest) (kf : ¬ x = 0 → TT p l e R s mi args below meth c cells slots Q g nL m (pc + 3) lv rest) : TT p l e R s mi args below meth c cells slots Q g nL m pc lv (.int x :: rest) := fun H locs ls hP hS hl => lv_if_eq C.1 C.2.1 hdg ht (fun h => kt h H locs ls hP hS hl) (fun h => kf h H locs ls hP hS hl)
theorem kt_icmp_eq (C : Cx p s mi args meth c cc own nL ret g) {x y : Int32} {off : Int} (tgt : Nat) (hdg : decode cc pc = .ok (.if_icmp .eq off, 3)) (ht : (pc : Int) + off = (tgt : Int)) (kt : x = y → TT p l e R s mi args below meth c cells slots Q g nL m tgt lv rest) (kf : ¬ x = y → TT p l e R s mi args below meth c cells slots Q g nL m (pc + 3) lv rest) : TT p l e R s mi args below meth c cells slots Q g nL m pc lv (.int y :: .int x :: rest) := fun H locs ls hP hS hl => lv_icmp_eq C.1 C.2.1 hdg ht (fun h => kt h H locs ls hP hS hl) (fun h => kf h H locs ls hP hS hl)
theorem kt_if_ne (C : Cx p s mi args meth c cc own nL ret g) {x : Int32} {off : Int} (tgt : Nat) (hdg : decode cc pc = .ok (.ifCond .ne off, 3)) (ht : (pc : Int) + off = (tgt : Int)) (kt : ¬ x = 0 → TT p l e R s mi args below meth c cells slots Q g nL m tgt lv rest) (kf : x = 0 → TT p l e R s mi args below meth c cells slots Q g nL m (pc + 3) lv rest) : TT p l e R s mi args below meth c cells slots Q g nL m pc lv (.int x :: rest) := fun H locs ls hP hS hl => lv_if_ne C.1 C.2.1 hdg ht (fun h => kt h H locs ls hP hS hl) (fun h => kf h H locs ls hP hS hl)
theorem kt_icmp_ne (C : Cx p s mi args meth c cc own nL ret g) {x y : Int32} {off : Int} (tgt : Nat) (hdg : decode cc pc = .ok (.if_icmp .ne off, 3)) (ht : (pc : Int) + off = (tgt : Int)) (kt : ¬ x = y → TT p l e R s mi args below meth c cells slots Q g nL m tgt lv rest) (kf : x = y → TT p l e R s mi args below meth c cells slots Q g nL m (pc + 3) lv rest) : TT p l e R s mi args below meth c cells slots Q g nL m pc lv (.int y :: .int x :: rest) := fun H locs ls hP hS hl => lv_icmp_ne C.1 C.2.1 hdg ht (fun h => kt h H locs ls hP hS hl) (fun h => kf h H locs ls hP hS hl)
theorem kt_if_lt (C : Cx p s mi args meth c cc own nL ret g) {x : Int32} {off : Int} (tgt : Nat) (hdg : decode cc pc = .ok (.ifCond .lt off, 3)) (ht : (pc : Int) + off = (tgt : Int)) (kt : x < 0 → TT p l e R s mi args below meth c cells slots Q g nL m tgt lv rest) (kf : ¬ x < 0 → TT p l e R s mi args below meth c cells slots Q g nL m (pc + 3) lv rest) : TT p l e R s mi args below meth c cells slots Q g nL m pc lv (.int x :: rest) := fun H locs ls hP hS hl => lv_if_lt C.1 C.2.1 hdg ht (fun h => kt h H locs ls hP hS hl) (fun h => kf h H locs ls hP hS hl)
theorem kt_icmp_lt (C : Cx p s mi args meth c cc own nL ret g) {x y : Int32} {off : Int} (tgt : Nat) (hdg : decode cc pc = .ok (.if_icmp .lt off, 3)) (ht : (pc : Int) + off = (tgt : Int)) (kt : x < y → TT p l e R s mi args below meth c cells slots Q g nL m tgt lv rest) (kf : ¬ x < y → TT p l e R s mi args below meth c cells slots Q g nL m (pc + 3) lv rest) : TT p l e R s mi args below meth c cells slots Q g nL m pc lv (.int y :: .int x :: rest) := fun H locs ls hP hS hl => lv_icmp_lt C.1 C.2.1 hdg ht (fun h => kt h H locs ls hP hS hl) (fun h => kf h H locs ls hP hS hl)
theorem kt_if_ge (C : Cx p s mi args meth c cc own nL ret g) {x : Int32} {off : Int} (tgt : Nat) (hdg : decode cc pc = .ok (.ifCond .ge off, 3)) (ht : (pc : Int) + off = (tgt : Int)) (kt : 0 ≤ x → TT p l e R s mi args below meth c cells slots Q g nL m tgt lv rest) (kf : ¬ 0 ≤ x → TT p l e R s mi args below meth c cells slots Q g nL m (pc + 3) lv rest) : TT p l e R s mi args below meth c cells slots Q g nL m pc lv (.int x :: rest) := fun H locs ls hP hS hl => lv_if_ge C.1 C.2.1 hdg ht (fun h => kt h H locs ls hP hS hl) (fun h => kf h H locs ls hP hS hl)
theorem kt_icmp_ge (C : Cx p s mi args meth c cc own nL ret g) {x y : Int32} {off : Int} (tgt : Nat) (hdg : decode cc pc = .ok (.if_icmp .ge off, 3)) (ht : (pc : Int) + off = (tgt : Int)) (kt : y ≤ x → TT p l e R s mi args below meth c cells slots Q g nL m tgt lv rest) (kf : ¬ y ≤ x → TT p l e R s mi args below meth c cells slots Q g nL m (pc + 3) lv rest) : TT p l e R s mi args below meth c cells slots Q g nL m pc lv (.int y :: .int x :: rest) := fun H locs ls hP hS hl => lv_icmp_ge C.1 C.2.1 hdg ht (fun h => kt h H locs ls hP hS hl) (fun h => kf h H locs ls hP hS hl)
theorem kt_if_gt (C : Cx p s mi args meth c cc own nL ret g) {x : Int32} {off : Int} (tgt : Nat) (hdg : decode cc pc = .ok (.ifCond .gt off, 3)) (ht : (pc : Int) + off = (tgt : Int)) (kt : 0 < x → TT p l e R s mi args below meth c cells slots Q g nL m tgt lv rest) (kf : ¬ 0 < x → TT p l e R s mi args below meth c cells slots Q g nL m (pc + 3) lv rest) : TT p l e R s mi args below meth c cells slots Q g nL m pc lv (.int x :: rest) := fun H locs ls hP hS hl => lv_if_gt C.1 C.2.1 hdg ht (fun h => kt h H locs ls hP hS hl) (fun h => kf h H locs ls hP hS hl)
theorem kt_icmp_gt (C : Cx p s mi args meth c cc own nL ret g) {x y : Int32} {off : Int} (tgt : Nat) (hdg : decode cc pc = .ok (.if_icmp .gt off, 3)) (ht : (pc : Int) + off = (tgt : Int)) (kt : y < x → TT p l e R s mi args below meth c cells slots Q g nL m tgt lv rest) (kf : ¬ y < x → TT p l e R s mi args below meth c cells slots Q g nL m (pc + 3) lv rest) : TT p l e R s mi args below meth c cells slots Q g nL m pc lv (.int y :: .int x :: rest) := fun H locs ls hP hS hl => lv_icmp_gt C.1 C.2.1 hdg ht (fun h => kt h H locs ls hP hS hl) (fun h => kf h H locs ls hP hS hl)
theorem kt_if_le (C : Cx p s mi args meth c cc own nL ret g) {x : Int32} {off : Int} (tgt : Nat) (hdg : decode cc pc = .ok (.ifCond .le off, 3)) (ht : (pc : Int) + off = (tgt : Int)) (kt : x ≤ 0 → TT p l e R s mi args below meth c cells slots Q g nL m tgt lv rest) (kf : ¬ x ≤ 0 → TT p l e R s mi args below meth c cells slots Q g nL m (pc + 3) lv rest) : TT p l e R s mi args below meth c cells slots Q g nL m pc lv (.int x :: rest) := fun H locs ls hP hS hl => lv_if_le C.1 C.2.1 hdg ht (fun h => kt h H locs ls hP hS hl) (fun h => kf h H locs ls hP hS hl)
theorem kt_icmp_le (C : Cx p s mi args meth c cc own nL ret g) {x y : Int32} {off : Int} (tgt : Nat) (hdg : decode cc pc = .ok (.if_icmp .le off, 3)) (ht : (pc : Int) + off = (tgt : Int)) (kt : x ≤ y → TT p l e R s mi args below meth c cells slots Q g nL m tgt lv rest) (kf : ¬ x ≤ y → TT p l e R s mi args below meth c cells slots Q g nL m (pc + 3) lv rest) : TT p l e R s mi args below meth c cells slots Q g nL m pc lv (.int y :: .int x :: rest) := fun H locs ls hP hS hl => lv_icmp_le C.1 C.2.1 hdg ht (fun h => kt h H locs ls hP hS hl) (fun h => kf h H locs ls hP hS hl)
theorem kt_ifnull (C : Cx p s mi args meth c cc own nL ret g) {x : Nat} {off : Int} (hdg : decode cc pc = .ok (.ifnull off, 3)) (k : TT p l e R s mi args below meth c cells slots Q g nL m (pc + 3) lv rest) : TT p l e R s mi args below meth c cells slots Q g nL m pc lv (.ref x :: rest) := fun H locs ls hP hS hl => lv_ifnull C.1 C.2.1 hdg (k H locs ls hP hS hl)
theorem kt_ifnullN (C : Cx p s mi args meth c cc own nL ret g) {off : Int} (tgt : Nat) (hdg : decode cc pc = .ok (.ifnull off, 3)) (ht : (pc : Int) + off = (tgt : Int)) (k : TT p l e R s mi args below meth c cells slots Q g nL m tgt lv rest) : TT p l e R s mi args below meth c cells slots Q g nL m pc lv (.null :: rest) := fun H locs ls hP hS hl => lv_ifnullN C.1 C.2.1 hdg ht (k H locs ls hP hS hl)
theorem kt_ifnonnull (C : Cx p s mi args meth c cc own nL ret g) {x : Nat} {off : Int} (tgt : Nat) (hdg : decode cc pc = .ok (.ifnonnull off, 3)) (ht : (pc : Int) + off = (tgt : Int)) (k : TT p l e R s mi args below meth c cells slots Q g nL m tgt lv rest) : TT p l e R s mi args below meth c cells slots Q g nL m pc lv (.ref x :: rest) := fun H locs ls hP hS hl => lv_ifnonnull C.1 C.2.1 hdg ht (k H locs ls hP hS hl)
theorem kt_ifnonnullN (C : Cx p s mi args meth c cc own nL ret g) {off : Int} (hdg : decode cc pc = .ok (.ifnonnull off, 3)) (k : TT p l e R s mi args below meth c cells slots Q g nL m (pc + 3) lv rest) : TT p l e R s mi args below meth c cells slots Q g nL m pc lv (.null :: rest) := fun H locs ls hP hS hl => lv_ifnonnullN C.1 C.2.1 hdg (k H locs ls hP hS hl)
theorem kt_tableOut (C : Cx p s mi args meth c cc own nL ret g) {dflt lo hi : Int} {offs : Array Int} {len : Nat} {x : Int32} (tgt : Nat) (hdg : decode cc pc = .ok (.tableswitch dflt lo hi offs, len)) (h : x.toInt < lo ∨ hi < x.toInt) (ht : (pc : Int) + dflt = (tgt : Int)) (k : TT p l e R s mi args below meth c cells slots Q g nL m tgt lv rest) : TT p l e R s mi args below meth c cells slots Q g nL m pc lv (.int x :: rest) := fun H locs ls hP hS hl => lv_tableOut C.1 C.2.1 hdg h ht (k H locs ls hP hS hl)
theorem kt_tableIn (C : Cx p s mi args meth c cc own nL ret g) {dflt lo hi : Int} {offs : Array Int} {len : Nat} {x : Int32} {off : Int} (tgt : Nat) (hdg : decode cc pc = .ok (.tableswitch dflt lo hi offs, len)) (h1 : ¬ x.toInt < lo) (h2 : ¬ hi < x.toInt) (ho : offs[(x.toInt - lo).toNat]? = some off) (ht : (pc : Int) + off = (tgt : Int)) (k : TT p l e R s mi args below meth c cells slots Q g nL m tgt lv rest) : TT p l e R s mi args below meth c cells slots Q g nL m pc lv (.int x :: rest) := fun H locs ls hP hS hl => lv_tableIn C.1 C.2.1 hdg h1 h2 ho ht (k H locs ls hP hS hl)
theorem kt_ref {r : Option Nat} (hn : r = none → TT p l e R s mi args below meth c cells slots Q g nL m pc lv (.null :: rest)) (hs : ∀ a, r = some a → TT p l e R s mi args below meth c cells slots Q g nL m pc lv (.ref a :: rest)) : TT p l e R s mi args below meth c cells slots Q g nL m pc lv (va_rf r :: rest) := by
  cases r with
  | none => exact hn rfl
  | some a => exact hs a rfl
theorem kt_topi {x : Int32} (y : Int32) (h : x = y) (k : TT p l e R s mi args below meth c cells slots Q g nL m pc lv (.int y :: rest)) : TT p l e R s mi args below meth c cells slots Q g nL m pc lv (.int x :: rest) := h ▸ k
theorem kt_mem {m' : MW} {st : List Value} (h : m = m') (k : TT p l e R s mi args below meth c cells slots Q g nL m' pc lv st) : TT p l e R s mi args below meth c cells slots Q g nL m pc lv st := h ▸ k
theorem kt_mmax (C : Cx p s mi args meth c cc own nL ret g) {index : Nat} (hw : Cond.methodLink own index Lib.Math.max.name ∈ wsL_law) (hw2 : Cond.static Lib.Math.max.name ∈ wsL_law) (hw3 : Cond.initialized "java/lang/Math" ∈ wsL_law) (hw4 : Cond.code Lib.Math.max.name Lib.Math.max.code 2 (some .int) ∈ wsL_law) (hframes : 1 ≤ R.frames) (hlocals : (rest.map fun v => v.category).sum + 13 ≤ R.locals) (hc : cells ≤ R.cells) (hs : slots ≤ R.slots) {x y : Int32} (hdg : decode cc pc = .ok (.invokestatic index, 3)) (k : TT p l e R s mi args below meth c cells slots Q g nL m (pc + 3) lv (.int (if x < y then y else x) :: rest)) : TT p l e R s mi args below meth c cells slots Q g nL m pc lv (.int y :: .int x :: rest) := fun H locs ls hP hS hl => va_mmax C.1 C.2.1 (C.2.2.1.trans hl.1.symm) C.2.2.2.1 (C.2.2.2.2.1 _ hw) (C.2.2.2.2.1 _ hw2) (C.2.2.2.2.1 _ hw3) (C.2.2.2.2.1 _ hw4) hframes hlocals hc hs hdg (k H locs ls hP hS hl)
theorem kt_mmin (C : Cx p s mi args meth c cc own nL ret g) {index : Nat} (hw : Cond.methodLink own index Lib.Math.min.name ∈ wsL_law) (hw2 : Cond.static Lib.Math.min.name ∈ wsL_law) (hw3 : Cond.initialized "java/lang/Math" ∈ wsL_law) (hw4 : Cond.code Lib.Math.min.name Lib.Math.min.code 2 (some .int) ∈ wsL_law) (hframes : 1 ≤ R.frames) (hlocals : (rest.map fun v => v.category).sum + 13 ≤ R.locals) (hc : cells ≤ R.cells) (hs : slots ≤ R.slots) {x y : Int32} (hdg : decode cc pc = .ok (.invokestatic index, 3)) (k : TT p l e R s mi args below meth c cells slots Q g nL m (pc + 3) lv (.int (if y < x then y else x) :: rest)) : TT p l e R s mi args below meth c cells slots Q g nL m pc lv (.int y :: .int x :: rest) := fun H locs ls hP hS hl => va_mmin C.1 C.2.1 (C.2.2.1.trans hl.1.symm) C.2.2.2.1 (C.2.2.2.2.1 _ hw) (C.2.2.2.2.1 _ hw2) (C.2.2.2.2.1 _ hw3) (C.2.2.2.2.1 _ hw4) hframes hlocals hc hs hdg (k H locs ls hP hS hl)
/-! fields -/
theorem kt_get (C : Cx p s mi args meth c cc own nL ret g) {k i ci : Nat} (kf : Nat) {fs : List Value} {Cn : String} {Tb : u_T} {N index : Nat} {v : Value} (hi : i < cnt k) (he : ent g m k i = .inr (ci, fs)) (hc : vwCl[ci]? = some (Cn, Tb, N)) (hin : ∀ w ∈ u_ws Cn Tb N, w ∈ wsL_law) (hk : kf < N) (hw : Cond.fieldLink own index (Tb kf).1 (Tb kf).2.1 (Tb kf).2.2.1 ∈ wsL_law) (hv : fs[kf]? = some v) (hdg : decode cc pc = .ok (.getfield index, 3)) (kk : TT p l e R s mi args below meth c cells slots Q g nL m (pc + 3) lv (v :: rest)) : TT p l e R s mi args below meth c cells slots Q g nL m pc lv (.ref (gad g k i) :: rest) := fun H locs ls hP hS hl => by
  obtain ⟨q, hq⟩ := ids_pos hi
  exact va_get (D := g.1) (cl := vwCl) (ws := pic g m) C.1 C.2.1 C.2.2.2.2.1 hin C.2.2.2.1 C.2.2.2.2.2.1.1 hP q ((pic_at g m hq).trans (by rw [he])) hc kf hk (C.2.2.2.2.1 _ hw) (fun _ h => h) hv hdg (kk H locs ls hP hS hl)
/-- a write of a number into a field of the class's -/
theorem kt_put3 (C : Cx p s mi args meth c cc own nL ret g) {k i ci : Nat} (kf : Nat) {fs : List Value} {Cn : String} {Tb : u_T} {ty0 : Nat → FieldType} {ty : FieldType} {N index : Nat} {v : Int32} (hi : i < cnt k) (he : ent g m k i = .inr (ci, fs)) (hc : vwCl[ci]? = some (Cn, Tb, N)) (hin : ∀ w ∈ u_ws Cn Tb N, w ∈ wsL_law) (hty : ∀ k, k < N → parseFieldDescriptor (Tb k).2.2.1 = some (ty0 k)) (hnm : ∀ a, a < N → ∀ b, b < N → a ≠ b → (Tb a).2.1 ≠ (Tb b).2.1) (hk : kf < N) (hw : Cond.fieldLink own index (Tb kf).1 (Tb kf).2.1 (Tb kf).2.2.1 ∈ wsL_law) (hfin : (Tb kf).2.2.2 = false) (hd : parseFieldDescriptor (Tb kf).2.2.1 = some ty) (hn : narrow ty (.int v) = .int v) (hfit : fits ty (.int v) = true) (hl' : kf < fs.length) (he' : ent g ((up3 m.1.1 k i kf v, m.1.2), m.2) k i = .inr (ci, fs.set kf (.int v))) (hdg : decode cc pc = .ok (.putfield index, 3)) (kk : TT p l e R s mi args below meth c cells slots Q g nL ((up3 m.1.1 k i kf v, m.1.2), m.2) (pc + 3) lv rest) : TT p l e R s mi args below meth c cells slots Q g nL m pc lv (.int v :: .ref (gad g k i) :: rest) := fun H locs ls hP hS hl => by
  obtain ⟨q, hq⟩ := ids_pos hi
  refine va_put (D := g.1) (cl := vwCl) (ws := pic g m) C.1 C.2.1 C.2.2.2.2.1 hin ty0 hty hnm C.2.2.2.1 C.2.2.2.2.2.1.1 hP (C.2.2.2.2.2.1.2.1 m) hS q ((pic_at g m hq).trans (by rw [he])) hc kf hk (C.2.2.2.2.1 _ hw) (fun _ h => h) hfin hd hn hfit hl' hdg (fun H1 locs1 hP1 hD1 hS1 => ?_)
  rw [pic_set g m _ hq he' (fun k' i' h _ => ent_ne3 g m k i kf v k' i' h)] at hP1
  exact kk H1 locs1 ls hP1 hS1 hl
/-- a write of a number into a field of the reference's -/
theorem kt_put2 (C : Cx p s mi args meth c cc own nL ret g) (kf : Nat) {fs : List Value} {ty : FieldType} {index : Nat} {v : Int32} (he : ent g m 22 0 = .inr (8, fs)) (hk : kf < 34) (hw : Cond.fieldLink own index (TX8 kf).1 (TX8 kf).2.1 (TX8 kf).2.2.1 ∈ wsL_law) (hfin : (TX8 kf).2.2.2 = false) (hd : parseFieldDescriptor (TX8 kf).2.2.1 = some ty) (hn : narrow ty (.int v) = .int v) (hfit : fits ty (.int v) = true) (hl' : kf < fs.length) (he' : ent g (m.1, up2 m.2 22 kf v) 22 0 = .inr (8, fs.set kf (.int v))) (hdg : decode cc pc = .ok (.putfield index, 3)) (kk : TT p l e R s mi args below meth c cells slots Q g nL (m.1, up2 m.2 22 kf v) (pc + 3) lv rest) : TT p l e R s mi args below meth c cells slots Q g nL m pc lv (.int v :: .ref (gad g 22 0) :: rest) := fun H locs ls hP hS hl => by
  obtain ⟨q, hq⟩ := ids_pos (show 0 < cnt 22 by decide)
  refine va_put (D := g.1) (cl := vwCl) (ws := pic g m) C.1 C.2.1 C.2.2.2.2.1 inlX8 tyX8 tyX8_ok nmX8 C.2.2.2.1 C.2.2.2.2.2.1.1 hP (C.2.2.2.2.2.1.2.1 m) hS q ((pic_at g m hq).trans (by rw [he])) rfl kf hk (C.2.2.2.2.1 _ hw) (fun _ h => h) hfin hd hn hfit hl' hdg (fun H1 locs1 hP1 hD1 hS1 => ?_)
  rw [pic_set g m _ hq he' (fun k' i' h hc => by
    by_cases hk : k' = 22
    · subst hk
      have : i' < 1 := hc
      exact absurd (show i' = 0 by omega) (by rcases h with h | h; exact absurd rfl h; exact h)
    · exact ent_ne2 g m 22 kf v k' i' hk)] at hP1
  exact kk H1 locs1 ls hP1 hS1 hl
/-- a write of a share, or of null, into a worker -/
theorem kt_putr (C : Cx p s mi args meth c cc own nL ret g) {w index : Nat} {v : Option Nat} (hi : w < 4) (hw : Cond.fieldLink own index RX6 "share" "LFactShares$Share;" ∈ wsL_law) (hdg : decode cc pc = .ok (.putfield index, 3)) (kk : TT p l e R s mi args below meth c cells slots Q g nL ((m.1.1, upr m.1.2 0 w v), m.2) (pc + 3) lv rest) : TT p l e R s mi args below meth c cells slots Q g nL m pc lv (va_rf (v.map (gad g 11)) :: .ref (gad g 15 w) :: rest) := fun H locs ls hP hS hl => by
  obtain ⟨q, hq⟩ := ids_pos (show w < cnt 15 from hi)
  refine va_put (D := g.1) (cl := vwCl) (ws := pic g m) (ci := 6) (ty := .object "FactShares$Share") C.1 C.2.1 C.2.2.2.2.1 inlX6 tyX6 tyX6_ok nmX6 C.2.2.2.1 C.2.2.2.2.2.1.1 hP (C.2.2.2.2.2.1.2.1 m) hS q (pic_at g m hq) rfl 4 (by decide) (C.2.2.2.2.1 _ hw) (fun _ h => h) rfl (by decide +kernel) (by cases v <;> rfl) (by cases v <;> rfl) (by show 4 < 6; decide) hdg (fun H1 locs1 hP1 hD1 hS1 => ?_)
  rw [pic_set g m ((m.1.1, upr m.1.2 0 w v), m.2) hq (by simp [ent, upr, List.set]) (fun k' i' h _ => ent_ner0 g m w v k' i' h)] at hP1
  exact kk H1 locs1 ls hP1 hS1 hl
/-! arrays -/
theorem kt_iald (C : Cx p s mi args meth c cc own nL ret g) {k i n : Nat} {f : Nat → Int32} {x : Int32} (hi : i < cnt k) (he : ent g m k i = aI (gcI g) n f) (hin : vp_in x n) (hdg : decode cc pc = .ok (.iaload, 1)) (kk : TT p l e R s mi args below meth c cells slots Q g nL m (pc + 1) lv (.int (f x.toNatClampNeg) :: rest)) : TT p l e R s mi args below meth c cells slots Q g nL m pc lv (.int x :: .ref (gad g k i) :: rest) := fun H locs ls hP hS hl => by
  obtain ⟨q, hq⟩ := ids_pos hi
  exact va_iald (D := g.1) (cl := vwCl) (ws := pic g m) C.1 C.2.1 C.2.2.2.2.2.1.1 hP q 0 ((pic_at g m hq).trans (by rw [he])) rfl hin hdg (kk H locs ls hP hS hl)
theorem kt_zald (C : Cx p s mi args meth c cc own nL ret g) {k i n : Nat} {f : Nat → Int32} {x : Int32} (hi : i < cnt k) (he : ent g m k i = aI (gcZ g) n f) (hin : vp_in x n) (hdg : decode cc pc = .ok (.baload, 1)) (kk : TT p l e R s mi args below meth c cells slots Q g nL m (pc + 1) lv (.int (f x.toNatClampNeg) :: rest)) : TT p l e R s mi args below meth c cells slots Q g nL m pc lv (.int x :: .ref (gad g k i) :: rest) := fun H locs ls hP hS hl => by
  obtain ⟨q, hq⟩ := ids_pos hi
  exact va_zald (D := g.1) (cl := vwCl) (ws := pic g m) C.1 C.2.1 C.2.2.2.2.2.1.1 hP q 1 ((pic_at g m hq).trans (by rw [he])) rfl hin hdg (kk H locs ls hP hS hl)
theorem kt_iast3 (C : Cx p s mi args meth c cc own nL ret g) {k i n : Nat} {f : Nat → Int32} {x v : Int32} (hi : i < cnt k) (he : ent g m k i = aI (gcI g) n f) (hin : vp_in x n) (he' : ent g ((up3 m.1.1 k i x.toNatClampNeg v, m.1.2), m.2) k i = aI (gcI g) n (upd f x.toNatClampNeg v)) (hdg : decode cc pc = .ok (.iastore, 1)) (kk : TT p l e R s mi args below meth c cells slots Q g nL ((up3 m.1.1 k i x.toNatClampNeg v, m.1.2), m.2) (pc + 1) lv rest) : TT p l e R s mi args below meth c cells slots Q g nL m pc lv (.int v :: .int x :: .ref (gad g k i) :: rest) := fun H locs ls hP hS hl => by
  obtain ⟨q, hq⟩ := ids_pos hi
  refine va_iast (D := g.1) (cl := vwCl) (ws := pic g m) C.1 C.2.1 C.2.2.2.2.2.1.1 hP (C.2.2.2.2.2.1.2.1 m) hS q 0 ((pic_at g m hq).trans (by rw [he])) rfl hin hdg (fun H1 locs1 hP1 hD1 hS1 => ?_)
  rw [pic_set g m _ hq he' (fun k' i' h _ => ent_ne3 g m k i _ v k' i' h)] at hP1
  exact kk H1 locs1 ls hP1 hS1 hl
theorem kt_zast3 (C : Cx p s mi args meth c cc own nL ret g) {k i n : Nat} {f : Nat → Int32} {x v v' : Int32} (hi : i < cnt k) (he : ent g m k i = aI (gcZ g) n f) (hin : vp_in x n) (hv : vp_nar .boolean v = v') (he' : ent g ((up3 m.1.1 k i x.toNatClampNeg v', m.1.2), m.2) k i = aI (gcZ g) n (upd f x.toNatClampNeg v')) (hdg : decode cc pc = .ok (.bastore, 1)) (kk : TT p l e R s mi args below meth c cells slots Q g nL ((up3 m.1.1 k i x.toNatClampNeg v', m.1.2), m.2) (pc + 1) lv rest) : TT p l e R s mi args below meth c cells slots Q g nL m pc lv (.int v :: .int x :: .ref (gad g k i) :: rest) := fun H locs ls hP hS hl => by
  obtain ⟨q, hq⟩ := ids_pos hi
  refine va_zast (D := g.1) (cl := vwCl) (ws := pic g m) C.1 C.2.1 C.2.2.2.2.2.1.1 hP (C.2.2.2.2.2.1.2.1 m) hS q 1 ((pic_at g m hq).trans (by rw [he])) rfl hin hdg (fun H1 locs1 hP1 hD1 hS1 => ?_)
  rw [hv] at hP1
  rw [pic_set g m _ hq he' (fun k' i' h _ => ent_ne3 g m k i _ v' k' i' h)] at hP1
  exact kk H1 locs1 ls hP1 hS1 hl
theorem kt_iast2 (C : Cx p s mi args meth c cc own nL ret g) {k n : Nat} {f : Nat → Int32} {x v : Int32} (hi : cnt k = 1) (he : ent g m k 0 = aI (gcI g) n f) (hin : vp_in x n) (he' : ent g (m.1, up2 m.2 k x.toNatClampNeg v) k 0 = aI (gcI g) n (upd f x.toNatClampNeg v)) (hdg : decode cc pc = .ok (.iastore, 1)) (kk : TT p l e R s mi args below meth c cells slots Q g nL (m.1, up2 m.2 k x.toNatClampNeg v) (pc + 1) lv rest) : TT p l e R s mi args below meth c cells slots Q g nL m pc lv (.int v :: .int x :: .ref (gad g k 0) :: rest) := fun H locs ls hP hS hl => by
  obtain ⟨q, hq⟩ := ids_pos (show 0 < cnt k by omega)
  refine va_iast (D := g.1) (cl := vwCl) (ws := pic g m) C.1 C.2.1 C.2.2.2.2.2.1.1 hP (C.2.2.2.2.2.1.2.1 m) hS q 0 ((pic_at g m hq).trans (by rw [he])) rfl hin hdg (fun H1 locs1 hP1 hD1 hS1 => ?_)
  rw [pic_set g m _ hq he' (fun k' i' h hc => by
    by_cases hk : k' = k
    · subst hk
      exact absurd (show i' = 0 by omega) (by rcases h with h | h; exact absurd rfl h; exact h)
    · exact ent_ne2 g m k _ v k' i' hk)] at hP1
  exact kk H1 locs1 ls hP1 hS1 hl
theorem kt_zast2 (C : Cx p s mi args meth c cc own nL ret g) {k n : Nat} {f : Nat → Int32} {x v v' : Int32} (hi : cnt k = 1) (he : ent g m k 0 = aI (gcZ g) n f) (hin : vp_in x n) (hv : vp_nar .boolean v = v') (he' : ent g (m.1, up2 m.2 k x.toNatClampNeg v') k 0 = aI (gcZ g) n (upd f x.toNatClampNeg v')) (hdg : decode cc pc = .ok (.bastore, 1)) (kk : TT p l e R s mi args below meth c cells slots Q g nL (m.1, up2 m.2 k x.toNatClampNeg v') (pc + 1) lv rest) : TT p l e R s mi args below meth c cells slots Q g nL m pc lv (.int v :: .int x :: .ref (gad g k 0) :: rest) := fun H locs ls hP hS hl => by
  obtain ⟨q, hq⟩ := ids_pos (show 0 < cnt k by omega)
  refine va_zast (D := g.1) (cl := vwCl) (ws := pic g m) C.1 C.2.1 C.2.2.2.2.2.1.1 hP (C.2.2.2.2.2.1.2.1 m) hS q 1 ((pic_at g m hq).trans (by rw [he])) rfl hin hdg (fun H1 locs1 hP1 hD1 hS1 => ?_)
  rw [hv] at hP1
  rw [pic_set g m _ hq he' (fun k' i' h hc => by
    by_cases hk : k' = k
    · subst hk
      exact absurd (show i' = 0 by omega) (by rcases h with h | h; exact absurd rfl h; exact h)
    · exact ent_ne2 g m k _ v' k' i' hk)] at hP1
  exact kk H1 locs1 ls hP1 hS1 hl
theorem kt_aldS (C : Cx p s mi args meth c cc own nL ret g) {k i n : Nat} {f : Nat → Option Nat} {x : Int32} (hi : i < cnt k) (he : ent g m k i = aR (gcS g) n f) (hin : vp_in x n) (hdg : decode cc pc = .ok (.aaload, 1)) (kk : TT p l e R s mi args below meth c cells slots Q g nL m (pc + 1) lv (va_rf (f x.toNatClampNeg) :: rest)) : TT p l e R s mi args below meth c cells slots Q g nL m pc lv (.int x :: .ref (gad g k i) :: rest) := fun H locs ls hP hS hl => by
  obtain ⟨q, hq⟩ := ids_pos hi
  exact va_aldq (D := g.1) (cl := vwCl) (ws := pic g m) C.1 C.2.1 C.2.2.2.2.2.1.1 hP q 2 ((pic_at g m hq).trans (by rw [he])) rfl hin hdg (kk H locs ls hP hS hl)
theorem kt_aldW (C : Cx p s mi args meth c cc own nL ret g) {k i n : Nat} {f : Nat → Option Nat} {x : Int32} (hi : i < cnt k) (he : ent g m k i = aR (gcW g) n f) (hin : vp_in x n) (hdg : decode cc pc = .ok (.aaload, 1)) (kk : TT p l e R s mi args below meth c cells slots Q g nL m (pc + 1) lv (va_rf (f x.toNatClampNeg) :: rest)) : TT p l e R s mi args below meth c cells slots Q g nL m pc lv (.int x :: .ref (gad g k i) :: rest) := fun H locs ls hP hS hl => by
  obtain ⟨q, hq⟩ := ids_pos hi
  exact va_aldq (D := g.1) (cl := vwCl) (ws := pic g m) C.1 C.2.1 C.2.2.2.2.2.1.1 hP q 3 ((pic_at g m hq).trans (by rw [he])) rfl hin hdg (kk H locs ls hP hS hl)
/-- a share is put into the line -/
theorem kt_astS (C : Cx p s mi args meth c cc own nL ret g) {sh : Nat} {x : Int32} (hsh : sh < 10) (hin : vp_in x 10) (hdg : decode cc pc = .ok (.aastore, 1)) (kk : TT p l e R s mi args below meth c cells slots Q g nL ((m.1.1, upr m.1.2 1 x.toNatClampNeg (some sh)), m.2) (pc + 1) lv rest) : TT p l e R s mi args below meth c cells slots Q g nL m pc lv (.ref (gad g 11 sh) :: .int x :: .ref (gad g 7 0) :: rest) := fun H locs ls hP hS hl => by
  obtain ⟨q, hq⟩ := ids_pos (show 0 < cnt 7 by decide)
  obtain ⟨q2, hq2⟩ := ids_pos (show sh < cnt 11 from hsh)
  refine va_astq (D := g.1) (cl := vwCl) (ws := pic g m) C.1 C.2.1 C.2.2.2.2.2.1.1 hP (C.2.2.2.2.2.1.2.1 m) hS q 2 q2 4 (pic_at g m hq) rfl (pic_at g m hq2) rfl hin hdg (fun H1 locs1 hP1 hD1 hS1 => ?_)
  rw [pic_set g m ((m.1.1, upr m.1.2 1 x.toNatClampNeg (some sh)), m.2) hq (by
    simp only [ent]
    congr 6
    funext j
    by_cases hj : j = x.toNatClampNeg
    · subst hj; simp [upr, va_up]
    · simp [upr, va_up, hj]) (fun k' i' h hc => by
    by_cases hk : k' = 7
    · subst hk
      have : i' < 1 := hc
      exact absurd (show i' = 0 by omega) (by rcases h with h | h; exact absurd rfl h; exact h)
    · exact ent_ner1 g m _ _ k' i' hk)] at hP1
  exact kk H1 locs1 ls hP1 hS1 hl
theorem kt_alen (C : Cx p s mi args meth c cc own nL ret g) {k i : Nat} {cA : ClassId} {x : vp_A} {v : Int32} (t0 : Nat) {ty : FieldType} (hi : i < cnt k) (he : ent g m k i = .inl (cA, x)) (ht : (gty g)[t0]? = some (cA, ty)) (hv : Int32.ofNat x.1 = v) (hdg : decode cc pc = .ok (.arraylength, 1)) (kk : TT p l e R s mi args below meth c cells slots Q g nL m (pc + 1) lv (.int v :: rest)) : TT p l e R s mi args below meth c cells slots Q g nL m pc lv (.ref (gad g k i) :: rest) := fun H locs ls hP hS hl => by
  obtain ⟨q, hq⟩ := ids_pos hi
  exact va_alen (D := g.1) (cl := vwCl) (ws := pic g m) C.1 C.2.1 C.2.2.2.2.2.1.1 hP q t0 ((pic_at g m hq).trans (by rw [he])) ht hv hdg (kk H locs ls hP hS hl)
/-! the class's constants -/
theorem kt_gets (C : Cx p s mi args meth c cc own nL ret g) {index : Nat} (hw : Cond.fieldLink own index RX2 "BOUNDS" "[I" ∈ wsL_law) (hdg : decode cc pc = .ok (.getstatic index, 3)) (kk : TT p l e R s mi args below meth c cells slots Q g nL m (pc + 3) lv (.ref (gtB g) :: rest)) : TT p l e R s mi args below meth c cells slots Q g nL m pc lv rest := fun H locs ls hP hS hl => va_gets C.1 C.2.1 C.2.2.2.2.2.1.2.2.1 hS C.2.2.2.1 (C.2.2.2.2.1 _ hw) (fun _ h => h) hdg (kk H locs ls hP hS hl)
theorem kt_bald (C : Cx p s mi args meth c cc own nL ret g) {x : Int32} (hin : vp_in x 9) (hdg : decode cc pc = .ok (.iaload, 1)) (kk : TT p l e R s mi args below meth c cells slots Q g nL m (pc + 1) lv (.int (bnd x.toNatClampNeg) :: rest)) : TT p l e R s mi args below meth c cells slots Q g nL m pc lv (.int x :: .ref (gtB g) :: rest) := fun H locs ls hP hS hl => va_ti C.1 C.2.1 C.2.2.2.2.2.1.2.2.2.1 hS hin rfl hdg (kk H locs ls hP hS hl)
theorem kt_blen (C : Cx p s mi args meth c cc own nL ret g) (hdg : decode cc pc = .ok (.arraylength, 1)) (kk : TT p l e R s mi args below meth c cells slots Q g nL m (pc + 1) lv (.int 9 :: rest)) : TT p l e R s mi args below meth c cells slots Q g nL m pc lv (.ref (gtB g) :: rest) := fun H locs ls hP hS hl => va_tlen C.1 C.2.1 C.2.2.2.2.2.1.2.2.2.1 hS (by decide) hdg (kk H locs ls hP hS hl)
/-! returns -/
theorem kt_iret {E : Option Value → MW → Prop} (C : Cx p s mi args meth c cc own nL (some .int) g) {v : Int32} (hE : E (some (.int v)) m) (hdg : decode cc pc = .ok (.ireturn, 1)) : TT p l e R s mi args below meth c 0 0 (MQ below (QE g E) args s 0 0 (gA g)) g nL m pc lv [.int v] := fun H locs ls hP hS hl => W.iret (v := v) C.1 C.2.1 C.2.2.2.2.2.2.1 (fun t ht hW => ⟨⟨_, m, rfl, hE, by rw [ht]; exact hP⟩, hS.F ht⟩) hS.2.2 hdg (hlocks := C.2.2.2.2.2.2.2)
theorem kt_zret {E : Option Value → MW → Prop} (C : Cx p s mi args meth c cc own nL (some .boolean) g) {v : Int32} (hn : narrow .boolean (.int v) = .int v) (hE : E (some (.int v)) m) (hdg : decode cc pc = .ok (.ireturn, 1)) : TT p l e R s mi args below meth c 0 0 (MQ below (QE g E) args s 0 0 (gA g)) g nL m pc lv [.int v] := fun H locs ls hP hS hl => W.zret (v := v) C.1 C.2.1 C.2.2.2.2.2.2.1 hn (fun t ht hW => ⟨⟨_, m, rfl, hE, by rw [ht]; exact hP⟩, hS.F ht⟩) hS.2.2 hdg (hlocks := C.2.2.2.2.2.2.2)
theorem kt_vret {E : Option Value → MW → Prop} (C : Cx p s mi args meth c cc own nL none g) (hE : E none m) (hdg : decode cc pc = .ok (.return_, 1)) : TT p l e R s mi args below meth c 0 0 (MQ below (QE g E) args s 0 0 (gA g)) g nL m pc lv [] := fun H locs ls hP hS hl => W.vret C.1 C.2.1 C.2.2.2.2.2.2.1 (fun t ht hW => ⟨⟨_, m, rfl, hE, by rw [ht]; exact hP⟩, hS.F ht⟩) hS.2.2 hdg (hlocks := C.2.2.2.2.2.2.2)
theorem kt_aret {E : Option Value → MW → Prop} {n : String} (C : Cx p s mi args meth c cc own nL (some (.object n)) g) {v : Value} (hv : v = .null ∨ ∃ a, v = .ref a) (hE : E (some v) m) (hdg : decode cc pc = .ok (.areturn, 1)) : TT p l e R s mi args below meth c 0 0 (MQ below (QE g E) args s 0 0 (gA g)) g nL m pc lv [v] := fun H locs ls hP hS hl => W.aret (v := v) C.1 C.2.1 C.2.2.2.2.2.2.1 (Or.inl ⟨n, rfl⟩) hv (fun t ht hW => ⟨⟨_, m, rfl, hE, by rw [ht]; exact hP⟩, hS.F ht⟩) hS.2.2 hdg (hlocks := C.2.2.2.2.2.2.2)
end TR
end
section
theorem vp_lt {x : Int32} {n : Nat} (h : vp_in x n) : x.toNatClampNeg < n := Nat.not_le.mp fun q => h (Or.inr q)
theorem gi_all {ws : List Cond} (h : ∀ w ∈ ws, w ∈ wsL_law) : GoodIn wsL_law ws := fun w hw => ⟨h w hw, good_of_word (List.all_eq_true.mp wd_good w (h w hw))⟩
abbrev Ei (K : Int32 → MW → Prop) : Option Value → MW → Prop := fun r m' => ∃ v : Int32, r = some (.int v) ∧ K v m'
abbrev Ev (K : MW → Prop) : Option Value → MW → Prop := fun r m' => r = none ∧ K m'
abbrev Er (g : GG) (k : Nat) (K : Option Nat → MW → Prop) : Option Value → MW → Prop := fun r m' => ∃ o : Option Nat, r = some (va_rf (o.map (gad g k))) ∧ K o m'
section TC
variable {p : Program} {l : Launch} {e : Env} {R : Room} {s : State} {mi : MethodId} {args : Array Value} {below : List Frame} {meth : Method} {c : Code} {cells slots : Nat} {Q : State → Prop} {g : GG} {nL : Nat} {m : MW} {pc : Nat} {lv : List (Nat × Value)} {rest st : List Value} {cc : ByteArray} {own : String} {ret : Option FieldType}
theorem run_T {H : Heap} {locs : List Loc} {ls : Array Slot} {st0 : List Value} {E : Option Value → MW → Prop} {a : Array Value} (hr : va_Run p l e R s mi args below meth c H locs cells slots 0 0 (F0 mi pc ls st0) rest (QE g E a) (gA g)) (hS : va_S (gA g) s.heap H locs)
    (kk : ∀ (r : Option Value) (m' : MW) (H1 : Heap) (locs1 : List Loc), E r m' → va_P g.1 vwCl (pic g m') H1 → va_S (gA g) s.heap H1 locs1 → W p l e R s mi args below meth c H1 locs1 cells slots Q (F0 mi (pc + 3) ls (r.toList ++ rest))) : W p l e R s mi args below meth c H locs cells slots Q (F0 mi pc ls st0) := by
  intro T hT X
  obtain ⟨v, st₀, t, T', L, h0, X', hL, e1, e2, ⟨⟨r, m', hv, hE, hP⟩, hz, hk⟩, st⟩ := hr T hT X
  cases hv
  rw [h0] at hz hk
  obtain ⟨t2, a1, b1⟩ := kk v m' T'.heap (locs ++ L) hE (by rw [e1]; exact hP)
    ⟨Nat.le_trans hS.1 (by rw [e1]; exact hz), fun q h1 h2 => by rw [e1, hk q (Nat.lt_of_lt_of_le h1 hS.1) h2]; exact hS.2.1 q h1 h2, fun q hq => by
      rcases List.mem_append.mp hq with h | h
      · exact hS.2.2 q h
      · exact hL q h⟩ T' rfl X'
  exact ⟨t2, st t2 a1, b1⟩
theorem kt_callV {E : Option Value → MW → Prop} (C : Cx p s mi args meth c cc own nL ret g) {y : MethodName} {bytes : ByteArray} {maxL fr lo k i ci N index n : Nat} {ret' : Option FieldType} {Cn : String} {Tb : u_T} {fs : List Value} {As : List Value}
    (hC : Ct l y bytes maxL ret' fr lo (.ref (gad g k i) :: As) g m E) (hi : i < cnt k) (he : ent g m k i = .inr (ci, fs)) (hc : vwCl[ci]? = some (Cn, Tb, N))
    (w1 : Cond.methodLink own index y ∈ wsL_law) (w2 : Cond.instanceMethod y ∈ wsL_law) (w3 : Cond.selects Cn y y ∈ wsL_law) (w4 : Cond.initialized Cn ∈ wsL_law) (w5 : Cond.code y bytes maxL ret' ∈ wsL_law)
    (hd : y.cls = Cn ∧ y.cls ≠ "java/lang/invoke/MethodHandle" ∧ y.cls ≠ "java/lang/invoke/VarHandle" ∧ (parseMethodDescriptor y.desc).map (fun d => d.parameters.length) = some n) (hn : As.length = n)
    (hR : fr + 1 ≤ R.frames ∧ 8 + (maxL + 11) + lo ≤ R.locals) (hrc : cells ≤ R.cells ∧ slots ≤ R.slots) (hst : st = As.reverse ++ .ref (gad g k i) :: rest) (hW : (rest.map fun v => v.category).sum ≤ 8) (hdg : decode cc pc = .ok (.invokevirtual index, 3))
    (kk : ∀ (r : Option Value) (m' : MW), E r m' → TT p l e R s mi args below meth c cells slots Q g nL m' (pc + 3) lv (r.toList ++ rest)) : TT p l e R s mi args below meth c cells slots Q g nL m pc lv st := fun H locs ls hP hS hl => by
  obtain ⟨q, hq⟩ := ids_pos hi
  refine run_T (rest := rest) (va_runV (As := As) (rest := rest) ⟨C.1, C.2.1, C.2.2.1, C.2.2.2.1, C.2.2.2.2.1⟩ hC (cwV n C.2.2.2.2.1 (gi_all (fun w hw => ?_)) rfl rfl rfl hd hR) ⟨World.blind, va_recv (D := g.1) (cl := vwCl) (ws := pic g m) C.2.2.2.2.2.1.1 hP hc ((pic_at g m hq).trans (by rw [he])), fun U hU hW => ⟨rfl, by rw [hU]; exact hP, Wd.warm hS hU hW C.2.2.2.2.2.1⟩⟩ rfl hn hl.1 hst (lv_room hW) hdg hrc) hS (fun r m' H1 locs1 hE hP1 hS1 => kk r m' hE H1 locs1 ls hP1 hS1 hl)
  simp only [wsV, List.mem_append, List.mem_cons, List.not_mem_nil, or_false] at hw
  rcases hw with (h | h | h | h) | h | h
  · exact h ▸ w1
  · exact h ▸ w2
  · exact h ▸ w3
  · exact h ▸ w4
  · exact h ▸ w5
  · exact h
theorem kt_callS {E : Option Value → MW → Prop} (C : Cx p s mi args meth c cc own nL ret g) {y : MethodName} {bytes : ByteArray} {maxL fr lo index n : Nat} {ret' : Option FieldType} {As : List Value}
    (hC : Ct l y bytes maxL ret' fr lo As g m E)
    (w1 : Cond.methodLink own index y ∈ wsL_law) (w2 : Cond.static y ∈ wsL_law) (w4 : Cond.initialized own ∈ wsL_law) (w5 : Cond.code y bytes maxL ret' ∈ wsL_law)
    (hd : y.cls = own ∧ y.cls ≠ "java/lang/invoke/MethodHandle" ∧ y.cls ≠ "java/lang/invoke/VarHandle" ∧ (parseMethodDescriptor y.desc).map (fun d => d.parameters.length) = some n) (hn : As.length = n)
    (hR : fr + 1 ≤ R.frames ∧ 8 + (maxL + 11) + lo ≤ R.locals) (hrc : cells ≤ R.cells ∧ slots ≤ R.slots) (hst : st = As.reverse ++ rest) (hW : (rest.map fun v => v.category).sum ≤ 8) (hdg : decode cc pc = .ok (.invokestatic index, 3))
    (kk : ∀ (r : Option Value) (m' : MW), E r m' → TT p l e R s mi args below meth c cells slots Q g nL m' (pc + 3) lv (r.toList ++ rest)) : TT p l e R s mi args below meth c cells slots Q g nL m pc lv st := fun H locs ls hP hS hl => by
  refine run_T (rest := rest) (va_runS (As := As) (rest := rest) ⟨C.1, C.2.1, C.2.2.1, C.2.2.2.1, C.2.2.2.2.1⟩ hC (cwS n C.2.2.2.2.1 (gi_all (fun w hw => ?_)) rfl rfl rfl hd hR) ⟨World.blind, fun U hU hW => ⟨rfl, by rw [hU]; exact hP, Wd.warm hS hU hW C.2.2.2.2.2.1⟩⟩ rfl hn hl.1 hst (lv_room hW) hdg hrc) hS (fun r m' H1 locs1 hE hP1 hS1 => kk r m' hE H1 locs1 ls hP1 hS1 hl)
  simp only [wsS, List.mem_append, List.mem_cons, List.not_mem_nil, or_false] at hw
  rcases hw with (h | h | h) | h | h
  · exact h ▸ w1
  · exact h ▸ w2
  · exact h ▸ w4
  · exact h ▸ w5
  · exact h
theorem kt_callN {E : Option Value → MW → Prop} (C : Cx p s mi args meth c cc own nL ret g) {y : MethodName} {host : String} {bytes : ByteArray} {maxL fr lo index n : Nat} {ret' : Option FieldType} {As : List Value}
    (hC : Ct l y bytes maxL ret' fr lo As g m E)
    (w1 : va_Nw (.methodLinkNest own index y host) s) (w2 : Cond.static y ∈ wsL_law) (w4 : Cond.initialized y.cls ∈ wsL_law) (w5 : Cond.code y bytes maxL ret' ∈ wsL_law)
    (hd : y.cls ≠ "java/lang/invoke/MethodHandle" ∧ y.cls ≠ "java/lang/invoke/VarHandle" ∧ (parseMethodDescriptor y.desc).map (fun d => d.parameters.length) = some n) (hn : As.length = n)
    (hR : fr + 1 ≤ R.frames ∧ 8 + (maxL + 11) + lo ≤ R.locals) (hrc : cells ≤ R.cells ∧ slots ≤ R.slots) (hst : st = As.reverse ++ rest) (hW : (rest.map fun v => v.category).sum ≤ 8) (hdg : decode cc pc = .ok (.invokestatic index, 3))
    (kk : ∀ (r : Option Value) (m' : MW), E r m' → TT p l e R s mi args below meth c cells slots Q g nL m' (pc + 3) lv (r.toList ++ rest)) : TT p l e R s mi args below meth c cells slots Q g nL m pc lv st := fun H locs ls hP hS hl => by
  refine run_T (rest := rest) (va_runSN (As := As) (rest := rest) ⟨C.1, C.2.1, C.2.2.1, C.2.2.2.1, C.2.2.2.2.1⟩ hC ⟨va_cnB n C.2.2.2.2.1 (gi_all (fun w hw => ?_)) rfl rfl rfl w1 (C.2.2.2.2.1 _ w4) hd hR, C.2.2.2.2.1 _ w2, trivial⟩ ⟨World.blind, fun U hU hW => ⟨rfl, by rw [hU]; exact hP, Wd.warm hS hU hW C.2.2.2.2.2.1⟩⟩ rfl hn hl.1 hst (lv_room hW) hdg hrc) hS (fun r m' H1 locs1 hE hP1 hS1 => kk r m' hE H1 locs1 ls hP1 hS1 hl)
  rcases List.mem_cons.mp hw with h | h
  · exact h ▸ w5
  · exact h
theorem kt_refo {k : Nat} {o : Option Nat} (hn : o = none → TT p l e R s mi args below meth c cells slots Q g nL m pc lv (.null :: rest)) (hs : ∀ a, o = some a → TT p l e R s mi args below meth c cells slots Q g nL m pc lv (.ref (gad g k a) :: rest)) : TT p l e R s mi args below meth c cells slots Q g nL m pc lv (va_rf (o.map (gad g k)) :: rest) := by
  cases o with
  | none => exact hn rfl
  | some a => exact hs a rfl
theorem kt_pick {lv' : List (Nat × Value)} (ks : List Nat) (hl' : lv_pick lv ks = lv') (k : TT p l e R s mi args below meth c cells slots Q g nL m pc lv' st) : TT p l e R s mi args below meth c cells slots Q g nL m pc lv st := fun H locs ls hP hS hl => k H locs ls hP hS (lv_sub hl ks hl')
theorem kt_bret {E : Option Value → MW → Prop} (C : Cx p s mi args meth c cc own nL (some .boolean) g) {v : Int32} (hn : v = 0 ∨ v = 1) (hE : E (some (.int v)) m) (hdg : decode cc pc = .ok (.ireturn, 1)) : TT p l e R s mi args below meth c 0 0 (MQ below (QE g E) args s 0 0 (gA g)) g nL m pc lv [.int v] := kt_zret C (by rcases hn with rfl | rfl <;> rfl) hE hdg
theorem kt_rret {k : Nat} {K : Option Nat → MW → Prop} {n : String} (C : Cx p s mi args meth c cc own nL (some (.object n)) g) {v : Value} (o : Option Nat) (hv : v = va_rf (o.map (gad g k))) (hE : K o m) (hdg : decode cc pc = .ok (.areturn, 1)) : TT p l e R s mi args below meth c 0 0 (MQ below (QE g (Er g k K)) args s 0 0 (gA g)) g nL m pc lv [v] := kt_aret C (by rw [hv]; exact va_rf_or _) ⟨o, by rw [hv], hE⟩ hdg
theorem kt_sti {v : Value} (k : TT p l e R s mi args below meth c cells slots Q g nL m pc lv (v :: rest)) : TT p l e R s mi args below meth c cells slots Q g nL m pc lv ((some v).toList ++ rest) := k
theorem kt_stv (k : TT p l e R s mi args below meth c cells slots Q g nL m pc lv rest) : TT p l e R s mi args below meth c cells slots Q g nL m pc lv ((none : Option Value).toList ++ rest) := k
end TC
theorem ep_16_2 (g : GG) (m : MW) (i : Nat) (v : Int32) : ent g ((up3 m.1.1 16 i 2 v, m.1.2), m.2) 16 i = .inr (0, List.set [.ref (gad g 17 i), .ref (gad g 18 i), .int (m.1.1 16 i 2), .ref (gad g 19 i), .ref (gad g 20 i), .ref (gad g 21 i)] 2 (.int v)) := by simp [ent, up3, List.set]
theorem ep_8_4 (g : GG) (m : MW) (i : Nat) (v : Int32) : ent g ((up3 m.1.1 8 i 4 v, m.1.2), m.2) 8 i = .inr (1, List.set [.ref (gad g 9 0), .int (m.1.1 8 i 1), .int (m.1.1 8 i 2), .int (m.1.1 8 i 3), .int (m.1.1 8 i 4)] 4 (.int v)) := by simp [ent, up3, List.set]
theorem ep_8_1 (g : GG) (m : MW) (i : Nat) (v : Int32) : ent g ((up3 m.1.1 8 i 1 v, m.1.2), m.2) 8 i = .inr (1, List.set [.ref (gad g 9 0), .int (m.1.1 8 i 1), .int (m.1.1 8 i 2), .int (m.1.1 8 i 3), .int (m.1.1 8 i 4)] 1 (.int v)) := by simp [ent, up3, List.set]
theorem ep_8_3 (g : GG) (m : MW) (i : Nat) (v : Int32) : ent g ((up3 m.1.1 8 i 3 v, m.1.2), m.2) 8 i = .inr (1, List.set [.ref (gad g 9 0), .int (m.1.1 8 i 1), .int (m.1.1 8 i 2), .int (m.1.1 8 i 3), .int (m.1.1 8 i 4)] 3 (.int v)) := by simp [ent, up3, List.set]
theorem ep_8_2 (g : GG) (m : MW) (i : Nat) (v : Int32) : ent g ((up3 m.1.1 8 i 2 v, m.1.2), m.2) 8 i = .inr (1, List.set [.ref (gad g 9 0), .int (m.1.1 8 i 1), .int (m.1.1 8 i 2), .int (m.1.1 8 i 3), .int (m.1.1 8 i 4)] 2 (.int v)) := by simp [ent, up3, List.set]
theorem ep_6_2 (g : GG) (m : MW) (i : Nat) (v : Int32) : ent g ((up3 m.1.1 6 i 2 v, m.1.2), m.2) 6 i = .inr (3, List.set [.ref (gad g 7 0), .int (m.1.1 6 i 1), .int (m.1.1 6 i 2)] 2 (.int v)) := by simp [ent, up3, List.set]
theorem ep_6_1 (g : GG) (m : MW) (i : Nat) (v : Int32) : ent g ((up3 m.1.1 6 i 1 v, m.1.2), m.2) 6 i = .inr (3, List.set [.ref (gad g 7 0), .int (m.1.1 6 i 1), .int (m.1.1 6 i 2)] 1 (.int v)) := by simp [ent, up3, List.set]
theorem ep_11_4 (g : GG) (m : MW) (i : Nat) (v : Int32) : ent g ((up3 m.1.1 11 i 4 v, m.1.2), m.2) 11 i = .inr (4, List.set [.ref (gad g 12 i), .ref (gad g 13 i), .ref (gad g 14 i), .int (m.1.1 11 i 3), .int (m.1.1 11 i 4), .int (m.1.1 11 i 5), .int (m.1.1 11 i 6), .int (m.1.1 11 i 7), .int (m.1.1 11 i 8)] 4 (.int v)) := by simp [ent, up3, List.set]
theorem ep_11_3 (g : GG) (m : MW) (i : Nat) (v : Int32) : ent g ((up3 m.1.1 11 i 3 v, m.1.2), m.2) 11 i = .inr (4, List.set [.ref (gad g 12 i), .ref (gad g 13 i), .ref (gad g 14 i), .int (m.1.1 11 i 3), .int (m.1.1 11 i 4), .int (m.1.1 11 i 5), .int (m.1.1 11 i 6), .int (m.1.1 11 i 7), .int (m.1.1 11 i 8)] 3 (.int v)) := by simp [ent, up3, List.set]
theorem ep_11_8 (g : GG) (m : MW) (i : Nat) (v : Int32) : ent g ((up3 m.1.1 11 i 8 v, m.1.2), m.2) 11 i = .inr (4, List.set [.ref (gad g 12 i), .ref (gad g 13 i), .ref (gad g 14 i), .int (m.1.1 11 i 3), .int (m.1.1 11 i 4), .int (m.1.1 11 i 5), .int (m.1.1 11 i 6), .int (m.1.1 11 i 7), .int (m.1.1 11 i 8)] 8 (.int v)) := by simp [ent, up3, List.set]
theorem ep_11_7 (g : GG) (m : MW) (i : Nat) (v : Int32) : ent g ((up3 m.1.1 11 i 7 v, m.1.2), m.2) 11 i = .inr (4, List.set [.ref (gad g 12 i), .ref (gad g 13 i), .ref (gad g 14 i), .int (m.1.1 11 i 3), .int (m.1.1 11 i 4), .int (m.1.1 11 i 5), .int (m.1.1 11 i 6), .int (m.1.1 11 i 7), .int (m.1.1 11 i 8)] 7 (.int v)) := by simp [ent, up3, List.set]
theorem ep_11_5 (g : GG) (m : MW) (i : Nat) (v : Int32) : ent g ((up3 m.1.1 11 i 5 v, m.1.2), m.2) 11 i = .inr (4, List.set [.ref (gad g 12 i), .ref (gad g 13 i), .ref (gad g 14 i), .int (m.1.1 11 i 3), .int (m.1.1 11 i 4), .int (m.1.1 11 i 5), .int (m.1.1 11 i 6), .int (m.1.1 11 i 7), .int (m.1.1 11 i 8)] 5 (.int v)) := by simp [ent, up3, List.set]
theorem ep_11_6 (g : GG) (m : MW) (i : Nat) (v : Int32) : ent g ((up3 m.1.1 11 i 6 v, m.1.2), m.2) 11 i = .inr (4, List.set [.ref (gad g 12 i), .ref (gad g 13 i), .ref (gad g 14 i), .int (m.1.1 11 i 3), .int (m.1.1 11 i 4), .int (m.1.1 11 i 5), .int (m.1.1 11 i 6), .int (m.1.1 11 i 7), .int (m.1.1 11 i 8)] 6 (.int v)) := by simp [ent, up3, List.set]
theorem ep_10_3 (g : GG) (m : MW) (i : Nat) (v : Int32) : ent g ((up3 m.1.1 10 i 3 v, m.1.2), m.2) 10 i = .inr (5, List.set [.int (m.1.1 10 i 0), .int (m.1.1 10 i 1), .int (m.1.1 10 i 2), .int (m.1.1 10 i 3), .int (m.1.1 10 i 4), .int (m.1.1 10 i 5)] 3 (.int v)) := by simp [ent, up3, List.set]
theorem ep_10_5 (g : GG) (m : MW) (i : Nat) (v : Int32) : ent g ((up3 m.1.1 10 i 5 v, m.1.2), m.2) 10 i = .inr (5, List.set [.int (m.1.1 10 i 0), .int (m.1.1 10 i 1), .int (m.1.1 10 i 2), .int (m.1.1 10 i 3), .int (m.1.1 10 i 4), .int (m.1.1 10 i 5)] 5 (.int v)) := by simp [ent, up3, List.set]
theorem ep_10_2 (g : GG) (m : MW) (i : Nat) (v : Int32) : ent g ((up3 m.1.1 10 i 2 v, m.1.2), m.2) 10 i = .inr (5, List.set [.int (m.1.1 10 i 0), .int (m.1.1 10 i 1), .int (m.1.1 10 i 2), .int (m.1.1 10 i 3), .int (m.1.1 10 i 4), .int (m.1.1 10 i 5)] 2 (.int v)) := by simp [ent, up3, List.set]
theorem ep_10_0 (g : GG) (m : MW) (i : Nat) (v : Int32) : ent g ((up3 m.1.1 10 i 0 v, m.1.2), m.2) 10 i = .inr (5, List.set [.int (m.1.1 10 i 0), .int (m.1.1 10 i 1), .int (m.1.1 10 i 2), .int (m.1.1 10 i 3), .int (m.1.1 10 i 4), .int (m.1.1 10 i 5)] 0 (.int v)) := by simp [ent, up3, List.set]
theorem ep_10_1 (g : GG) (m : MW) (i : Nat) (v : Int32) : ent g ((up3 m.1.1 10 i 1 v, m.1.2), m.2) 10 i = .inr (5, List.set [.int (m.1.1 10 i 0), .int (m.1.1 10 i 1), .int (m.1.1 10 i 2), .int (m.1.1 10 i 3), .int (m.1.1 10 i 4), .int (m.1.1 10 i 5)] 1 (.int v)) := by simp [ent, up3, List.set]
theorem ep_10_4 (g : GG) (m : MW) (i : Nat) (v : Int32) : ent g ((up3 m.1.1 10 i 4 v, m.1.2), m.2) 10 i = .inr (5, List.set [.int (m.1.1 10 i 0), .int (m.1.1 10 i 1), .int (m.1.1 10 i 2), .int (m.1.1 10 i 3), .int (m.1.1 10 i 4), .int (m.1.1 10 i 5)] 4 (.int v)) := by simp [ent, up3, List.set]
theorem ep_15_2 (g : GG) (m : MW) (i : Nat) (v : Int32) : ent g ((up3 m.1.1 15 i 2 v, m.1.2), m.2) 15 i = .inr (6, List.set [.int (nI i), .ref (gad g 16 i), .int (m.1.1 15 i 2), .int (m.1.1 15 i 3), va_rf ((m.1.2 0 i).map (gad g 11)), .int (m.1.1 15 i 5)] 2 (.int v)) := by simp [ent, up3, List.set]
theorem ep_15_3 (g : GG) (m : MW) (i : Nat) (v : Int32) : ent g ((up3 m.1.1 15 i 3 v, m.1.2), m.2) 15 i = .inr (6, List.set [.int (nI i), .ref (gad g 16 i), .int (m.1.1 15 i 2), .int (m.1.1 15 i 3), va_rf ((m.1.2 0 i).map (gad g 11)), .int (m.1.1 15 i 5)] 3 (.int v)) := by simp [ent, up3, List.set]
theorem ep_15_5 (g : GG) (m : MW) (i : Nat) (v : Int32) : ent g ((up3 m.1.1 15 i 5 v, m.1.2), m.2) 15 i = .inr (6, List.set [.int (nI i), .ref (gad g 16 i), .int (m.1.1 15 i 2), .int (m.1.1 15 i 3), va_rf ((m.1.2 0 i).map (gad g 11)), .int (m.1.1 15 i 5)] 5 (.int v)) := by simp [ent, up3, List.set]
theorem ep_0_8 (g : GG) (m : MW) (i : Nat) (v : Int32) : ent g ((up3 m.1.1 0 i 8 v, m.1.2), m.2) 0 i = .inr (7, List.set [.ref (gad g 1 0), .ref (gad g 5 0), .ref (gad g 6 0), .ref (gad g 8 0), .ref (gad g 10 0), .int (m.1.1 0 i 5), .int (m.1.1 0 i 6), .int (m.1.1 0 i 7), .int (m.1.1 0 i 8)] 8 (.int v)) := by simp [ent, up3, List.set]
theorem ep_0_5 (g : GG) (m : MW) (i : Nat) (v : Int32) : ent g ((up3 m.1.1 0 i 5 v, m.1.2), m.2) 0 i = .inr (7, List.set [.ref (gad g 1 0), .ref (gad g 5 0), .ref (gad g 6 0), .ref (gad g 8 0), .ref (gad g 10 0), .int (m.1.1 0 i 5), .int (m.1.1 0 i 6), .int (m.1.1 0 i 7), .int (m.1.1 0 i 8)] 5 (.int v)) := by simp [ent, up3, List.set]
theorem ep_0_6 (g : GG) (m : MW) (i : Nat) (v : Int32) : ent g ((up3 m.1.1 0 i 6 v, m.1.2), m.2) 0 i = .inr (7, List.set [.ref (gad g 1 0), .ref (gad g 5 0), .ref (gad g 6 0), .ref (gad g 8 0), .ref (gad g 10 0), .int (m.1.1 0 i 5), .int (m.1.1 0 i 6), .int (m.1.1 0 i 7), .int (m.1.1 0 i 8)] 6 (.int v)) := by simp [ent, up3, List.set]
theorem ep_0_7 (g : GG) (m : MW) (i : Nat) (v : Int32) : ent g ((up3 m.1.1 0 i 7 v, m.1.2), m.2) 0 i = .inr (7, List.set [.ref (gad g 1 0), .ref (gad g 5 0), .ref (gad g 6 0), .ref (gad g 8 0), .ref (gad g 10 0), .int (m.1.1 0 i 5), .int (m.1.1 0 i 6), .int (m.1.1 0 i 7), .int (m.1.1 0 i 8)] 7 (.int v)) := by simp [ent, up3, List.set]
theorem ep2_30 (g : GG) (m : MW) (v : Int32) : ent g (m.1, up2 m.2 22 30 v) 22 0 = .inr (8, List.set [.ref (gad g 30 0), .ref (gad g 31 0), .int (m.2 22 2), .ref (gad g 33 0), .ref (gad g 34 0), .ref (gad g 35 0), .ref (gad g 36 0), .ref (gad g 37 0), .ref (gad g 38 0), .ref (gad g 39 0), .ref (gad g 40 0), .ref (gad g 41 0), .ref (gad g 42 0), .ref (gad g 43 0), .ref (gad g 44 0), .ref (gad g 45 0), .ref (gad g 46 0), .ref (gad g 47 0), .int (m.2 22 18), .int (m.2 22 19), .ref (gad g 50 0), .ref (gad g 51 0), .ref (gad g 52 0), .int (m.2 22 23), .int (m.2 22 24), .int (m.2 22 25), .int (m.2 22 26), .int (m.2 22 27), .int (m.2 22 28), .int (m.2 22 29), .int (m.2 22 30), .int (m.2 22 31), .int (m.2 22 32), .int (m.2 22 33)] 30 (.int v)) := by simp [ent, up2, List.set]
theorem ep2_29 (g : GG) (m : MW) (v : Int32) : ent g (m.1, up2 m.2 22 29 v) 22 0 = .inr (8, List.set [.ref (gad g 30 0), .ref (gad g 31 0), .int (m.2 22 2), .ref (gad g 33 0), .ref (gad g 34 0), .ref (gad g 35 0), .ref (gad g 36 0), .ref (gad g 37 0), .ref (gad g 38 0), .ref (gad g 39 0), .ref (gad g 40 0), .ref (gad g 41 0), .ref (gad g 42 0), .ref (gad g 43 0), .ref (gad g 44 0), .ref (gad g 45 0), .ref (gad g 46 0), .ref (gad g 47 0), .int (m.2 22 18), .int (m.2 22 19), .ref (gad g 50 0), .ref (gad g 51 0), .ref (gad g 52 0), .int (m.2 22 23), .int (m.2 22 24), .int (m.2 22 25), .int (m.2 22 26), .int (m.2 22 27), .int (m.2 22 28), .int (m.2 22 29), .int (m.2 22 30), .int (m.2 22 31), .int (m.2 22 32), .int (m.2 22 33)] 29 (.int v)) := by simp [ent, up2, List.set]
theorem ep2_27 (g : GG) (m : MW) (v : Int32) : ent g (m.1, up2 m.2 22 27 v) 22 0 = .inr (8, List.set [.ref (gad g 30 0), .ref (gad g 31 0), .int (m.2 22 2), .ref (gad g 33 0), .ref (gad g 34 0), .ref (gad g 35 0), .ref (gad g 36 0), .ref (gad g 37 0), .ref (gad g 38 0), .ref (gad g 39 0), .ref (gad g 40 0), .ref (gad g 41 0), .ref (gad g 42 0), .ref (gad g 43 0), .ref (gad g 44 0), .ref (gad g 45 0), .ref (gad g 46 0), .ref (gad g 47 0), .int (m.2 22 18), .int (m.2 22 19), .ref (gad g 50 0), .ref (gad g 51 0), .ref (gad g 52 0), .int (m.2 22 23), .int (m.2 22 24), .int (m.2 22 25), .int (m.2 22 26), .int (m.2 22 27), .int (m.2 22 28), .int (m.2 22 29), .int (m.2 22 30), .int (m.2 22 31), .int (m.2 22 32), .int (m.2 22 33)] 27 (.int v)) := by simp [ent, up2, List.set]
theorem ep2_31 (g : GG) (m : MW) (v : Int32) : ent g (m.1, up2 m.2 22 31 v) 22 0 = .inr (8, List.set [.ref (gad g 30 0), .ref (gad g 31 0), .int (m.2 22 2), .ref (gad g 33 0), .ref (gad g 34 0), .ref (gad g 35 0), .ref (gad g 36 0), .ref (gad g 37 0), .ref (gad g 38 0), .ref (gad g 39 0), .ref (gad g 40 0), .ref (gad g 41 0), .ref (gad g 42 0), .ref (gad g 43 0), .ref (gad g 44 0), .ref (gad g 45 0), .ref (gad g 46 0), .ref (gad g 47 0), .int (m.2 22 18), .int (m.2 22 19), .ref (gad g 50 0), .ref (gad g 51 0), .ref (gad g 52 0), .int (m.2 22 23), .int (m.2 22 24), .int (m.2 22 25), .int (m.2 22 26), .int (m.2 22 27), .int (m.2 22 28), .int (m.2 22 29), .int (m.2 22 30), .int (m.2 22 31), .int (m.2 22 32), .int (m.2 22 33)] 31 (.int v)) := by simp [ent, up2, List.set]
theorem ep2_18 (g : GG) (m : MW) (v : Int32) : ent g (m.1, up2 m.2 22 18 v) 22 0 = .inr (8, List.set [.ref (gad g 30 0), .ref (gad g 31 0), .int (m.2 22 2), .ref (gad g 33 0), .ref (gad g 34 0), .ref (gad g 35 0), .ref (gad g 36 0), .ref (gad g 37 0), .ref (gad g 38 0), .ref (gad g 39 0), .ref (gad g 40 0), .ref (gad g 41 0), .ref (gad g 42 0), .ref (gad g 43 0), .ref (gad g 44 0), .ref (gad g 45 0), .ref (gad g 46 0), .ref (gad g 47 0), .int (m.2 22 18), .int (m.2 22 19), .ref (gad g 50 0), .ref (gad g 51 0), .ref (gad g 52 0), .int (m.2 22 23), .int (m.2 22 24), .int (m.2 22 25), .int (m.2 22 26), .int (m.2 22 27), .int (m.2 22 28), .int (m.2 22 29), .int (m.2 22 30), .int (m.2 22 31), .int (m.2 22 32), .int (m.2 22 33)] 18 (.int v)) := by simp [ent, up2, List.set]
theorem ep2_25 (g : GG) (m : MW) (v : Int32) : ent g (m.1, up2 m.2 22 25 v) 22 0 = .inr (8, List.set [.ref (gad g 30 0), .ref (gad g 31 0), .int (m.2 22 2), .ref (gad g 33 0), .ref (gad g 34 0), .ref (gad g 35 0), .ref (gad g 36 0), .ref (gad g 37 0), .ref (gad g 38 0), .ref (gad g 39 0), .ref (gad g 40 0), .ref (gad g 41 0), .ref (gad g 42 0), .ref (gad g 43 0), .ref (gad g 44 0), .ref (gad g 45 0), .ref (gad g 46 0), .ref (gad g 47 0), .int (m.2 22 18), .int (m.2 22 19), .ref (gad g 50 0), .ref (gad g 51 0), .ref (gad g 52 0), .int (m.2 22 23), .int (m.2 22 24), .int (m.2 22 25), .int (m.2 22 26), .int (m.2 22 27), .int (m.2 22 28), .int (m.2 22 29), .int (m.2 22 30), .int (m.2 22 31), .int (m.2 22 32), .int (m.2 22 33)] 25 (.int v)) := by simp [ent, up2, List.set]
theorem ep2_33 (g : GG) (m : MW) (v : Int32) : ent g (m.1, up2 m.2 22 33 v) 22 0 = .inr (8, List.set [.ref (gad g 30 0), .ref (gad g 31 0), .int (m.2 22 2), .ref (gad g 33 0), .ref (gad g 34 0), .ref (gad g 35 0), .ref (gad g 36 0), .ref (gad g 37 0), .ref (gad g 38 0), .ref (gad g 39 0), .ref (gad g 40 0), .ref (gad g 41 0), .ref (gad g 42 0), .ref (gad g 43 0), .ref (gad g 44 0), .ref (gad g 45 0), .ref (gad g 46 0), .ref (gad g 47 0), .int (m.2 22 18), .int (m.2 22 19), .ref (gad g 50 0), .ref (gad g 51 0), .ref (gad g 52 0), .int (m.2 22 23), .int (m.2 22 24), .int (m.2 22 25), .int (m.2 22 26), .int (m.2 22 27), .int (m.2 22 28), .int (m.2 22 29), .int (m.2 22 30), .int (m.2 22 31), .int (m.2 22 32), .int (m.2 22 33)] 33 (.int v)) := by simp [ent, up2, List.set]
theorem ep2_28 (g : GG) (m : MW) (v : Int32) : ent g (m.1, up2 m.2 22 28 v) 22 0 = .inr (8, List.set [.ref (gad g 30 0), .ref (gad g 31 0), .int (m.2 22 2), .ref (gad g 33 0), .ref (gad g 34 0), .ref (gad g 35 0), .ref (gad g 36 0), .ref (gad g 37 0), .ref (gad g 38 0), .ref (gad g 39 0), .ref (gad g 40 0), .ref (gad g 41 0), .ref (gad g 42 0), .ref (gad g 43 0), .ref (gad g 44 0), .ref (gad g 45 0), .ref (gad g 46 0), .ref (gad g 47 0), .int (m.2 22 18), .int (m.2 22 19), .ref (gad g 50 0), .ref (gad g 51 0), .ref (gad g 52 0), .int (m.2 22 23), .int (m.2 22 24), .int (m.2 22 25), .int (m.2 22 26), .int (m.2 22 27), .int (m.2 22 28), .int (m.2 22 29), .int (m.2 22 30), .int (m.2 22 31), .int (m.2 22 32), .int (m.2 22 33)] 28 (.int v)) := by simp [ent, up2, List.set]
theorem ep2_2 (g : GG) (m : MW) (v : Int32) : ent g (m.1, up2 m.2 22 2 v) 22 0 = .inr (8, List.set [.ref (gad g 30 0), .ref (gad g 31 0), .int (m.2 22 2), .ref (gad g 33 0), .ref (gad g 34 0), .ref (gad g 35 0), .ref (gad g 36 0), .ref (gad g 37 0), .ref (gad g 38 0), .ref (gad g 39 0), .ref (gad g 40 0), .ref (gad g 41 0), .ref (gad g 42 0), .ref (gad g 43 0), .ref (gad g 44 0), .ref (gad g 45 0), .ref (gad g 46 0), .ref (gad g 47 0), .int (m.2 22 18), .int (m.2 22 19), .ref (gad g 50 0), .ref (gad g 51 0), .ref (gad g 52 0), .int (m.2 22 23), .int (m.2 22 24), .int (m.2 22 25), .int (m.2 22 26), .int (m.2 22 27), .int (m.2 22 28), .int (m.2 22 29), .int (m.2 22 30), .int (m.2 22 31), .int (m.2 22 32), .int (m.2 22 33)] 2 (.int v)) := by simp [ent, up2, List.set]
theorem ep2_19 (g : GG) (m : MW) (v : Int32) : ent g (m.1, up2 m.2 22 19 v) 22 0 = .inr (8, List.set [.ref (gad g 30 0), .ref (gad g 31 0), .int (m.2 22 2), .ref (gad g 33 0), .ref (gad g 34 0), .ref (gad g 35 0), .ref (gad g 36 0), .ref (gad g 37 0), .ref (gad g 38 0), .ref (gad g 39 0), .ref (gad g 40 0), .ref (gad g 41 0), .ref (gad g 42 0), .ref (gad g 43 0), .ref (gad g 44 0), .ref (gad g 45 0), .ref (gad g 46 0), .ref (gad g 47 0), .int (m.2 22 18), .int (m.2 22 19), .ref (gad g 50 0), .ref (gad g 51 0), .ref (gad g 52 0), .int (m.2 22 23), .int (m.2 22 24), .int (m.2 22 25), .int (m.2 22 26), .int (m.2 22 27), .int (m.2 22 28), .int (m.2 22 29), .int (m.2 22 30), .int (m.2 22 31), .int (m.2 22 32), .int (m.2 22 33)] 19 (.int v)) := by simp [ent, up2, List.set]
theorem ep2_32 (g : GG) (m : MW) (v : Int32) : ent g (m.1, up2 m.2 22 32 v) 22 0 = .inr (8, List.set [.ref (gad g 30 0), .ref (gad g 31 0), .int (m.2 22 2), .ref (gad g 33 0), .ref (gad g 34 0), .ref (gad g 35 0), .ref (gad g 36 0), .ref (gad g 37 0), .ref (gad g 38 0), .ref (gad g 39 0), .ref (gad g 40 0), .ref (gad g 41 0), .ref (gad g 42 0), .ref (gad g 43 0), .ref (gad g 44 0), .ref (gad g 45 0), .ref (gad g 46 0), .ref (gad g 47 0), .int (m.2 22 18), .int (m.2 22 19), .ref (gad g 50 0), .ref (gad g 51 0), .ref (gad g 52 0), .int (m.2 22 23), .int (m.2 22 24), .int (m.2 22 25), .int (m.2 22 26), .int (m.2 22 27), .int (m.2 22 28), .int (m.2 22 29), .int (m.2 22 30), .int (m.2 22 31), .int (m.2 22 32), .int (m.2 22 33)] 32 (.int v)) := by simp [ent, up2, List.set]
theorem ep2_23 (g : GG) (m : MW) (v : Int32) : ent g (m.1, up2 m.2 22 23 v) 22 0 = .inr (8, List.set [.ref (gad g 30 0), .ref (gad g 31 0), .int (m.2 22 2), .ref (gad g 33 0), .ref (gad g 34 0), .ref (gad g 35 0), .ref (gad g 36 0), .ref (gad g 37 0), .ref (gad g 38 0), .ref (gad g 39 0), .ref (gad g 40 0), .ref (gad g 41 0), .ref (gad g 42 0), .ref (gad g 43 0), .ref (gad g 44 0), .ref (gad g 45 0), .ref (gad g 46 0), .ref (gad g 47 0), .int (m.2 22 18), .int (m.2 22 19), .ref (gad g 50 0), .ref (gad g 51 0), .ref (gad g 52 0), .int (m.2 22 23), .int (m.2 22 24), .int (m.2 22 25), .int (m.2 22 26), .int (m.2 22 27), .int (m.2 22 28), .int (m.2 22 29), .int (m.2 22 30), .int (m.2 22 31), .int (m.2 22 32), .int (m.2 22 33)] 23 (.int v)) := by simp [ent, up2, List.set]
theorem ep2_26 (g : GG) (m : MW) (v : Int32) : ent g (m.1, up2 m.2 22 26 v) 22 0 = .inr (8, List.set [.ref (gad g 30 0), .ref (gad g 31 0), .int (m.2 22 2), .ref (gad g 33 0), .ref (gad g 34 0), .ref (gad g 35 0), .ref (gad g 36 0), .ref (gad g 37 0), .ref (gad g 38 0), .ref (gad g 39 0), .ref (gad g 40 0), .ref (gad g 41 0), .ref (gad g 42 0), .ref (gad g 43 0), .ref (gad g 44 0), .ref (gad g 45 0), .ref (gad g 46 0), .ref (gad g 47 0), .int (m.2 22 18), .int (m.2 22 19), .ref (gad g 50 0), .ref (gad g 51 0), .ref (gad g 52 0), .int (m.2 22 23), .int (m.2 22 24), .int (m.2 22 25), .int (m.2 22 26), .int (m.2 22 27), .int (m.2 22 28), .int (m.2 22 29), .int (m.2 22 30), .int (m.2 22 31), .int (m.2 22 32), .int (m.2 22 33)] 26 (.int v)) := by simp [ent, up2, List.set]
theorem ep2_24 (g : GG) (m : MW) (v : Int32) : ent g (m.1, up2 m.2 22 24 v) 22 0 = .inr (8, List.set [.ref (gad g 30 0), .ref (gad g 31 0), .int (m.2 22 2), .ref (gad g 33 0), .ref (gad g 34 0), .ref (gad g 35 0), .ref (gad g 36 0), .ref (gad g 37 0), .ref (gad g 38 0), .ref (gad g 39 0), .ref (gad g 40 0), .ref (gad g 41 0), .ref (gad g 42 0), .ref (gad g 43 0), .ref (gad g 44 0), .ref (gad g 45 0), .ref (gad g 46 0), .ref (gad g 47 0), .int (m.2 22 18), .int (m.2 22 19), .ref (gad g 50 0), .ref (gad g 51 0), .ref (gad g 52 0), .int (m.2 22 23), .int (m.2 22 24), .int (m.2 22 25), .int (m.2 22 26), .int (m.2 22 27), .int (m.2 22 28), .int (m.2 22 29), .int (m.2 22 30), .int (m.2 22 31), .int (m.2 22 32), .int (m.2 22 33)] 24 (.int v)) := by simp [ent, up2, List.set]
theorem ea_2 (g : GG) (m : MW) (i j : Nat) (v : Int32) : ent g ((up3 m.1.1 2 i j v, m.1.2), m.2) 2 i = aI (gcZ g) 10 (upd (m.1.1 2 i) j v) := by simp only [ent, up3_eq]
theorem ea_3 (g : GG) (m : MW) (i j : Nat) (v : Int32) : ent g ((up3 m.1.1 3 i j v, m.1.2), m.2) 3 i = aI (gcI g) 10 (upd (m.1.1 3 i) j v) := by simp only [ent, up3_eq]
theorem ea_4 (g : GG) (m : MW) (i j : Nat) (v : Int32) : ent g ((up3 m.1.1 4 i j v, m.1.2), m.2) 4 i = aI (gcI g) 10 (upd (m.1.1 4 i) j v) := by simp only [ent, up3_eq]
theorem ea_12 (g : GG) (m : MW) (i j : Nat) (v : Int32) : ent g ((up3 m.1.1 12 i j v, m.1.2), m.2) 12 i = aI (gcI g) 8 (upd (m.1.1 12 i) j v) := by simp only [ent, up3_eq]
theorem ea_13 (g : GG) (m : MW) (i j : Nat) (v : Int32) : ent g ((up3 m.1.1 13 i j v, m.1.2), m.2) 13 i = aI (gcI g) 8 (upd (m.1.1 13 i) j v) := by simp only [ent, up3_eq]
theorem ea_14 (g : GG) (m : MW) (i j : Nat) (v : Int32) : ent g ((up3 m.1.1 14 i j v, m.1.2), m.2) 14 i = aI (gcI g) 8 (upd (m.1.1 14 i) j v) := by simp only [ent, up3_eq]
theorem ea_17 (g : GG) (m : MW) (i j : Nat) (v : Int32) : ent g ((up3 m.1.1 17 i j v, m.1.2), m.2) 17 i = aI (gcI g) 3 (upd (m.1.1 17 i) j v) := by simp only [ent, up3_eq]
theorem ea_18 (g : GG) (m : MW) (i j : Nat) (v : Int32) : ent g ((up3 m.1.1 18 i j v, m.1.2), m.2) 18 i = aI (gcI g) 3 (upd (m.1.1 18 i) j v) := by simp only [ent, up3_eq]
theorem ea_19 (g : GG) (m : MW) (i j : Nat) (v : Int32) : ent g ((up3 m.1.1 19 i j v, m.1.2), m.2) 19 i = aI (gcZ g) 3 (upd (m.1.1 19 i) j v) := by simp only [ent, up3_eq]
theorem ea_20 (g : GG) (m : MW) (i j : Nat) (v : Int32) : ent g ((up3 m.1.1 20 i j v, m.1.2), m.2) 20 i = aI (gcI g) 3 (upd (m.1.1 20 i) j v) := by simp only [ent, up3_eq]
theorem ea_21 (g : GG) (m : MW) (i j : Nat) (v : Int32) : ent g ((up3 m.1.1 21 i j v, m.1.2), m.2) 21 i = aI (gcI g) 3 (upd (m.1.1 21 i) j v) := by simp only [ent, up3_eq]
theorem ea_30 (g : GG) (m : MW) (j : Nat) (v : Int32) : ent g (m.1, up2 m.2 30 j v) 30 0 = aI (gcI g) 10 (upd (m.2 30) j v) := by simp only [ent, up2_eq]
theorem ea_31 (g : GG) (m : MW) (j : Nat) (v : Int32) : ent g (m.1, up2 m.2 31 j v) 31 0 = aI (gcI g) 10 (upd (m.2 31) j v) := by simp only [ent, up2_eq]
theorem ea_33 (g : GG) (m : MW) (j : Nat) (v : Int32) : ent g (m.1, up2 m.2 33 j v) 33 0 = aI (gcI g) 10 (upd (m.2 33) j v) := by simp only [ent, up2_eq]
theorem ea_34 (g : GG) (m : MW) (j : Nat) (v : Int32) : ent g (m.1, up2 m.2 34 j v) 34 0 = aI (gcI g) 10 (upd (m.2 34) j v) := by simp only [ent, up2_eq]
theorem ea_35 (g : GG) (m : MW) (j : Nat) (v : Int32) : ent g (m.1, up2 m.2 35 j v) 35 0 = aI (gcI g) 80 (upd (m.2 35) j v) := by simp only [ent, up2_eq]
theorem ea_36 (g : GG) (m : MW) (j : Nat) (v : Int32) : ent g (m.1, up2 m.2 36 j v) 36 0 = aI (gcI g) 80 (upd (m.2 36) j v) := by simp only [ent, up2_eq]
theorem ea_37 (g : GG) (m : MW) (j : Nat) (v : Int32) : ent g (m.1, up2 m.2 37 j v) 37 0 = aI (gcI g) 80 (upd (m.2 37) j v) := by simp only [ent, up2_eq]
theorem ea_38 (g : GG) (m : MW) (j : Nat) (v : Int32) : ent g (m.1, up2 m.2 38 j v) 38 0 = aI (gcI g) 10 (upd (m.2 38) j v) := by simp only [ent, up2_eq]
theorem ea_39 (g : GG) (m : MW) (j : Nat) (v : Int32) : ent g (m.1, up2 m.2 39 j v) 39 0 = aI (gcI g) 10 (upd (m.2 39) j v) := by simp only [ent, up2_eq]
theorem ea_40 (g : GG) (m : MW) (j : Nat) (v : Int32) : ent g (m.1, up2 m.2 40 j v) 40 0 = aI (gcI g) 30 (upd (m.2 40) j v) := by simp only [ent, up2_eq]
theorem ea_41 (g : GG) (m : MW) (j : Nat) (v : Int32) : ent g (m.1, up2 m.2 41 j v) 41 0 = aI (gcI g) 30 (upd (m.2 41) j v) := by simp only [ent, up2_eq]
theorem ea_42 (g : GG) (m : MW) (j : Nat) (v : Int32) : ent g (m.1, up2 m.2 42 j v) 42 0 = aI (gcI g) 30 (upd (m.2 42) j v) := by simp only [ent, up2_eq]
theorem ea_43 (g : GG) (m : MW) (j : Nat) (v : Int32) : ent g (m.1, up2 m.2 43 j v) 43 0 = aI (gcI g) 30 (upd (m.2 43) j v) := by simp only [ent, up2_eq]
theorem ea_44 (g : GG) (m : MW) (j : Nat) (v : Int32) : ent g (m.1, up2 m.2 44 j v) 44 0 = aI (gcI g) 10 (upd (m.2 44) j v) := by simp only [ent, up2_eq]
theorem ea_45 (g : GG) (m : MW) (j : Nat) (v : Int32) : ent g (m.1, up2 m.2 45 j v) 45 0 = aI (gcI g) 10 (upd (m.2 45) j v) := by simp only [ent, up2_eq]
theorem ea_46 (g : GG) (m : MW) (j : Nat) (v : Int32) : ent g (m.1, up2 m.2 46 j v) 46 0 = aI (gcZ g) 10 (upd (m.2 46) j v) := by simp only [ent, up2_eq]
theorem ea_47 (g : GG) (m : MW) (j : Nat) (v : Int32) : ent g (m.1, up2 m.2 47 j v) 47 0 = aI (gcI g) 400 (upd (m.2 47) j v) := by simp only [ent, up2_eq]
theorem ea_50 (g : GG) (m : MW) (j : Nat) (v : Int32) : ent g (m.1, up2 m.2 50 j v) 50 0 = aI (gcZ g) 4 (upd (m.2 50) j v) := by simp only [ent, up2_eq]
theorem ea_51 (g : GG) (m : MW) (j : Nat) (v : Int32) : ent g (m.1, up2 m.2 51 j v) 51 0 = aI (gcI g) 4 (upd (m.2 51) j v) := by simp only [ent, up2_eq]
theorem ea_52 (g : GG) (m : MW) (j : Nat) (v : Int32) : ent g (m.1, up2 m.2 52 j v) 52 0 = aI (gcI g) 4 (upd (m.2 52) j v) := by simp only [ent, up2_eq]
theorem sw_0_8 {x : Int32} (h1 : ¬ x.toInt < 0) (h2 : ¬ 8 < x.toInt) : x = 0 ∨ x = 1 ∨ x = 2 ∨ x = 3 ∨ x = 4 ∨ x = 5 ∨ x = 6 ∨ x = 7 ∨ x = 8 := by
  have hx : x = Int32.ofInt x.toInt := (Int32.ofInt_toInt x).symm
  have h3 : x.toInt = 0 ∨ x.toInt = 1 ∨ x.toInt = 2 ∨ x.toInt = 3 ∨ x.toInt = 4 ∨ x.toInt = 5 ∨ x.toInt = 6 ∨ x.toInt = 7 ∨ x.toInt = 8 := by omega
  rcases h3 with h3 | h3 | h3 | h3 | h3 | h3 | h3 | h3 | h3
  · exact Or.inl <| (by rw [hx, h3]; rfl)
  · exact Or.inr <| Or.inl <| (by rw [hx, h3]; rfl)
  · exact Or.inr <| Or.inr <| Or.inl <| (by rw [hx, h3]; rfl)
  · exact Or.inr <| Or.inr <| Or.inr <| Or.inl <| (by rw [hx, h3]; rfl)
  · exact Or.inr <| Or.inr <| Or.inr <| Or.inr <| Or.inl <| (by rw [hx, h3]; rfl)
  · exact Or.inr <| Or.inr <| Or.inr <| Or.inr <| Or.inr <| Or.inl <| (by rw [hx, h3]; rfl)
  · exact Or.inr <| Or.inr <| Or.inr <| Or.inr <| Or.inr <| Or.inr <| Or.inl <| (by rw [hx, h3]; rfl)
  · exact Or.inr <| Or.inr <| Or.inr <| Or.inr <| Or.inr <| Or.inr <| Or.inr <| Or.inl <| (by rw [hx, h3]; rfl)
  · exact Or.inr <| Or.inr <| Or.inr <| Or.inr <| Or.inr <| Or.inr <| Or.inr <| Or.inr <| (by rw [hx, h3]; rfl)
theorem sw_0_9 {x : Int32} (h1 : ¬ x.toInt < 0) (h2 : ¬ 9 < x.toInt) : x = 0 ∨ x = 1 ∨ x = 2 ∨ x = 3 ∨ x = 4 ∨ x = 5 ∨ x = 6 ∨ x = 7 ∨ x = 8 ∨ x = 9 := by
  have hx : x = Int32.ofInt x.toInt := (Int32.ofInt_toInt x).symm
  have h3 : x.toInt = 0 ∨ x.toInt = 1 ∨ x.toInt = 2 ∨ x.toInt = 3 ∨ x.toInt = 4 ∨ x.toInt = 5 ∨ x.toInt = 6 ∨ x.toInt = 7 ∨ x.toInt = 8 ∨ x.toInt = 9 := by omega
  rcases h3 with h3 | h3 | h3 | h3 | h3 | h3 | h3 | h3 | h3 | h3
  · exact Or.inl <| (by rw [hx, h3]; rfl)
  · exact Or.inr <| Or.inl <| (by rw [hx, h3]; rfl)
  · exact Or.inr <| Or.inr <| Or.inl <| (by rw [hx, h3]; rfl)
  · exact Or.inr <| Or.inr <| Or.inr <| Or.inl <| (by rw [hx, h3]; rfl)
  · exact Or.inr <| Or.inr <| Or.inr <| Or.inr <| Or.inl <| (by rw [hx, h3]; rfl)
  · exact Or.inr <| Or.inr <| Or.inr <| Or.inr <| Or.inr <| Or.inl <| (by rw [hx, h3]; rfl)
  · exact Or.inr <| Or.inr <| Or.inr <| Or.inr <| Or.inr <| Or.inr <| Or.inl <| (by rw [hx, h3]; rfl)
  · exact Or.inr <| Or.inr <| Or.inr <| Or.inr <| Or.inr <| Or.inr <| Or.inr <| Or.inl <| (by rw [hx, h3]; rfl)
  · exact Or.inr <| Or.inr <| Or.inr <| Or.inr <| Or.inr <| Or.inr <| Or.inr <| Or.inr <| Or.inl <| (by rw [hx, h3]; rfl)
  · exact Or.inr <| Or.inr <| Or.inr <| Or.inr <| Or.inr <| Or.inr <| Or.inr <| Or.inr <| Or.inr <| (by rw [hx, h3]; rfl)
theorem sw_0_11 {x : Int32} (h1 : ¬ x.toInt < 0) (h2 : ¬ 11 < x.toInt) : x = 0 ∨ x = 1 ∨ x = 2 ∨ x = 3 ∨ x = 4 ∨ x = 5 ∨ x = 6 ∨ x = 7 ∨ x = 8 ∨ x = 9 ∨ x = 10 ∨ x = 11 := by
  have hx : x = Int32.ofInt x.toInt := (Int32.ofInt_toInt x).symm
  have h3 : x.toInt = 0 ∨ x.toInt = 1 ∨ x.toInt = 2 ∨ x.toInt = 3 ∨ x.toInt = 4 ∨ x.toInt = 5 ∨ x.toInt = 6 ∨ x.toInt = 7 ∨ x.toInt = 8 ∨ x.toInt = 9 ∨ x.toInt = 10 ∨ x.toInt = 11 := by omega
  rcases h3 with h3 | h3 | h3 | h3 | h3 | h3 | h3 | h3 | h3 | h3 | h3 | h3
  · exact Or.inl <| (by rw [hx, h3]; rfl)
  · exact Or.inr <| Or.inl <| (by rw [hx, h3]; rfl)
  · exact Or.inr <| Or.inr <| Or.inl <| (by rw [hx, h3]; rfl)
  · exact Or.inr <| Or.inr <| Or.inr <| Or.inl <| (by rw [hx, h3]; rfl)
  · exact Or.inr <| Or.inr <| Or.inr <| Or.inr <| Or.inl <| (by rw [hx, h3]; rfl)
  · exact Or.inr <| Or.inr <| Or.inr <| Or.inr <| Or.inr <| Or.inl <| (by rw [hx, h3]; rfl)
  · exact Or.inr <| Or.inr <| Or.inr <| Or.inr <| Or.inr <| Or.inr <| Or.inl <| (by rw [hx, h3]; rfl)
  · exact Or.inr <| Or.inr <| Or.inr <| Or.inr <| Or.inr <| Or.inr <| Or.inr <| Or.inl <| (by rw [hx, h3]; rfl)
  · exact Or.inr <| Or.inr <| Or.inr <| Or.inr <| Or.inr <| Or.inr <| Or.inr <| Or.inr <| Or.inl <| (by rw [hx, h3]; rfl)
  · exact Or.inr <| Or.inr <| Or.inr <| Or.inr <| Or.inr <| Or.inr <| Or.inr <| Or.inr <| Or.inr <| Or.inl <| (by rw [hx, h3]; rfl)
  · exact Or.inr <| Or.inr <| Or.inr <| Or.inr <| Or.inr <| Or.inr <| Or.inr <| Or.inr <| Or.inr <| Or.inr <| Or.inl <| (by rw [hx, h3]; rfl)
  · exact Or.inr <| Or.inr <| Or.inr <| Or.inr <| Or.inr <| Or.inr <| Or.inr <| Or.inr <| Or.inr <| Or.inr <| Or.inr <| (by rw [hx, h3]; rfl)
theorem sw_2_4 {x : Int32} (h1 : ¬ x.toInt < 2) (h2 : ¬ 4 < x.toInt) : x = 2 ∨ x = 3 ∨ x = 4 := by
  have hx : x = Int32.ofInt x.toInt := (Int32.ofInt_toInt x).symm
  have h3 : x.toInt = 2 ∨ x.toInt = 3 ∨ x.toInt = 4 := by omega
  rcases h3 with h3 | h3 | h3
  · exact Or.inl <| (by rw [hx, h3]; rfl)
  · exact Or.inr <| Or.inl <| (by rw [hx, h3]; rfl)
  · exact Or.inr <| Or.inr <| (by rw [hx, h3]; rfl)
end
