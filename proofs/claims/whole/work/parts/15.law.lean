def R_law : String := "FactSharesLaw"
def lw_P (b : Addr) (xs : List Int32) (args : Array Value) (s : State) : Prop := args = #[.ref b] ∧ s.IntsAt b xs ∧ xs.length ≤ 2560 ∧ (Jvm.Cond.and given_1 narrow_1).before args s = true
def lw_Q (_ : Array Value) (s : State) (o : Outcome) (t : State) : Prop := o = .returned (some (.int 1)) ∧ Framed s o t [] 600000 7302250
def lw_Z (below : List Frame) (a : Array Value) (s : State) : State → Prop := fun t => ∃ o, t.status = .running ∧ Ended t below o ∧ lw_Q a s o t
/-- the law's own end, with 1 on the stack, nothing written that was there before, its room as the claim has it -/
theorem lw_ret {p : Program} {l : Launch} {e : Env} {s : State} {m : MethodId} {below : List Frame} {meth : Method} {c : Code} {b : Nat} (hx : p.tables.exec = Jvm.exec) (hb : c.code = code) (hr : meth.sig.returnType = ret) (hlocks : meth.locks = false) {pc : Nat} {H : Heap} {ls : Array Slot} (hdg : decode code pc = .ok (.ireturn, 1)) : W p l e room_1 s m #[Value.ref b] below meth c H [] 600000 7302250 (lw_Z below #[Value.ref b] s) (F0 m pc ls [.int 1]) := by
  intro T hT X
  obtain ⟨fs, hret, hrun, hended, hW, hframe⟩ := X.leave (v := some (.int 1)) (hlocks := hlocks) (fun h => by rw [hr] at h; cases h)
  have hmeth' : T.vm.method? m = some meth := X.method'
  refine ⟨T.setFrames fs, ?_, .returned (some (.int 1)), hrun, hended, rfl, ⟨_, rfl⟩, hW, hframe⟩
  jvm_step X.here [X.here.top, hx, hb, hdg, hmeth', hr, ret, narrow_b1]
  (try refine ⟨rfl, ?_⟩); (try refine ⟨rfl, ?_⟩)
  first | (intro acts; rw [hret _ acts rfl rfl rfl]) | rw [hret _ _ rfl rfl rfl]
  exact Steps.refl _
/-- what holds at the law's entry: the machine, the code, the tables' words (any of lw_tbl by 'hts w (by decide +kernel)'), the script of L ints xs at the cell b, what the Statement gives of the start (any of its parts by flat_of_before) -/
def lw_At (p : Program) (s : State) (m : MethodId) (meth : Method) (c : Code) (b L : Nat) (xs : Nat → Int32) : Prop :=
  p.tables.exec = Jvm.exec ∧ c.code = code ∧ meth.sig.returnType = ret ∧ c.maxLocals = 4 ∧ s.vm.findClass R_law = some m.cls ∧ (∀ w ∈ lw_tbl, w.before #[Value.ref b] s = true) ∧ va_X b L xs s s.heap ∧ b < s.heap.size ∧ meth.locks = false ∧ (Jvm.Cond.and given_1 narrow_1).before #[Value.ref b] s = true

section TL
variable {p : Program} {l : Launch} {e : Env} {R : Room} {s : State} {mi : MethodId} {below : List Frame} {meth : Method} {c : Code} {cells slots : Nat} {Q : State → Prop} {g : GG} {nL : Nat} {m : MW} {pc : Nat} {lv : List (Nat × Value)} {rest : List Value} {cc : ByteArray} {own : String} {rt : Option FieldType} {b L : Nat} {xs : Nat → Int32} {args : Array Value}
theorem kt_sld (C : Cx p s mi args meth c cc own nL rt g) (hX : va_X b L xs s s.heap ∧ b < s.heap.size ∧ ¬ gA g b) {x : Int32} (hin : vp_in x L) (hdg : decode cc pc = .ok (.iaload, 1)) (kk : TT p l e R s mi args below meth c cells slots Q g nL m (pc + 1) lv (.int (xs x.toNatClampNeg) :: rest)) : TT p l e R s mi args below meth c cells slots Q g nL m pc lv (.int x :: .ref b :: rest) := fun H locs ls hP hS hl => va_sld C.1 C.2.1 hX.1 hX.2.1 hX.2.2 hS hin hdg (kk H locs ls hP hS hl)
theorem kt_slen (C : Cx p s mi args meth c cc own nL rt g) (hX : va_X b L xs s s.heap ∧ b < s.heap.size ∧ ¬ gA g b) (hdg : decode cc pc = .ok (.arraylength, 1)) (kk : TT p l e R s mi args below meth c cells slots Q g nL m (pc + 1) lv (.int (nI L) :: rest)) : TT p l e R s mi args below meth c cells slots Q g nL m pc lv (.ref b :: rest) := fun H locs ls hP hS hl => va_slen C.1 C.2.1 hX.1 hX.2.1 hX.2.2 hS hdg (kk H locs ls hP hS hl)
theorem kt_lret (C : Cx p s mi #[Value.ref b] meth c cL_law RL 4 ret g) (hbase : g.2.2.2.1 = s.heap.size) (hcs : cells ≤ room_1.cells ∧ slots ≤ room_1.slots) (hdg : decode cL_law pc = .ok (.ireturn, 1)) : TT p l e room_1 s mi #[Value.ref b] below meth c cells slots (lw_Z below #[Value.ref b] s) g 4 m pc lv [.int 1] := fun H locs ls hP hS hl => by
  refine va_forget (fun q hq => ?_) ?_
  · have := hS.2.2 q hq
    rw [← hbase]
    exact this
  · refine W.widen (k := 600000) (n := 7302250) hcs.1 hcs.2 ?_
    exact lw_ret C.1 C.2.1 C.2.2.2.2.2.2.1 C.2.2.2.2.2.2.2 hdg
end TL
def V_L_law_18 (n : Nat) (xs : Nat → Int32) (L : Nat) (y3 : Int32) (m : MW) : Prop := match n with
  | 0 => False
  | n + 1 => ((((nI L) - 5) < y3 → True) ∧ (¬ ((nI L) - 5) < y3 → (vp_in y3 L ∧ ((((((xs (y3).toNatClampNeg) &&& 15) : Int32).toInt < 0 ∨ 11 < (((xs (y3).toNatClampNeg) &&& 15) : Int32).toInt) → (V_L_law_18 n xs L ((y3 + 5)) m)) ∧ ((((xs (y3).toNatClampNeg) &&& 15) = 0 → (vp_in (y3 + 1) L ∧ (V_X7_share  ((xs ((y3 + 1)).toNatClampNeg)) m (fun v2 m1 => (vp_in (y3 + 1) L ∧ (V_X8_share  ((xs ((y3 + 1)).toNatClampNeg)) m1 (fun v4 m3 => ((v2 = v4 → (V_L_law_18 n xs L ((y3 + 5)) m3)) ∧ (¬ v2 = v4 → False))))))))) ∧ ((((xs (y3).toNatClampNeg) &&& 15) = 1 → (vp_in (y3 + 1) L ∧ (vp_in (y3 + 2) L ∧ (vp_in (y3 + 3) L ∧ (vp_in (y3 + 4) L ∧ (V_X7_act  ((xs ((y3 + 1)).toNatClampNeg)) ((xs ((y3 + 2)).toNatClampNeg)) ((xs ((y3 + 3)).toNatClampNeg)) ((xs ((y3 + 4)).toNatClampNeg)) m (fun v6 m5 => (vp_in (y3 + 1) L ∧ (vp_in (y3 + 2) L ∧ (vp_in (y3 + 3) L ∧ (vp_in (y3 + 4) L ∧ (V_X8_act  ((xs ((y3 + 1)).toNatClampNeg)) ((xs ((y3 + 2)).toNatClampNeg)) ((xs ((y3 + 3)).toNatClampNeg)) ((xs ((y3 + 4)).toNatClampNeg)) m5 (fun v8 m7 => ((v6 = v8 → (V_L_law_18 n xs L ((y3 + 5)) m7)) ∧ (¬ v6 = v8 → False))))))))))))))) ∧ ((((xs (y3).toNatClampNeg) &&& 15) = 2 → (vp_in (y3 + 1) L ∧ (vp_in (y3 + 2) L ∧ (vp_in (y3 + 3) L ∧ (V_X7_fact  ((xs ((y3 + 1)).toNatClampNeg)) ((xs ((y3 + 2)).toNatClampNeg)) ((xs ((y3 + 3)).toNatClampNeg)) m (fun v10 m9 => (vp_in (y3 + 1) L ∧ (vp_in (y3 + 2) L ∧ (vp_in (y3 + 3) L ∧ (V_X8_fact  ((xs ((y3 + 1)).toNatClampNeg)) ((xs ((y3 + 2)).toNatClampNeg)) ((xs ((y3 + 3)).toNatClampNeg)) m9 (fun v12 m11 => ((v10 = v12 → (V_L_law_18 n xs L ((y3 + 5)) m11)) ∧ (¬ v10 = v12 → False))))))))))))) ∧ ((((xs (y3).toNatClampNeg) &&& 15) = 3 → (vp_in (y3 + 1) L ∧ (vp_in (y3 + 2) L ∧ (V_X7_end  ((xs ((y3 + 1)).toNatClampNeg)) ((xs ((y3 + 2)).toNatClampNeg)) m (fun v14 m13 => (vp_in (y3 + 1) L ∧ (vp_in (y3 + 2) L ∧ (V_X8_end  ((xs ((y3 + 1)).toNatClampNeg)) ((xs ((y3 + 2)).toNatClampNeg)) m13 (fun v16 m15 => ((v14 = v16 → (V_L_law_18 n xs L ((y3 + 5)) m15)) ∧ (¬ v14 = v16 → False))))))))))) ∧ ((((xs (y3).toNatClampNeg) &&& 15) = 4 → (vp_in (y3 + 1) L ∧ (V_X7_workers  ((xs ((y3 + 1)).toNatClampNeg)) m (fun v18 m17 => (vp_in (y3 + 1) L ∧ (V_X8_workers  ((xs ((y3 + 1)).toNatClampNeg)) m17 (fun v20 m19 => ((v18 = v20 → (V_L_law_18 n xs L ((y3 + 5)) m19)) ∧ (¬ v18 = v20 → False))))))))) ∧ ((((xs (y3).toNatClampNeg) &&& 15) = 5 → (vp_in (y3 + 1) L ∧ (vp_in (y3 + 2) L ∧ (V_X7_lose  ((xs ((y3 + 1)).toNatClampNeg)) ((xs ((y3 + 2)).toNatClampNeg)) m (fun v22 m21 => (vp_in (y3 + 1) L ∧ (vp_in (y3 + 2) L ∧ (V_X8_lose  ((xs ((y3 + 1)).toNatClampNeg)) ((xs ((y3 + 2)).toNatClampNeg)) m21 (fun v24 m23 => ((v22 = v24 → (V_L_law_18 n xs L ((y3 + 5)) m23)) ∧ (¬ v22 = v24 → False))))))))))) ∧ ((((xs (y3).toNatClampNeg) &&& 15) = 6 → (vp_in (y3 + 1) L ∧ (V_X7_seed  ((xs ((y3 + 1)).toNatClampNeg)) m (fun v26 m25 => (vp_in (y3 + 1) L ∧ (V_X8_seed  ((xs ((y3 + 1)).toNatClampNeg)) m25 (fun v28 m27 => ((v26 = v28 → (V_L_law_18 n xs L ((y3 + 5)) m27)) ∧ (¬ v26 = v28 → False))))))))) ∧ ((((xs (y3).toNatClampNeg) &&& 15) = 7 → (vp_in (y3 + 1) L ∧ (vp_in (y3 + 2) L ∧ (V_X7_set  ((xs ((y3 + 1)).toNatClampNeg)) ((xs ((y3 + 2)).toNatClampNeg)) m (fun v30 m29 => (vp_in (y3 + 1) L ∧ (vp_in (y3 + 2) L ∧ (V_X8_set  ((xs ((y3 + 1)).toNatClampNeg)) ((xs ((y3 + 2)).toNatClampNeg)) m29 (fun v32 m31 => ((v30 = v32 → (V_L_law_18 n xs L ((y3 + 5)) m31)) ∧ (¬ v30 = v32 → False))))))))))) ∧ ((((xs (y3).toNatClampNeg) &&& 15) = 8 → (vp_in (y3 + 1) L ∧ (V_X7_run  ((xs ((y3 + 1)).toNatClampNeg)) m (fun v34 m33 => (vp_in (y3 + 1) L ∧ (V_X8_run  ((xs ((y3 + 1)).toNatClampNeg)) m33 (fun v36 m35 => ((v34 = v36 → (V_L_law_18 n xs L ((y3 + 5)) m35)) ∧ (¬ v34 = v36 → False))))))))) ∧ ((((xs (y3).toNatClampNeg) &&& 15) = 9 → (vp_in (y3 + 1) L ∧ (V_X7_told  ((xs ((y3 + 1)).toNatClampNeg)) m (fun v38 m37 => (vp_in (y3 + 1) L ∧ (V_X8_told  ((xs ((y3 + 1)).toNatClampNeg)) m37 (fun v40 m39 => ((v38 = v40 → (V_L_law_18 n xs L ((y3 + 5)) m39)) ∧ (¬ v38 = v40 → False))))))))) ∧ ((((xs (y3).toNatClampNeg) &&& 15) = 10 → (vp_in (y3 + 1) L ∧ (V_X7_doer  ((xs ((y3 + 1)).toNatClampNeg)) m (fun v42 m41 => (vp_in (y3 + 1) L ∧ (V_X8_doer  ((xs ((y3 + 1)).toNatClampNeg)) m41 (fun v44 m43 => ((v42 = v44 → (V_L_law_18 n xs L ((y3 + 5)) m43)) ∧ (¬ v42 = v44 → False))))))))) ∧ (((xs (y3).toNatClampNeg) &&& 15) = 11 → (V_X7_clear   m (fun v46 m45 => (V_X8_clear   m45 (fun v48 m47 => ((v46 = v48 → (V_L_law_18 n xs L ((y3 + 5)) m47)) ∧ (¬ v46 = v48 → False))))))))))))))))))))))
set_option maxHeartbeats 4000000 in
set_option maxRecDepth 100000 in
theorem w_L_law_18 {p : Program} {l : Launch} {e : Env} {s : State} {mi : MethodId} {b : Nat} {below : List Frame} {meth : Method} {c : Code} {g : GG} {cells slots : Nat} {xs : Nat → Int32} {L : Nat} (C : Cx p s mi #[Value.ref b] meth c cL_law RL 4 ret g) (hX : va_X b L xs s s.heap ∧ b < s.heap.size ∧ ¬ gA g b) (hbase : g.2.2.2.1 = s.heap.size) (hcs : cells ≤ room_1.cells ∧ slots ≤ room_1.slots) (n : Nat) : ∀ {y3 : Int32} {m : MW}, V_L_law_18 n xs L y3 m → TT p l e room_1 s mi #[Value.ref b] below meth c cells slots (lw_Z below #[Value.ref b] s) g 4 m 18 [(0, .ref b), (1, .ref (gad g 0 0)), (2, .ref (gad g 22 0)), (3, .int (y3))] [] := by
  induction n with
  | zero => intros; rename_i hV; exact absurd hV (by simp [V_L_law_18])
  | succ n ih =>
    intro y3 m hV
    unfold V_L_law_18 at hV
    refine kt_iload_n C dL_law_18 rfl rfl ?_
    refine kt_aload_n C dL_law_19 rfl rfl ?_
    refine kt_slen C hX dL_law_20 ?_
    refine kt_iconst (v := 5) C dL_law_21 (by decide) ?_
    refine kt_isub C dL_law_22 ?_
    refine kt_icmp_gt C 448 dL_law_23 rfl (fun c23 => ?_) (fun c23 => ?_)
    · have hV := hV.1 c23
      refine kt_iconst (v := 1) C dL_law_448 (by decide) ?_
      exact kt_lret C hbase hcs dL_law_449
    · have hV := hV.2 c23
      refine kt_aload_n C dL_law_26 rfl rfl ?_
      refine kt_iload_n C dL_law_27 rfl rfl ?_
      refine kt_sld C hX hV.1 dL_law_28 ?_
      have hV := hV.2
      refine kt_bipush (v := 15) C dL_law_29 (by decide) ?_
      refine kt_iand C dL_law_31 ?_
      by_cases c32 : ((((xs (y3).toNatClampNeg) &&& 15) : Int32).toInt < 0 ∨ 11 < (((xs (y3).toNatClampNeg) &&& 15) : Int32).toInt)
      · have hV := hV.1 c32
        refine kt_tableOut C 442 dL_law_32 c32 rfl ?_
        refine kt_iinc (v := _ + 5) (lv' := [(3, .int _), (0, .ref _), (1, .ref _), (2, .ref _)]) C dL_law_442 rfl rfl (by decide) rfl ?_
        refine kt_goto C 18 dL_law_445 rfl ?_
        refine kt_pick (lv' := [(0, .ref _), (1, .ref _), (2, .ref _), (3, .int _)]) [1, 2, 3, 0] rfl ?_
        exact ih  hV
      · have hV := hV.2
        have c32a := fun h => c32 (Or.inl h)
        have c32b := fun h => c32 (Or.inr h)
        have c32c := sw_0_11 c32a c32b
        rcases c32c with c32d | c32d | c32d | c32d | c32d | c32d | c32d | c32d | c32d | c32d | c32d | c32d
        · have hV := hV.1 c32d
          refine kt_tableIn C 96 dL_law_32 c32a c32b (by rw [c32d]; rfl) rfl ?_
          refine kt_aload_n C dL_law_96 rfl rfl ?_
          refine kt_aload_n C dL_law_97 rfl rfl ?_
          refine kt_iload_n C dL_law_98 rfl rfl ?_
          refine kt_iconst (v := 1) C dL_law_99 (by decide) ?_
          refine kt_iadd C dL_law_100 ?_
          refine kt_sld C hX hV.1 dL_law_101 ?_
          have hV := hV.2
          refine kt_callV (n := 1) C (w_X7_share  hV) (by decide) rfl rfl wd_144 wd_145 wd_146 wd_2 wd_147 hd_X7_share rfl ⟨Nat.le_of_ble_eq_true rfl, Nat.le_of_ble_eq_true rfl⟩ hcs rfl (Nat.le_of_ble_eq_true rfl) dL_law_102 (fun r m1 hE => ?_)
          obtain ⟨v2, rfl, hV⟩ := hE
          refine kt_sti ?_
          refine kt_aload_n C dL_law_105 rfl rfl ?_
          refine kt_aload_n C dL_law_106 rfl rfl ?_
          refine kt_iload_n C dL_law_107 rfl rfl ?_
          refine kt_iconst (v := 1) C dL_law_108 (by decide) ?_
          refine kt_iadd C dL_law_109 ?_
          refine kt_sld C hX hV.1 dL_law_110 ?_
          have hV := hV.2
          refine kt_callV (n := 1) C (w_X8_share  hV) (by decide) rfl rfl wd_154 wd_155 wd_156 wd_5 wd_157 hd_X8_share rfl ⟨Nat.le_of_ble_eq_true rfl, Nat.le_of_ble_eq_true rfl⟩ hcs rfl (Nat.le_of_ble_eq_true rfl) dL_law_111 (fun r m3 hE => ?_)
          obtain ⟨v4, rfl, hV⟩ := hE
          refine kt_sti ?_
          refine kt_icmp_eq C 442 dL_law_114 rfl (fun c114 => ?_) (fun c114 => ?_)
          · have hV := hV.1 c114
            refine kt_iinc (v := _ + 5) (lv' := [(3, .int _), (0, .ref _), (1, .ref _), (2, .ref _)]) C dL_law_442 rfl rfl (by decide) rfl ?_
            refine kt_goto C 18 dL_law_445 rfl ?_
            refine kt_pick (lv' := [(0, .ref _), (1, .ref _), (2, .ref _), (3, .int _)]) [1, 2, 3, 0] rfl ?_
            exact ih  hV
          · have hV := hV.2 c114
            refine kt_iconst (v := 0) C dL_law_117 (by decide) ?_
            exact hV.elim
        · have hV := hV.2.1 c32d
          refine kt_tableIn C 119 dL_law_32 c32a c32b (by rw [c32d]; rfl) rfl ?_
          refine kt_aload_n C dL_law_119 rfl rfl ?_
          refine kt_aload_n C dL_law_120 rfl rfl ?_
          refine kt_iload_n C dL_law_121 rfl rfl ?_
          refine kt_iconst (v := 1) C dL_law_122 (by decide) ?_
          refine kt_iadd C dL_law_123 ?_
          refine kt_sld C hX hV.1 dL_law_124 ?_
          have hV := hV.2
          refine kt_aload_n C dL_law_125 rfl rfl ?_
          refine kt_iload_n C dL_law_126 rfl rfl ?_
          refine kt_iconst (v := 2) C dL_law_127 (by decide) ?_
          refine kt_iadd C dL_law_128 ?_
          refine kt_sld C hX hV.1 dL_law_129 ?_
          have hV := hV.2
          refine kt_aload_n C dL_law_130 rfl rfl ?_
          refine kt_iload_n C dL_law_131 rfl rfl ?_
          refine kt_iconst (v := 3) C dL_law_132 (by decide) ?_
          refine kt_iadd C dL_law_133 ?_
          refine kt_sld C hX hV.1 dL_law_134 ?_
          have hV := hV.2
          refine kt_aload_n C dL_law_135 rfl rfl ?_
          refine kt_iload_n C dL_law_136 rfl rfl ?_
          refine kt_iconst (v := 4) C dL_law_137 (by decide) ?_
          refine kt_iadd C dL_law_138 ?_
          refine kt_sld C hX hV.1 dL_law_139 ?_
          have hV := hV.2
          refine kt_callV (n := 4) C (w_X7_act  hV) (by decide) rfl rfl wd_164 wd_165 wd_166 wd_2 wd_167 hd_X7_act rfl ⟨Nat.le_of_ble_eq_true rfl, Nat.le_of_ble_eq_true rfl⟩ hcs rfl (Nat.le_of_ble_eq_true rfl) dL_law_140 (fun r m5 hE => ?_)
          obtain ⟨v6, rfl, hV⟩ := hE
          refine kt_sti ?_
          refine kt_aload_n C dL_law_143 rfl rfl ?_
          refine kt_aload_n C dL_law_144 rfl rfl ?_
          refine kt_iload_n C dL_law_145 rfl rfl ?_
          refine kt_iconst (v := 1) C dL_law_146 (by decide) ?_
          refine kt_iadd C dL_law_147 ?_
          refine kt_sld C hX hV.1 dL_law_148 ?_
          have hV := hV.2
          refine kt_aload_n C dL_law_149 rfl rfl ?_
          refine kt_iload_n C dL_law_150 rfl rfl ?_
          refine kt_iconst (v := 2) C dL_law_151 (by decide) ?_
          refine kt_iadd C dL_law_152 ?_
          refine kt_sld C hX hV.1 dL_law_153 ?_
          have hV := hV.2
          refine kt_aload_n C dL_law_154 rfl rfl ?_
          refine kt_iload_n C dL_law_155 rfl rfl ?_
          refine kt_iconst (v := 3) C dL_law_156 (by decide) ?_
          refine kt_iadd C dL_law_157 ?_
          refine kt_sld C hX hV.1 dL_law_158 ?_
          have hV := hV.2
          refine kt_aload_n C dL_law_159 rfl rfl ?_
          refine kt_iload_n C dL_law_160 rfl rfl ?_
          refine kt_iconst (v := 4) C dL_law_161 (by decide) ?_
          refine kt_iadd C dL_law_162 ?_
          refine kt_sld C hX hV.1 dL_law_163 ?_
          have hV := hV.2
          refine kt_callV (n := 4) C (w_X8_act  hV) (by decide) rfl rfl wd_183 wd_184 wd_185 wd_5 wd_186 hd_X8_act rfl ⟨Nat.le_of_ble_eq_true rfl, Nat.le_of_ble_eq_true rfl⟩ hcs rfl (Nat.le_of_ble_eq_true rfl) dL_law_164 (fun r m7 hE => ?_)
          obtain ⟨v8, rfl, hV⟩ := hE
          refine kt_sti ?_
          refine kt_icmp_eq C 442 dL_law_167 rfl (fun c167 => ?_) (fun c167 => ?_)
          · have hV := hV.1 c167
            refine kt_iinc (v := _ + 5) (lv' := [(3, .int _), (0, .ref _), (1, .ref _), (2, .ref _)]) C dL_law_442 rfl rfl (by decide) rfl ?_
            refine kt_goto C 18 dL_law_445 rfl ?_
            refine kt_pick (lv' := [(0, .ref _), (1, .ref _), (2, .ref _), (3, .int _)]) [1, 2, 3, 0] rfl ?_
            exact ih  hV
          · have hV := hV.2 c167
            refine kt_iconst (v := 0) C dL_law_170 (by decide) ?_
            exact hV.elim
        · have hV := hV.2.2.1 c32d
          refine kt_tableIn C 172 dL_law_32 c32a c32b (by rw [c32d]; rfl) rfl ?_
          refine kt_aload_n C dL_law_172 rfl rfl ?_
          refine kt_aload_n C dL_law_173 rfl rfl ?_
          refine kt_iload_n C dL_law_174 rfl rfl ?_
          refine kt_iconst (v := 1) C dL_law_175 (by decide) ?_
          refine kt_iadd C dL_law_176 ?_
          refine kt_sld C hX hV.1 dL_law_177 ?_
          have hV := hV.2
          refine kt_aload_n C dL_law_178 rfl rfl ?_
          refine kt_iload_n C dL_law_179 rfl rfl ?_
          refine kt_iconst (v := 2) C dL_law_180 (by decide) ?_
          refine kt_iadd C dL_law_181 ?_
          refine kt_sld C hX hV.1 dL_law_182 ?_
          have hV := hV.2
          refine kt_aload_n C dL_law_183 rfl rfl ?_
          refine kt_iload_n C dL_law_184 rfl rfl ?_
          refine kt_iconst (v := 3) C dL_law_185 (by decide) ?_
          refine kt_iadd C dL_law_186 ?_
          refine kt_sld C hX hV.1 dL_law_187 ?_
          have hV := hV.2
          refine kt_callV (n := 3) C (w_X7_fact  hV) (by decide) rfl rfl wd_197 wd_198 wd_199 wd_2 wd_200 hd_X7_fact rfl ⟨Nat.le_of_ble_eq_true rfl, Nat.le_of_ble_eq_true rfl⟩ hcs rfl (Nat.le_of_ble_eq_true rfl) dL_law_188 (fun r m9 hE => ?_)
          obtain ⟨v10, rfl, hV⟩ := hE
          refine kt_sti ?_
          refine kt_aload_n C dL_law_191 rfl rfl ?_
          refine kt_aload_n C dL_law_192 rfl rfl ?_
          refine kt_iload_n C dL_law_193 rfl rfl ?_
          refine kt_iconst (v := 1) C dL_law_194 (by decide) ?_
          refine kt_iadd C dL_law_195 ?_
          refine kt_sld C hX hV.1 dL_law_196 ?_
          have hV := hV.2
          refine kt_aload_n C dL_law_197 rfl rfl ?_
          refine kt_iload_n C dL_law_198 rfl rfl ?_
          refine kt_iconst (v := 2) C dL_law_199 (by decide) ?_
          refine kt_iadd C dL_law_200 ?_
          refine kt_sld C hX hV.1 dL_law_201 ?_
          have hV := hV.2
          refine kt_aload_n C dL_law_202 rfl rfl ?_
          refine kt_iload_n C dL_law_203 rfl rfl ?_
          refine kt_iconst (v := 3) C dL_law_204 (by decide) ?_
          refine kt_iadd C dL_law_205 ?_
          refine kt_sld C hX hV.1 dL_law_206 ?_
          have hV := hV.2
          refine kt_callV (n := 3) C (w_X8_fact  hV) (by decide) rfl rfl wd_205 wd_206 wd_207 wd_5 wd_208 hd_X8_fact rfl ⟨Nat.le_of_ble_eq_true rfl, Nat.le_of_ble_eq_true rfl⟩ hcs rfl (Nat.le_of_ble_eq_true rfl) dL_law_207 (fun r m11 hE => ?_)
          obtain ⟨v12, rfl, hV⟩ := hE
          refine kt_sti ?_
          refine kt_icmp_eq C 442 dL_law_210 rfl (fun c210 => ?_) (fun c210 => ?_)
          · have hV := hV.1 c210
            refine kt_iinc (v := _ + 5) (lv' := [(3, .int _), (0, .ref _), (1, .ref _), (2, .ref _)]) C dL_law_442 rfl rfl (by decide) rfl ?_
            refine kt_goto C 18 dL_law_445 rfl ?_
            refine kt_pick (lv' := [(0, .ref _), (1, .ref _), (2, .ref _), (3, .int _)]) [1, 2, 3, 0] rfl ?_
            exact ih  hV
          · have hV := hV.2 c210
            refine kt_iconst (v := 0) C dL_law_213 (by decide) ?_
            exact hV.elim
        · have hV := hV.2.2.2.1 c32d
          refine kt_tableIn C 215 dL_law_32 c32a c32b (by rw [c32d]; rfl) rfl ?_
          refine kt_aload_n C dL_law_215 rfl rfl ?_
          refine kt_aload_n C dL_law_216 rfl rfl ?_
          refine kt_iload_n C dL_law_217 rfl rfl ?_
          refine kt_iconst (v := 1) C dL_law_218 (by decide) ?_
          refine kt_iadd C dL_law_219 ?_
          refine kt_sld C hX hV.1 dL_law_220 ?_
          have hV := hV.2
          refine kt_aload_n C dL_law_221 rfl rfl ?_
          refine kt_iload_n C dL_law_222 rfl rfl ?_
          refine kt_iconst (v := 2) C dL_law_223 (by decide) ?_
          refine kt_iadd C dL_law_224 ?_
          refine kt_sld C hX hV.1 dL_law_225 ?_
          have hV := hV.2
          refine kt_callV (n := 2) C (w_X7_end  hV) (by decide) rfl rfl wd_209 wd_210 wd_211 wd_2 wd_212 hd_X7_end rfl ⟨Nat.le_of_ble_eq_true rfl, Nat.le_of_ble_eq_true rfl⟩ hcs rfl (Nat.le_of_ble_eq_true rfl) dL_law_226 (fun r m13 hE => ?_)
          obtain ⟨v14, rfl, hV⟩ := hE
          refine kt_sti ?_
          refine kt_aload_n C dL_law_229 rfl rfl ?_
          refine kt_aload_n C dL_law_230 rfl rfl ?_
          refine kt_iload_n C dL_law_231 rfl rfl ?_
          refine kt_iconst (v := 1) C dL_law_232 (by decide) ?_
          refine kt_iadd C dL_law_233 ?_
          refine kt_sld C hX hV.1 dL_law_234 ?_
          have hV := hV.2
          refine kt_aload_n C dL_law_235 rfl rfl ?_
          refine kt_iload_n C dL_law_236 rfl rfl ?_
          refine kt_iconst (v := 2) C dL_law_237 (by decide) ?_
          refine kt_iadd C dL_law_238 ?_
          refine kt_sld C hX hV.1 dL_law_239 ?_
          have hV := hV.2
          refine kt_callV (n := 2) C (w_X8_end  hV) (by decide) rfl rfl wd_217 wd_218 wd_219 wd_5 wd_220 hd_X8_end rfl ⟨Nat.le_of_ble_eq_true rfl, Nat.le_of_ble_eq_true rfl⟩ hcs rfl (Nat.le_of_ble_eq_true rfl) dL_law_240 (fun r m15 hE => ?_)
          obtain ⟨v16, rfl, hV⟩ := hE
          refine kt_sti ?_
          refine kt_icmp_eq C 442 dL_law_243 rfl (fun c243 => ?_) (fun c243 => ?_)
          · have hV := hV.1 c243
            refine kt_iinc (v := _ + 5) (lv' := [(3, .int _), (0, .ref _), (1, .ref _), (2, .ref _)]) C dL_law_442 rfl rfl (by decide) rfl ?_
            refine kt_goto C 18 dL_law_445 rfl ?_
            refine kt_pick (lv' := [(0, .ref _), (1, .ref _), (2, .ref _), (3, .int _)]) [1, 2, 3, 0] rfl ?_
            exact ih  hV
          · have hV := hV.2 c243
            refine kt_iconst (v := 0) C dL_law_246 (by decide) ?_
            exact hV.elim
        · have hV := hV.2.2.2.2.1 c32d
          refine kt_tableIn C 248 dL_law_32 c32a c32b (by rw [c32d]; rfl) rfl ?_
          refine kt_aload_n C dL_law_248 rfl rfl ?_
          refine kt_aload_n C dL_law_249 rfl rfl ?_
          refine kt_iload_n C dL_law_250 rfl rfl ?_
          refine kt_iconst (v := 1) C dL_law_251 (by decide) ?_
          refine kt_iadd C dL_law_252 ?_
          refine kt_sld C hX hV.1 dL_law_253 ?_
          have hV := hV.2
          refine kt_callV (n := 1) C (w_X7_workers  hV) (by decide) rfl rfl wd_221 wd_222 wd_223 wd_2 wd_224 hd_X7_workers rfl ⟨Nat.le_of_ble_eq_true rfl, Nat.le_of_ble_eq_true rfl⟩ hcs rfl (Nat.le_of_ble_eq_true rfl) dL_law_254 (fun r m17 hE => ?_)
          obtain ⟨v18, rfl, hV⟩ := hE
          refine kt_sti ?_
          refine kt_aload_n C dL_law_257 rfl rfl ?_
          refine kt_aload_n C dL_law_258 rfl rfl ?_
          refine kt_iload_n C dL_law_259 rfl rfl ?_
          refine kt_iconst (v := 1) C dL_law_260 (by decide) ?_
          refine kt_iadd C dL_law_261 ?_
          refine kt_sld C hX hV.1 dL_law_262 ?_
          have hV := hV.2
          refine kt_callV (n := 1) C (w_X8_workers  hV) (by decide) rfl rfl wd_227 wd_228 wd_229 wd_5 wd_230 hd_X8_workers rfl ⟨Nat.le_of_ble_eq_true rfl, Nat.le_of_ble_eq_true rfl⟩ hcs rfl (Nat.le_of_ble_eq_true rfl) dL_law_263 (fun r m19 hE => ?_)
          obtain ⟨v20, rfl, hV⟩ := hE
          refine kt_sti ?_
          refine kt_icmp_eq C 442 dL_law_266 rfl (fun c266 => ?_) (fun c266 => ?_)
          · have hV := hV.1 c266
            refine kt_iinc (v := _ + 5) (lv' := [(3, .int _), (0, .ref _), (1, .ref _), (2, .ref _)]) C dL_law_442 rfl rfl (by decide) rfl ?_
            refine kt_goto C 18 dL_law_445 rfl ?_
            refine kt_pick (lv' := [(0, .ref _), (1, .ref _), (2, .ref _), (3, .int _)]) [1, 2, 3, 0] rfl ?_
            exact ih  hV
          · have hV := hV.2 c266
            refine kt_iconst (v := 0) C dL_law_269 (by decide) ?_
            exact hV.elim
        · have hV := hV.2.2.2.2.2.1 c32d
          refine kt_tableIn C 271 dL_law_32 c32a c32b (by rw [c32d]; rfl) rfl ?_
          refine kt_aload_n C dL_law_271 rfl rfl ?_
          refine kt_aload_n C dL_law_272 rfl rfl ?_
          refine kt_iload_n C dL_law_273 rfl rfl ?_
          refine kt_iconst (v := 1) C dL_law_274 (by decide) ?_
          refine kt_iadd C dL_law_275 ?_
          refine kt_sld C hX hV.1 dL_law_276 ?_
          have hV := hV.2
          refine kt_aload_n C dL_law_277 rfl rfl ?_
          refine kt_iload_n C dL_law_278 rfl rfl ?_
          refine kt_iconst (v := 2) C dL_law_279 (by decide) ?_
          refine kt_iadd C dL_law_280 ?_
          refine kt_sld C hX hV.1 dL_law_281 ?_
          have hV := hV.2
          refine kt_callV (n := 2) C (w_X7_lose  hV) (by decide) rfl rfl wd_235 wd_236 wd_237 wd_2 wd_238 hd_X7_lose rfl ⟨Nat.le_of_ble_eq_true rfl, Nat.le_of_ble_eq_true rfl⟩ hcs rfl (Nat.le_of_ble_eq_true rfl) dL_law_282 (fun r m21 hE => ?_)
          obtain ⟨v22, rfl, hV⟩ := hE
          refine kt_sti ?_
          refine kt_aload_n C dL_law_285 rfl rfl ?_
          refine kt_aload_n C dL_law_286 rfl rfl ?_
          refine kt_iload_n C dL_law_287 rfl rfl ?_
          refine kt_iconst (v := 1) C dL_law_288 (by decide) ?_
          refine kt_iadd C dL_law_289 ?_
          refine kt_sld C hX hV.1 dL_law_290 ?_
          have hV := hV.2
          refine kt_aload_n C dL_law_291 rfl rfl ?_
          refine kt_iload_n C dL_law_292 rfl rfl ?_
          refine kt_iconst (v := 2) C dL_law_293 (by decide) ?_
          refine kt_iadd C dL_law_294 ?_
          refine kt_sld C hX hV.1 dL_law_295 ?_
          have hV := hV.2
          refine kt_callV (n := 2) C (w_X8_lose  hV) (by decide) rfl rfl wd_246 wd_247 wd_248 wd_5 wd_249 hd_X8_lose rfl ⟨Nat.le_of_ble_eq_true rfl, Nat.le_of_ble_eq_true rfl⟩ hcs rfl (Nat.le_of_ble_eq_true rfl) dL_law_296 (fun r m23 hE => ?_)
          obtain ⟨v24, rfl, hV⟩ := hE
          refine kt_sti ?_
          refine kt_icmp_eq C 442 dL_law_299 rfl (fun c299 => ?_) (fun c299 => ?_)
          · have hV := hV.1 c299
            refine kt_iinc (v := _ + 5) (lv' := [(3, .int _), (0, .ref _), (1, .ref _), (2, .ref _)]) C dL_law_442 rfl rfl (by decide) rfl ?_
            refine kt_goto C 18 dL_law_445 rfl ?_
            refine kt_pick (lv' := [(0, .ref _), (1, .ref _), (2, .ref _), (3, .int _)]) [1, 2, 3, 0] rfl ?_
            exact ih  hV
          · have hV := hV.2 c299
            refine kt_iconst (v := 0) C dL_law_302 (by decide) ?_
            exact hV.elim
        · have hV := hV.2.2.2.2.2.2.1 c32d
          refine kt_tableIn C 304 dL_law_32 c32a c32b (by rw [c32d]; rfl) rfl ?_
          refine kt_aload_n C dL_law_304 rfl rfl ?_
          refine kt_aload_n C dL_law_305 rfl rfl ?_
          refine kt_iload_n C dL_law_306 rfl rfl ?_
          refine kt_iconst (v := 1) C dL_law_307 (by decide) ?_
          refine kt_iadd C dL_law_308 ?_
          refine kt_sld C hX hV.1 dL_law_309 ?_
          have hV := hV.2
          refine kt_callV (n := 1) C (w_X7_seed  hV) (by decide) rfl rfl wd_251 wd_252 wd_253 wd_2 wd_254 hd_X7_seed rfl ⟨Nat.le_of_ble_eq_true rfl, Nat.le_of_ble_eq_true rfl⟩ hcs rfl (Nat.le_of_ble_eq_true rfl) dL_law_310 (fun r m25 hE => ?_)
          obtain ⟨v26, rfl, hV⟩ := hE
          refine kt_sti ?_
          refine kt_aload_n C dL_law_313 rfl rfl ?_
          refine kt_aload_n C dL_law_314 rfl rfl ?_
          refine kt_iload_n C dL_law_315 rfl rfl ?_
          refine kt_iconst (v := 1) C dL_law_316 (by decide) ?_
          refine kt_iadd C dL_law_317 ?_
          refine kt_sld C hX hV.1 dL_law_318 ?_
          have hV := hV.2
          refine kt_callV (n := 1) C (w_X8_seed  hV) (by decide) rfl rfl wd_256 wd_257 wd_258 wd_5 wd_259 hd_X8_seed rfl ⟨Nat.le_of_ble_eq_true rfl, Nat.le_of_ble_eq_true rfl⟩ hcs rfl (Nat.le_of_ble_eq_true rfl) dL_law_319 (fun r m27 hE => ?_)
          obtain ⟨v28, rfl, hV⟩ := hE
          refine kt_sti ?_
          refine kt_icmp_eq C 442 dL_law_322 rfl (fun c322 => ?_) (fun c322 => ?_)
          · have hV := hV.1 c322
            refine kt_iinc (v := _ + 5) (lv' := [(3, .int _), (0, .ref _), (1, .ref _), (2, .ref _)]) C dL_law_442 rfl rfl (by decide) rfl ?_
            refine kt_goto C 18 dL_law_445 rfl ?_
            refine kt_pick (lv' := [(0, .ref _), (1, .ref _), (2, .ref _), (3, .int _)]) [1, 2, 3, 0] rfl ?_
            exact ih  hV
          · have hV := hV.2 c322
            refine kt_iconst (v := 0) C dL_law_325 (by decide) ?_
            exact hV.elim
        · have hV := hV.2.2.2.2.2.2.2.1 c32d
          refine kt_tableIn C 327 dL_law_32 c32a c32b (by rw [c32d]; rfl) rfl ?_
          refine kt_aload_n C dL_law_327 rfl rfl ?_
          refine kt_aload_n C dL_law_328 rfl rfl ?_
          refine kt_iload_n C dL_law_329 rfl rfl ?_
          refine kt_iconst (v := 1) C dL_law_330 (by decide) ?_
          refine kt_iadd C dL_law_331 ?_
          refine kt_sld C hX hV.1 dL_law_332 ?_
          have hV := hV.2
          refine kt_aload_n C dL_law_333 rfl rfl ?_
          refine kt_iload_n C dL_law_334 rfl rfl ?_
          refine kt_iconst (v := 2) C dL_law_335 (by decide) ?_
          refine kt_iadd C dL_law_336 ?_
          refine kt_sld C hX hV.1 dL_law_337 ?_
          have hV := hV.2
          refine kt_callV (n := 2) C (w_X7_set  hV) (by decide) rfl rfl wd_261 wd_262 wd_263 wd_2 wd_264 hd_X7_set rfl ⟨Nat.le_of_ble_eq_true rfl, Nat.le_of_ble_eq_true rfl⟩ hcs rfl (Nat.le_of_ble_eq_true rfl) dL_law_338 (fun r m29 hE => ?_)
          obtain ⟨v30, rfl, hV⟩ := hE
          refine kt_sti ?_
          refine kt_aload_n C dL_law_341 rfl rfl ?_
          refine kt_aload_n C dL_law_342 rfl rfl ?_
          refine kt_iload_n C dL_law_343 rfl rfl ?_
          refine kt_iconst (v := 1) C dL_law_344 (by decide) ?_
          refine kt_iadd C dL_law_345 ?_
          refine kt_sld C hX hV.1 dL_law_346 ?_
          have hV := hV.2
          refine kt_aload_n C dL_law_347 rfl rfl ?_
          refine kt_iload_n C dL_law_348 rfl rfl ?_
          refine kt_iconst (v := 2) C dL_law_349 (by decide) ?_
          refine kt_iadd C dL_law_350 ?_
          refine kt_sld C hX hV.1 dL_law_351 ?_
          have hV := hV.2
          refine kt_callV (n := 2) C (w_X8_set  hV) (by decide) rfl rfl wd_265 wd_266 wd_267 wd_5 wd_268 hd_X8_set rfl ⟨Nat.le_of_ble_eq_true rfl, Nat.le_of_ble_eq_true rfl⟩ hcs rfl (Nat.le_of_ble_eq_true rfl) dL_law_352 (fun r m31 hE => ?_)
          obtain ⟨v32, rfl, hV⟩ := hE
          refine kt_sti ?_
          refine kt_icmp_eq C 442 dL_law_355 rfl (fun c355 => ?_) (fun c355 => ?_)
          · have hV := hV.1 c355
            refine kt_iinc (v := _ + 5) (lv' := [(3, .int _), (0, .ref _), (1, .ref _), (2, .ref _)]) C dL_law_442 rfl rfl (by decide) rfl ?_
            refine kt_goto C 18 dL_law_445 rfl ?_
            refine kt_pick (lv' := [(0, .ref _), (1, .ref _), (2, .ref _), (3, .int _)]) [1, 2, 3, 0] rfl ?_
            exact ih  hV
          · have hV := hV.2 c355
            refine kt_iconst (v := 0) C dL_law_358 (by decide) ?_
            exact hV.elim
        · have hV := hV.2.2.2.2.2.2.2.2.1 c32d
          refine kt_tableIn C 360 dL_law_32 c32a c32b (by rw [c32d]; rfl) rfl ?_
          refine kt_aload_n C dL_law_360 rfl rfl ?_
          refine kt_aload_n C dL_law_361 rfl rfl ?_
          refine kt_iload_n C dL_law_362 rfl rfl ?_
          refine kt_iconst (v := 1) C dL_law_363 (by decide) ?_
          refine kt_iadd C dL_law_364 ?_
          refine kt_sld C hX hV.1 dL_law_365 ?_
          have hV := hV.2
          refine kt_callV (n := 1) C (w_X7_run  hV) (by decide) rfl rfl wd_269 wd_270 wd_271 wd_2 wd_272 hd_X7_run rfl ⟨Nat.le_of_ble_eq_true rfl, Nat.le_of_ble_eq_true rfl⟩ hcs rfl (Nat.le_of_ble_eq_true rfl) dL_law_366 (fun r m33 hE => ?_)
          obtain ⟨v34, rfl, hV⟩ := hE
          refine kt_sti ?_
          refine kt_aload_n C dL_law_369 rfl rfl ?_
          refine kt_aload_n C dL_law_370 rfl rfl ?_
          refine kt_iload_n C dL_law_371 rfl rfl ?_
          refine kt_iconst (v := 1) C dL_law_372 (by decide) ?_
          refine kt_iadd C dL_law_373 ?_
          refine kt_sld C hX hV.1 dL_law_374 ?_
          have hV := hV.2
          refine kt_callV (n := 1) C (w_X8_run  hV) (by decide) rfl rfl wd_442 wd_443 wd_444 wd_5 wd_445 hd_X8_run rfl ⟨Nat.le_of_ble_eq_true rfl, Nat.le_of_ble_eq_true rfl⟩ hcs rfl (Nat.le_of_ble_eq_true rfl) dL_law_375 (fun r m35 hE => ?_)
          obtain ⟨v36, rfl, hV⟩ := hE
          refine kt_sti ?_
          refine kt_icmp_eq C 442 dL_law_378 rfl (fun c378 => ?_) (fun c378 => ?_)
          · have hV := hV.1 c378
            refine kt_iinc (v := _ + 5) (lv' := [(3, .int _), (0, .ref _), (1, .ref _), (2, .ref _)]) C dL_law_442 rfl rfl (by decide) rfl ?_
            refine kt_goto C 18 dL_law_445 rfl ?_
            refine kt_pick (lv' := [(0, .ref _), (1, .ref _), (2, .ref _), (3, .int _)]) [1, 2, 3, 0] rfl ?_
            exact ih  hV
          · have hV := hV.2 c378
            refine kt_iconst (v := 0) C dL_law_381 (by decide) ?_
            exact hV.elim
        · have hV := hV.2.2.2.2.2.2.2.2.2.1 c32d
          refine kt_tableIn C 383 dL_law_32 c32a c32b (by rw [c32d]; rfl) rfl ?_
          refine kt_aload_n C dL_law_383 rfl rfl ?_
          refine kt_aload_n C dL_law_384 rfl rfl ?_
          refine kt_iload_n C dL_law_385 rfl rfl ?_
          refine kt_iconst (v := 1) C dL_law_386 (by decide) ?_
          refine kt_iadd C dL_law_387 ?_
          refine kt_sld C hX hV.1 dL_law_388 ?_
          have hV := hV.2
          refine kt_callV (n := 1) C (w_X7_told  hV) (by decide) rfl rfl wd_507 wd_508 wd_509 wd_2 wd_510 hd_X7_told rfl ⟨Nat.le_of_ble_eq_true rfl, Nat.le_of_ble_eq_true rfl⟩ hcs rfl (Nat.le_of_ble_eq_true rfl) dL_law_389 (fun r m37 hE => ?_)
          obtain ⟨v38, rfl, hV⟩ := hE
          refine kt_sti ?_
          refine kt_aload_n C dL_law_392 rfl rfl ?_
          refine kt_aload_n C dL_law_393 rfl rfl ?_
          refine kt_iload_n C dL_law_394 rfl rfl ?_
          refine kt_iconst (v := 1) C dL_law_395 (by decide) ?_
          refine kt_iadd C dL_law_396 ?_
          refine kt_sld C hX hV.1 dL_law_397 ?_
          have hV := hV.2
          refine kt_callV (n := 1) C (w_X8_told  hV) (by decide) rfl rfl wd_512 wd_513 wd_514 wd_5 wd_515 hd_X8_told rfl ⟨Nat.le_of_ble_eq_true rfl, Nat.le_of_ble_eq_true rfl⟩ hcs rfl (Nat.le_of_ble_eq_true rfl) dL_law_398 (fun r m39 hE => ?_)
          obtain ⟨v40, rfl, hV⟩ := hE
          refine kt_sti ?_
          refine kt_icmp_eq C 442 dL_law_401 rfl (fun c401 => ?_) (fun c401 => ?_)
          · have hV := hV.1 c401
            refine kt_iinc (v := _ + 5) (lv' := [(3, .int _), (0, .ref _), (1, .ref _), (2, .ref _)]) C dL_law_442 rfl rfl (by decide) rfl ?_
            refine kt_goto C 18 dL_law_445 rfl ?_
            refine kt_pick (lv' := [(0, .ref _), (1, .ref _), (2, .ref _), (3, .int _)]) [1, 2, 3, 0] rfl ?_
            exact ih  hV
          · have hV := hV.2 c401
            refine kt_iconst (v := 0) C dL_law_404 (by decide) ?_
            exact hV.elim
        · have hV := hV.2.2.2.2.2.2.2.2.2.2.1 c32d
          refine kt_tableIn C 406 dL_law_32 c32a c32b (by rw [c32d]; rfl) rfl ?_
          refine kt_aload_n C dL_law_406 rfl rfl ?_
          refine kt_aload_n C dL_law_407 rfl rfl ?_
          refine kt_iload_n C dL_law_408 rfl rfl ?_
          refine kt_iconst (v := 1) C dL_law_409 (by decide) ?_
          refine kt_iadd C dL_law_410 ?_
          refine kt_sld C hX hV.1 dL_law_411 ?_
          have hV := hV.2
          refine kt_callV (n := 1) C (w_X7_doer  hV) (by decide) rfl rfl wd_516 wd_517 wd_518 wd_2 wd_519 hd_X7_doer rfl ⟨Nat.le_of_ble_eq_true rfl, Nat.le_of_ble_eq_true rfl⟩ hcs rfl (Nat.le_of_ble_eq_true rfl) dL_law_412 (fun r m41 hE => ?_)
          obtain ⟨v42, rfl, hV⟩ := hE
          refine kt_sti ?_
          refine kt_aload_n C dL_law_415 rfl rfl ?_
          refine kt_aload_n C dL_law_416 rfl rfl ?_
          refine kt_iload_n C dL_law_417 rfl rfl ?_
          refine kt_iconst (v := 1) C dL_law_418 (by decide) ?_
          refine kt_iadd C dL_law_419 ?_
          refine kt_sld C hX hV.1 dL_law_420 ?_
          have hV := hV.2
          refine kt_callV (n := 1) C (w_X8_doer  hV) (by decide) rfl rfl wd_520 wd_521 wd_522 wd_5 wd_523 hd_X8_doer rfl ⟨Nat.le_of_ble_eq_true rfl, Nat.le_of_ble_eq_true rfl⟩ hcs rfl (Nat.le_of_ble_eq_true rfl) dL_law_421 (fun r m43 hE => ?_)
          obtain ⟨v44, rfl, hV⟩ := hE
          refine kt_sti ?_
          refine kt_icmp_eq C 442 dL_law_424 rfl (fun c424 => ?_) (fun c424 => ?_)
          · have hV := hV.1 c424
            refine kt_iinc (v := _ + 5) (lv' := [(3, .int _), (0, .ref _), (1, .ref _), (2, .ref _)]) C dL_law_442 rfl rfl (by decide) rfl ?_
            refine kt_goto C 18 dL_law_445 rfl ?_
            refine kt_pick (lv' := [(0, .ref _), (1, .ref _), (2, .ref _), (3, .int _)]) [1, 2, 3, 0] rfl ?_
            exact ih  hV
          · have hV := hV.2 c424
            refine kt_iconst (v := 0) C dL_law_427 (by decide) ?_
            exact hV.elim
        · have hV := hV.2.2.2.2.2.2.2.2.2.2.2 c32d
          refine kt_tableIn C 429 dL_law_32 c32a c32b (by rw [c32d]; rfl) rfl ?_
          refine kt_aload_n C dL_law_429 rfl rfl ?_
          refine kt_callV (n := 0) C (w_X7_clear  hV) (by decide) rfl rfl wd_524 wd_525 wd_526 wd_2 wd_527 hd_X7_clear rfl ⟨Nat.le_of_ble_eq_true rfl, Nat.le_of_ble_eq_true rfl⟩ hcs rfl (Nat.le_of_ble_eq_true rfl) dL_law_430 (fun r m45 hE => ?_)
          obtain ⟨v46, rfl, hV⟩ := hE
          refine kt_sti ?_
          refine kt_aload_n C dL_law_433 rfl rfl ?_
          refine kt_callV (n := 0) C (w_X8_clear  hV) (by decide) rfl rfl wd_532 wd_533 wd_534 wd_5 wd_535 hd_X8_clear rfl ⟨Nat.le_of_ble_eq_true rfl, Nat.le_of_ble_eq_true rfl⟩ hcs rfl (Nat.le_of_ble_eq_true rfl) dL_law_434 (fun r m47 hE => ?_)
          obtain ⟨v48, rfl, hV⟩ := hE
          refine kt_sti ?_
          refine kt_icmp_eq C 442 dL_law_437 rfl (fun c437 => ?_) (fun c437 => ?_)
          · have hV := hV.1 c437
            refine kt_iinc (v := _ + 5) (lv' := [(3, .int _), (0, .ref _), (1, .ref _), (2, .ref _)]) C dL_law_442 rfl rfl (by decide) rfl ?_
            refine kt_goto C 18 dL_law_445 rfl ?_
            refine kt_pick (lv' := [(0, .ref _), (1, .ref _), (2, .ref _), (3, .int _)]) [1, 2, 3, 0] rfl ?_
            exact ih  hV
          · have hV := hV.2 c437
            refine kt_iconst (v := 0) C dL_law_440 (by decide) ?_
            exact hV.elim
