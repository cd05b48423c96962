/-! THE MAKING: while the constructors run, the world is the cells that were made, one behind another from a base on: cell j at base + j holds f j. -/
def gbs (g : GG) : Nat := g.2.2.2.1
def picN (g : GG) (n : Nat) (f : Nat → va_E) : va_W := (List.range n).map (fun j => (gbs g + j, f j))
theorem picN_at {g : GG} {n j : Nat} {f : Nat → va_E} (h : j < n) : (picN g n f)[j]? = some (gbs g + j, f j) := by
  simp only [picN, List.getElem?_map, List.getElem?_range h, Option.map_some]
theorem picN_in {g : GG} {n k : Nat} {f : Nat → va_E} {q : Nat × va_E} (h : (picN g n f)[k]? = some q) : k < n ∧ q = (gbs g + k, f k) := by
  have hk : k < n := by
    have := (List.getElem?_eq_some_iff.mp h).1
    simpa [picN] using this
  exact ⟨hk, (Option.some.inj ((picN_at hk).symm.trans h)).symm⟩
theorem picN_set {g : GG} {n j : Nat} {f : Nat → va_E} {e : va_E} (h : j < n) : (picN g n f).set j (gbs g + j, e) = picN g n (va_up f j e) := by
  apply List.ext_getElem?
  intro k
  by_cases hk : k = j
  · subst hk
    rw [List.getElem?_set_self (by simpa [picN] using h), picN_at h, va_up_self]
  · rw [List.getElem?_set_ne (Ne.symm hk)]
    simp only [picN, List.getElem?_map]
    cases hb : (List.range n)[k]? with
    | none => rfl
    | some b =>
      have : b = k := by
        have h1 := (List.getElem?_eq_some_iff.mp hb).1
        have h2 : k < n := by simpa using h1
        rw [List.getElem?_range h2] at hb
        exact (Option.some.inj hb).symm
      subst this
      simp only [Option.map_some, va_up_ne _ _ hk]
theorem picN_push {g : GG} {n : Nat} {f : Nat → va_E} {e : va_E} : picN g n f ++ [(gbs g + n, e)] = picN g (n + 1) (va_up f n e) := by
  simp only [picN, List.range_succ, List.map_append, List.map_cons, List.map_nil, va_up_self]
  congr 1
  apply List.map_congr_left
  intro j hj
  have : j < n := List.mem_range.mp hj
  rw [va_up_ne _ _ (by omega)]
theorem picN_D {g : GG} {n : Nat} {f : Nat → va_E} : va_D (gA g) (picN g n f) := by
  refine ⟨fun i j p q hp hq h => ?_, fun k q hq => ?_⟩
  · obtain ⟨-, rfl⟩ := picN_in hp
    obtain ⟨-, rfl⟩ := picN_in hq
    have : gbs g + i = gbs g + j := h
    omega
  · obtain ⟨-, rfl⟩ := picN_in hq
    show g.2.2.2.1 ≤ gbs g + k
    unfold gbs
    omega
def nestI : List Cond := [.methodLinkNest RX7 9 yX2_init RX7, .methodLinkNest RX7 24 yX3_init RX7, .methodLinkNest RX7 38 yX5_init RX7, .methodLinkNest RX7 56 yX4_init RX7, .methodLinkNest RX6 9 yX0_init RX7]
def WdU (g : GG) (U : State) : Prop := va_K g.1 vwCl (gty g) U ∧ (va_AO RX4 U ∧ va_AO RX6 U) ∧ va_Nw (.methodLinkNest RX7 9 yX2_init RX7) U ∧ va_Nw (.methodLinkNest RX7 24 yX3_init RX7) U ∧ va_Nw (.methodLinkNest RX7 38 yX5_init RX7) U ∧ va_Nw (.methodLinkNest RX7 56 yX4_init RX7) U ∧ va_Nw (.methodLinkNest RX6 9 yX0_init RX7) U
theorem WdU.same {g : GG} {u U : State} (hv : U.vm = u.vm) (h : WdU g u) : WdU g U := by
  obtain ⟨h1, ⟨h2, h3⟩, h4, h5, h6, h7, h8⟩ := h
  have ha : u.vm.Alike U.vm := by rw [hv]; exact Vm.Alike.refl _
  exact ⟨va_K.moved ha h1, ⟨va_AO.moved ha h2, va_AO.moved ha h3⟩, va_Nw.same rfl hv.symm h4, va_Nw.same rfl hv.symm h5, va_Nw.same rfl hv.symm h6, va_Nw.same rfl hv.symm h7, va_Nw.same rfl hv.symm h8⟩
theorem WdU.warm {g : GG} {s U : State} (hW : s.WarmedH U.vm) (h : WdU g s) : WdU g U := by
  obtain ⟨h1, ⟨h2, h3⟩, h4, h5, h6, h7, h8⟩ := h
  exact ⟨va_K.moved hW.alike h1, ⟨va_AO.moved hW.alike h2, va_AO.moved hW.alike h3⟩, va_Nw.warmM hW h4, va_Nw.warmM hW h5, va_Nw.warmM hW h6, va_Nw.warmM hW h7, va_Nw.warmM hW h8⟩
def WldU (g : GG) (n : Nat) (f : Nat → va_E) (U : State) : Prop := (U.heap.size = gbs g + n ∧ va_P g.1 vwCl (picN g n f) U.heap) ∧ WdU g U
theorem WldU.blind {g : GG} {n : Nat} {f : Nat → va_E} {av : List Value} : FrameBlind (va_Pc av (WldU g n f)) := by
  intro a U q mk h
  exact ⟨h.1, h.2.1, h.2.2.same rfl⟩
def QU (g : GG) (E : Nat → (Nat → va_E) → Prop) : Array Value → State → Outcome → State → Prop := fun _ st oc t => (∃ (n' : Nat) (f' : Nat → va_E), oc = .returned none ∧ E n' f' ∧ t.heap.size = gbs g + n' ∧ va_P g.1 vwCl (picN g n' f') t.heap) ∧ va_F (gA g) st t
def CtU (l : Launch) (y : MethodName) (bytes : ByteArray) (maxL : Nat) (fr lo mc ms : Nat) (av : List Value) (g : GG) (n : Nat) (f : Nat → va_E) (E : Nat → (Nat → va_E) → Prop) : Prop :=
  Met l y (.code y bytes maxL none :: wsL_law) { frames := fr, cells := mc, slots := ms, locals := lo } (va_Pc av (WldU g n f)) (QU g E) mc ms (gA g)
def CU (p : Program) (s : State) (mi : MethodId) (args : Array Value) (meth : Method) (c : Code) (cc : ByteArray) (own : String) (nL : Nat) (nm : String) (rt : Option FieldType) (g : GG) : Prop :=
  p.tables.exec = Jvm.exec ∧ c.code = cc ∧ c.maxLocals = nL ∧ s.vm.findClass own = some mi.cls ∧ (∀ w ∈ wsL_law, w.before args s = true) ∧ WdU g s ∧ meth.sig.returnType = rt ∧ meth.locks = false ∧ meth.name = nm ∧ gbs g ≤ s.heap.size
def UU (p : Program) (l : Launch) (e : Env) (R : Room) (s : State) (mi : MethodId) (args : Array Value) (below : List Frame) (meth : Method) (c : Code) (Q : State → Prop) (g : GG) (nL : Nat) (n : Nat) (f : Nat → va_E) (cl sl : Nat) (pc : Nat) (lv : List (Nat × Value)) (st : List Value) : Prop :=
  ∀ (H : Heap) (locs : List Loc) (ls : Array Slot), (H.size = gbs g + n ∧ va_P g.1 vwCl (picN g n f) H) → va_S (gA g) s.heap H locs → lv_has ls nL lv → W p l e R s mi args below meth c H locs cl sl Q (F0 mi pc ls st)
theorem cu_intro {l : Launch} {y : MethodName} {bytes : ByteArray} {maxL : Nat} {fr lo mc ms : Nat} {av : List Value} {g : GG} {n : Nat} {f : Nat → va_E} {E : Nat → (Nat → va_E) → Prop} (own : String) (hy : plainName y.cls = true) (ho : y.cls = own) (hn : (lg_sl av).length ≤ maxL)
    (body : ∀ (p : Program) (e : Env) (s : State) (mi : MethodId) (below : List Frame) (meth : Method) (c : Code), CU p s mi av.toArray meth c bytes own maxL y.name none g → UU p l e { frames := fr, cells := mc, slots := ms, locals := lo } s mi av.toArray below meth c (MQ below (QU g E) av.toArray s mc ms (gA g)) g maxL n f 0 0 0 (lv_args 0 av) []) : CtU l y bytes maxL fr lo mc ms av g n f E := by
  refine Met.ofW (cc := bytes) (maxL := maxL) (ret := none) hy rfl ?_
  intro p e s mi args below meth c s₁ B hml hv
  obtain ⟨rfl, hP, hWd⟩ := hv
  have hts := atoms_spec (ws := .code y bytes maxL none :: wsL_law) B.pre
  have hown : s.vm.findClass own = some mi.cls := by rw [← ho]; exact findClass_of_methodNamed B.named
  have hin : meth.name = y.name := (name_of_methodNamed B.named B.method).1
  have hl := lv_entry av (n := maxL) hn
  rw [lg_entry_eq]
  exact body p e s mi below meth c ⟨B.exec, B.bytes, hml, hown, fun w hw => hts w (List.mem_cons_of_mem _ hw), hWd, B.returns, B.notSynchronized, hin, by rw [hP.1]; omega⟩ s.heap [] _ hP va_S.rf hl
section TU
variable {p : Program} {l : Launch} {e : Env} {R : Room} {s : State} {mi : MethodId} {args : Array Value} {below : List Frame} {meth : Method} {c : Code} {cl sl : Nat} {Q : State → Prop} {g : GG} {nL : Nat} {n : Nat} {f : Nat → va_E} {pc : Nat} {lv : List (Nat × Value)} {rest st : List Value} {cc : ByteArray} {own : String} {nm : String} {rt : Option FieldType}
theorem ku_iconst (C : CU p s mi args meth c cc own nL nm rt g) {nn : Int} {v : Int32} (hdg : decode cc pc = .ok (.iconst nn, 1)) (hv : Int32.ofInt nn = v) (k : UU p l e R s mi args below meth c Q g nL n f cl sl (pc + 1) lv (.int v :: rest)) : UU p l e R s mi args below meth c Q g nL n f cl sl pc lv rest := fun H locs ls hP hS hl => lv_iconst C.1 C.2.1 hdg hv (k H locs ls hP hS hl)
theorem ku_bipush (C : CU p s mi args meth c cc own nL nm rt g) {nn : Int} {v : Int32} (hdg : decode cc pc = .ok (.bipush nn, 2)) (hv : (Int8.ofInt nn).toInt32 = v) (k : UU p l e R s mi args below meth c Q g nL n f cl sl (pc + 2) lv (.int v :: rest)) : UU p l e R s mi args below meth c Q g nL n f cl sl pc lv rest := fun H locs ls hP hS hl => lv_bipush C.1 C.2.1 hdg hv (k H locs ls hP hS hl)
theorem ku_sipush (C : CU p s mi args meth c cc own nL nm rt g) {nn : Int} {v : Int32} (hdg : decode cc pc = .ok (.sipush nn, 3)) (hv : (Int16.ofInt nn).toInt32 = v) (k : UU p l e R s mi args below meth c Q g nL n f cl sl (pc + 3) lv (.int v :: rest)) : UU p l e R s mi args below meth c Q g nL n f cl sl pc lv rest := fun H locs ls hP hS hl => lv_sipush C.1 C.2.1 hdg hv (k H locs ls hP hS hl)
theorem ku_ldc (C : CU p s mi args meth c cc own nL nm rt g) {index : Nat} {v : Int32} (hw : Cond.constant own index v ∈ wsL_law) (hdg : decode cc pc = .ok (.ldc index, 2)) (k : UU p l e R s mi args below meth c Q g nL n f cl sl (pc + 2) lv (.int v :: rest)) : UU p l e R s mi args below meth c Q g nL n f cl sl pc lv rest := fun H locs ls hP hS hl => lv_ldc C.1 C.2.1 C.2.2.2.1 (C.2.2.2.2.1 _ hw) hdg (k H locs ls hP hS hl)
theorem ku_iload_n (C : CU p s mi args meth c cc own nL nm rt g) {k : Fin 4} {i : Nat} {x : Int32} (hdg : decode cc pc = .ok (.iload_n k, 1)) (hi : (k : Nat) = i) (h : lv.lookup i = some (.int x)) (kk : UU p l e R s mi args below meth c Q g nL n f cl sl (pc + 1) lv (.int x :: rest)) : UU p l e R s mi args below meth c Q g nL n f cl sl pc lv rest := fun H locs ls hP hS hl => lv_iload_n C.1 C.2.1 hdg hi (hl.2.2 _ (lk_mem h)) (kk H locs ls hP hS hl)
theorem ku_aload_n (C : CU p s mi args meth c cc own nL nm rt g) {k : Fin 4} {i : Nat} {x : Nat} (hdg : decode cc pc = .ok (.aload_n k, 1)) (hi : (k : Nat) = i) (h : lv.lookup i = some (.ref x)) (kk : UU p l e R s mi args below meth c Q g nL n f cl sl (pc + 1) lv (.ref x :: rest)) : UU p l e R s mi args below meth c Q g nL n f cl sl pc lv rest := fun H locs ls hP hS hl => lv_aload_n C.1 C.2.1 hdg hi (hl.2.2 _ (lk_mem h)) (kk H locs ls hP hS hl)
theorem ku_istore_n (C : CU p s mi args meth c cc own nL nm rt g) {k : Fin 4} {i : Nat} {x : Int32} {lv' : List (Nat × Value)} (hdg : decode cc pc = .ok (.istore_n k, 1)) (hi : (k : Nat) = i) (hn : i < nL) (hl' : (i, Value.int x) :: lv.filter (fun q => !(q.1 == i) && !(q.1 + 1 == i && q.2.category == 2)) = lv') (kk : UU p l e R s mi args below meth c Q g nL n f cl sl (pc + 1) lv' rest) : UU p l e R s mi args below meth c Q g nL n f cl sl pc lv (.int x :: rest) := fun H locs ls hP hS hl => lv_istore_n C.1 C.2.1 hdg hi hl hn hl' (fun ls' hl2 => kk H locs ls' hP hS hl2)
theorem ku_astore_n (C : CU p s mi args meth c cc own nL nm rt g) {k : Fin 4} {i : Nat} {x : Nat} {lv' : List (Nat × Value)} (hdg : decode cc pc = .ok (.astore_n k, 1)) (hi : (k : Nat) = i) (hn : i < nL) (hl' : (i, Value.ref x) :: lv.filter (fun q => !(q.1 == i) && !(q.1 + 1 == i && q.2.category == 2)) = lv') (kk : UU p l e R s mi args below meth c Q g nL n f cl sl (pc + 1) lv' rest) : UU p l e R s mi args below meth c Q g nL n f cl sl pc lv (.ref x :: rest) := fun H locs ls hP hS hl => lv_astore_n C.1 C.2.1 hdg hi hl hn hl' (fun ls' hl2 => kk H locs ls' hP hS hl2)
theorem ku_iinc (C : CU p s mi args meth c cc own nL nm rt g) {i : Nat} {nn : Int} {x v : Int32} {lv' : List (Nat × Value)} (hdg : decode cc pc = .ok (.iinc i nn, 3)) (h : lv.lookup i = some (.int x)) (hv : x + Int32.ofInt nn = v) (hn : i < nL) (hl' : (i, Value.int v) :: lv.filter (fun q => !(q.1 == i) && !(q.1 + 1 == i && q.2.category == 2)) = lv') (kk : UU p l e R s mi args below meth c Q g nL n f cl sl (pc + 3) lv' rest) : UU p l e R s mi args below meth c Q g nL n f cl sl pc lv rest := fun H locs ls hP hS hl => by
  obtain ⟨k, hk⟩ := List.getElem?_of_mem (lk_mem h)
  exact lv_iinc (k := k) C.1 C.2.1 hdg hl hk hv hn hl' (fun ls' hl2 => kk H locs ls' hP hS hl2)
theorem ku_dup (C : CU p s mi args meth c cc own nL nm rt g) {va : Value} (hdg : decode cc pc = .ok (.dup, 1)) (hva : va.category = 1) (k : UU p l e R s mi args below meth c Q g nL n f cl sl (pc + 1) lv (va :: va :: rest)) : UU p l e R s mi args below meth c Q g nL n f cl sl pc lv (va :: rest) := fun H locs ls hP hS hl => lv_dup C.1 C.2.1 hdg hva (k H locs ls hP hS hl)
theorem ku_null (C : CU p s mi args meth c cc own nL nm rt g) (hdg : decode cc pc = .ok (.aconst_null, 1)) (k : UU p l e R s mi args below meth c Q g nL n f cl sl (pc + 1) lv (.null :: rest)) : UU p l e R s mi args below meth c Q g nL n f cl sl pc lv rest := fun H locs ls hP hS hl => lv_null C.1 C.2.1 hdg (k H locs ls hP hS hl)
theorem ku_goto (C : CU p s mi args meth c cc own nL nm rt g) {off : Int} (tgt : Nat) (hdg : decode cc pc = .ok (.goto off, 3)) (ht : (pc : Int) + off = (tgt : Int)) (k : UU p l e R s mi args below meth c Q g nL n f cl sl tgt lv rest) : UU p l e R s mi args below meth c Q g nL n f cl sl pc lv rest := fun H locs ls hP hS hl => lv_goto C.1 C.2.1 hdg ht (k H locs ls hP hS hl)
theorem ku_icmp_ge (C : CU p s mi args meth c cc own nL nm rt g) {x y : Int32} {off : Int} (tgt : Nat) (hdg : decode cc pc = .ok (.if_icmp .ge off, 3)) (ht : (pc : Int) + off = (tgt : Int)) (kt : y ≤ x → UU p l e R s mi args below meth c Q g nL n f cl sl tgt lv rest) (kf : ¬ y ≤ x → UU p l e R s mi args below meth c Q g nL n f cl sl (pc + 3) lv rest) : UU p l e R s mi args below meth c Q g nL n f cl sl pc lv (.int y :: .int x :: rest) := fun H locs ls hP hS hl => lv_icmp_ge C.1 C.2.1 hdg ht (fun h => kt h H locs ls hP hS hl) (fun h => kf h H locs ls hP hS hl)
theorem ku_pick {lv' : List (Nat × Value)} (ks : List Nat) (hl' : lv_pick lv ks = lv') (k : UU p l e R s mi args below meth c Q g nL n f cl sl pc lv' st) : UU p l e R s mi args below meth c Q g nL n f cl sl pc lv st := fun H locs ls hP hS hl => k H locs ls hP hS (lv_sub hl ks hl')
theorem ku_vret {E : Nat → (Nat → va_E) → Prop} {mc ms : Nat} (C : CU p s mi args meth c cc own nL nm none g) (h1 : cl ≤ mc) (h2 : sl ≤ ms) (hE : E n f) (hdg : decode cc pc = .ok (.return_, 1)) : UU p l e R s mi args below meth c (MQ below (QU g E) args s mc ms (gA g)) g nL n f cl sl pc lv [] := fun H locs ls hP hS hl => W.widen h1 h2 (W.vret C.1 C.2.1 C.2.2.2.2.2.2.1 (fun t ht hW => ⟨⟨n, f, rfl, hE, by rw [ht]; exact hP.1, by rw [ht]; exact hP.2⟩, hS.F ht⟩) hS.2.2 hdg (hlocks := C.2.2.2.2.2.2.2.1))
theorem ku_obj (C : CU p s mi args meth c cc own nL nm rt g) {a idx : Nat} (w1 : Cond.methodLink own idx objectInit ∈ wsL_law) (w2 : Cond.instanceMethod objectInit ∈ wsL_law) (w3 : Cond.code objectInit ⟨#[0xb1]⟩ 1 none ∈ wsL_law) (hf : 1 ≤ R.frames) (hlo : (rest.map fun v => v.category).sum + 12 ≤ R.locals) (hdg : decode cc pc = .ok (.invokespecial idx, 3)) (k : UU p l e R s mi args below meth c Q g nL n f cl sl (pc + 3) lv rest) : UU p l e R s mi args below meth c Q g nL n f cl sl pc lv (.ref a :: rest) := fun H locs ls hP hS hl => by
  refine W.objInit C.1 C.2.1 C.2.2.2.1 (C.2.2.2.2.1 _ w1) (C.2.2.2.2.1 _ w2) (C.2.2.2.2.1 _ w3) rfl (by rw [C.2.2.1]; exact hl.1) rfl hdg hf (by show 2 * 0 + _ + 12 ≤ _; omega) ?_
  exact k H locs ls hP hS hl
theorem ku_new (C : CU p s mi args meth c cc own nL nm rt g) {Cn : String} {Tb : u_T} {N ci index : Nat} (ty : Nat → FieldType) {fs : List Value} (hin : ∀ w ∈ u_ws Cn Tb N, w ∈ wsL_law) (hty : ∀ k, k < N → parseFieldDescriptor (Tb k).2.2.1 = some (ty k)) (w1 : Cond.classLink own index Cn ∈ wsL_law) (w2 : Cond.instantiable Cn N ∈ wsL_law) (w3 : Cond.initialized Cn ∈ wsL_law) (hc : vwCl[ci]? = some (Cn, Tb, N)) (hfs : ∀ j, j < N → defaultValue (ty j) = vp_V fs j) (h1 : cl + 1 ≤ R.cells) (h2 : sl + N ≤ R.slots) (hdg : decode cc pc = .ok (.new index, 3))
    (k : ∀ fN : Nat → va_E, fN = va_up f n (.inr (ci, fs)) → UU p l e R s mi args below meth c Q g nL (n + 1) fN (cl + 1) (sl + N) (pc + 3) lv (.ref (gbs g + n) :: rest)) : UU p l e R s mi args below meth c Q g nL n f cl sl pc lv rest := fun H locs ls hP hS hl => by
  have hKn := C.2.2.2.2.2.1.1.1 ci _ hc
  refine W.newcK C.1 C.2.1 C.2.2.2.1 (C.2.2.2.2.1 _ w1) (C.2.2.2.2.1 _ w2) (C.2.2.2.2.1 _ w3) rfl hdg h1 h2 hKn.2.1 hP.1 fun H1 kC hkC e1 z1 o1 => ?_
  have hk : ∀ (k : Nat) (x : Nat × va_E), (picN g n f)[k]? = some x → H1[x.1]? = H[x.1]? := fun k x hx => by
    have := (hP.2 k x hx).lt
    exact o1 x.1 (by rw [← hP.1]; exact this)
  refine k _ rfl H1 locs ls ⟨by rw [z1]; omega, ?_⟩ ⟨Nat.le_trans hS.1 (by rw [z1, hP.1]; omega), fun x h1 h2 => (o1 x (by rw [← hP.1]; exact Nat.lt_of_lt_of_le h1 hS.1)).trans (hS.2.1 x h1 h2), hS.2.2⟩ hl
  rw [← picN_push]
  refine (hP.2.kept hk).app (fun k x hx => ?_)
  have hz : k < 1 := (List.getElem?_eq_some_iff.mp hx).1
  rw [show k = 0 by omega] at hx
  cases hx
  exact ⟨_, hc, (u_born ty C.2.2.2.2.1 hin hKn hkC e1 hty).to hfs⟩
theorem ku_newa (C : CU p s mi args meth c cc own nL nm rt g) {atype : ArrayType} {ty : FieldType} {cA0 : ClassId} (t0 : Nat) {nn : Int32} {N' : Nat} {a0 : vp_A} (w : Cond.arrayClass ty ∈ wsL_law) (hty : newarray.typeOf atype = ty) (hnd : ∀ C, ty ≠ .object C) (ht : (gty g)[t0]? = some (cA0, ty)) (ha : ∀ cA : ClassId, vp_cell cA a0 = arrV cA N' (fun _ => defaultValue ty)) (hn : ¬ nn < 0) (hN : nn.toNatClampNeg = N') (hbytes : N' * componentBytes ty ≤ 536870912) (h1 : cl + 1 ≤ R.cells) (h2 : sl + N' ≤ R.slots) (hdg : decode cc pc = .ok (.newarray atype, 2))
    (k : ∀ fN : Nat → va_E, fN = va_up f n (.inl (cA0, a0)) → UU p l e R s mi args below meth c Q g nL (n + 1) fN (cl + 1) (sl + N') (pc + 2) lv (.ref (gbs g + n) :: rest)) : UU p l e R s mi args below meth c Q g nL n f cl sl pc lv (.int nn :: rest) := fun H locs ls hP hS hl => by
  subst hty
  refine va_newaK C.1 C.2.1 (C.2.2.2.2.1 _ w) rfl hdg rfl hn hN hbytes h1 h2 hP.1 fun H1 cA e1 z1 o1 hAr hNm => ?_
  have hcA : cA = cA0 := by
    have h3 := (C.2.2.2.2.2.1.1.2 t0 _ ht).2
    have h4 : s.vm.findClass ("[" ++ (newarray.typeOf atype).toString) = some cA0 := by cases atype <;> exact h3
    exact Option.some.inj (hNm.symm.trans h4)
  subst hcA
  have hk : ∀ (k : Nat) (x : Nat × va_E), (picN g n f)[k]? = some x → H1[x.1]? = H[x.1]? := fun k x hx => by
    have := (hP.2 k x hx).lt
    exact o1 x.1 (by rw [← hP.1]; exact this)
  refine k _ rfl H1 locs ls ⟨by rw [z1]; omega, ?_⟩ ⟨Nat.le_trans hS.1 (by rw [z1, hP.1]; omega), fun x h1 h2 => (o1 x (by rw [← hP.1]; exact Nat.lt_of_lt_of_le h1 hS.1)).trans (hS.2.1 x h1 h2), hS.2.2⟩ hl
  rw [← picN_push]
  refine (hP.2.kept hk).app (fun k x hx => ?_)
  have hz : k < 1 := (List.getElem?_eq_some_iff.mp hx).1
  rw [show k = 0 by omega] at hx
  cases hx
  show H1[gbs g + n]? = some (vp_cell _ _)
  rw [ha]
  exact e1
theorem ku_anew (C : CU p s mi args meth c cc own nL nm rt g) {Cn : String} {index : Nat} {cA0 : ClassId} (t0 : Nat) {nn : Int32} {N' : Nat} (w : Cond.classLink own index Cn ∈ wsL_law) (hover : va_AO Cn s) (ht : (gty g)[t0]? = some (cA0, .object Cn)) (hn : ¬ nn < 0) (hN : nn.toNatClampNeg = N') (hbytes : N' * 4 ≤ 536870912) (h1 : cl + 1 ≤ R.cells) (h2 : sl + N' ≤ R.slots) (hdg : decode cc pc = .ok (.anewarray index, 3))
    (k : ∀ fN : Nat → va_E, fN = va_up f n (aR cA0 N' (fun _ => none)) → UU p l e R s mi args below meth c Q g nL (n + 1) fN (cl + 1) (sl + N') (pc + 3) lv (.ref (gbs g + n) :: rest)) : UU p l e R s mi args below meth c Q g nL n f cl sl pc lv (.int nn :: rest) := fun H locs ls hP hS hl => by
  subst hN
  refine W.anew C.1 C.2.1 C.2.2.2.1 (C.2.2.2.2.1 _ w) (va_AO.use hover) rfl hdg rfl hn hbytes h1 h2 fun cA kA comp f1 f2 f3 f4 => ?_
  have hcA : cA = cA0 := by
    obtain ⟨kA', comp', q1, q2, q3, q4⟩ := (C.2.2.2.2.2.1.1.2 t0 _ ht).2
    exact Option.some.inj (f1.symm.trans q4)
  subst hcA
  generalize hH1 : H.push ({ cls := cA, slots := Array.replicate nn.toNatClampNeg .null, vm := .none } : Cell) = H1
  have z1 : H1.size = H.size + 1 := by rw [← hH1, Array.size_push]
  have e1 : H1[H.size]? = some (arrV cA nn.toNatClampNeg (fun _ => .null)) := by rw [← hH1, Array.getElem?_push_size, ← arrV_new]
  have o1 : ∀ q : Nat, q < H.size → H1[q]? = H[q]? := fun q hq => by rw [← hH1, Array.getElem?_push, if_neg (Nat.ne_of_lt hq)]
  have hk : ∀ (k : Nat) (x : Nat × va_E), (picN g n f)[k]? = some x → H1[x.1]? = H[x.1]? := fun k x hx => o1 x.1 ((hP.2 k x hx).lt)
  have hgo := k _ rfl H1 locs ls ⟨by rw [z1, hP.1]; omega, by
    rw [← picN_push]
    refine (hP.2.kept hk).app (fun k x hx => ?_)
    have hz : k < 1 := (List.getElem?_eq_some_iff.mp hx).1
    rw [show k = 0 by omega] at hx
    cases hx
    show H1[gbs g + n]? = some (vp_cell _ _)
    rw [vp_cell_q, ← hP.1]
    exact e1⟩ ⟨Nat.le_trans hS.1 (by rw [z1]; omega), fun x h1 h2 => (o1 x (Nat.lt_of_lt_of_le h1 hS.1)).trans (hS.2.1 x h1 h2), hS.2.2⟩ hl
  rw [← hP.1] at hgo
  exact hgo
theorem ku_get (C : CU p s mi args meth c cc own nL nm rt g) {o ci : Nat} (kf : Nat) {fs : List Value} {Cn : String} {Tb : u_T} {N index : Nat} {v : Value} (ho : o < n) (he : f o = .inr (ci, fs)) (hc : vwCl[ci]? = some (Cn, Tb, N)) (hin : ∀ w ∈ u_ws Cn Tb N, w ∈ wsL_law) (hk : kf < N) (hw : Cond.fieldLink own index (Tb kf).1 (Tb kf).2.1 (Tb kf).2.2.1 ∈ wsL_law) (hv : fs[kf]? = some v) (hdg : decode cc pc = .ok (.getfield index, 3)) (kk : UU p l e R s mi args below meth c Q g nL n f cl sl (pc + 3) lv (v :: rest)) : UU p l e R s mi args below meth c Q g nL n f cl sl pc lv (.ref (gbs g + o) :: rest) := fun H locs ls hP hS hl =>
  va_get (D := g.1) (cl := vwCl) (ws := picN g n f) C.1 C.2.1 C.2.2.2.2.1 hin C.2.2.2.1 C.2.2.2.2.2.1.1 hP.2 o ((picN_at ho).trans (by rw [he])) hc kf hk (C.2.2.2.2.1 _ hw) (fun _ h => h) hv hdg (kk H locs ls hP hS hl)
theorem ku_put (C : CU p s mi args meth c cc own nL nm rt g) {o ci : Nat} (kf : Nat) {fs : List Value} {Cn : String} {Tb : u_T} (ty0 : Nat → FieldType) {ty : FieldType} {N index : Nat} {v : Value} (ho : o < n) (he : f o = .inr (ci, fs)) (hc : vwCl[ci]? = some (Cn, Tb, N)) (hin : ∀ w ∈ u_ws Cn Tb N, w ∈ wsL_law) (hty : ∀ k, k < N → parseFieldDescriptor (Tb k).2.2.1 = some (ty0 k)) (hnm : ∀ a, a < N → ∀ b, b < N → a ≠ b → (Tb a).2.1 ≠ (Tb b).2.1) (hk : kf < N) (hw : Cond.fieldLink own index (Tb kf).1 (Tb kf).2.1 (Tb kf).2.2.1 ∈ wsL_law) (hfin : (Tb kf).2.2.2 = false) (hd : parseFieldDescriptor (Tb kf).2.2.1 = some ty) (hn : narrow ty v = v) (hfit : fits ty v = true) (hl' : kf < fs.length) (hdg : decode cc pc = .ok (.putfield index, 3))
    (kk : ∀ fN : Nat → va_E, fN = va_up f o (.inr (ci, fs.set kf v)) → UU p l e R s mi args below meth c Q g nL n fN cl sl (pc + 3) lv rest) : UU p l e R s mi args below meth c Q g nL n f cl sl pc lv (v :: .ref (gbs g + o) :: rest) := fun H locs ls hP hS hl => by
  have hap := va_apart (own := own) C.2.2.2.2.1 hin ty0 hty hnm C.2.2.2.2.2.1.1 hc
  have hat : (picN g n f)[o]? = some (gbs g + o, .inr (ci, fs)) := (picN_at ho).trans (by rw [he])
  obtain ⟨r, h1, cell, q1, q2, q3, q4⟩ := hP.2 o _ hat
  have hr : r = (Cn, Tb, N) := Option.some.inj (h1.symm.trans hc)
  subst hr
  obtain ⟨hSl, hfc, kC, hkC, hkind⟩ := C.2.2.2.2.2.1.1.1 ci _ hc
  obtain ⟨cf, kfc, fi, fd, hi, hsl⟩ := hSl kf hk
  have hlay := C.2.2.2.2.1 _ (hin _ (u_in_lay hk))
  unfold u_lay at hlay
  rw [if_neg (by rw [hfin]; decide)] at hlay
  have hst := (u_facts hfc hkC (u_lays C.2.2.2.2.1 hin hk) hi).1
  have h6 := u_store hfc hkC hkind hlay hi hd hn hfit
  refine W.putK C.1 C.2.1 (f := fd) ⟨C.2.2.2.1, C.2.2.2.2.1 _ hw, ⟨_, _, _, hi⟩, hst⟩ (by rw [q2]; exact h6) q1 q3 (by rw [hsl]; exact k2_hasslot (q4 kf hk)) rfl rfl hdg fun H' e1 e2 e3 => ?_
  rw [hsl] at e1 ⊢
  have hP1 := hP.2.set picN_D hat (e := .inr (ci, fs.set kf v)) ⟨_, hc, t_OB.to (V := updV (vp_V fs) kf v) ⟨_, e1, q2, q3, t_set q4 hap hk v⟩ (fun j _ => vp_updV_set hl' v j)⟩ e3
  rw [picN_set ho] at hP1
  exact kk _ rfl H' _ ls ⟨by rw [e2]; exact hP.1, hP1⟩ (hS.put e2 e3 (by show g.2.2.2.1 ≤ gbs g + o; unfold gbs; omega)) hl
theorem ku_putF (C : CU p s mi args meth c cc own nL "<init>" rt g) {o ci : Nat} (kf : Nat) {fs : List Value} {Cn : String} {Tb : u_T} (ty0 : Nat → FieldType) {ty : FieldType} {N index : Nat} {v : Value} (ho : o < n) (he : f o = .inr (ci, fs)) (hc : vwCl[ci]? = some (Cn, Tb, N)) (hin : ∀ w ∈ u_ws Cn Tb N, w ∈ wsL_law) (hty : ∀ k, k < N → parseFieldDescriptor (Tb k).2.2.1 = some (ty0 k)) (hnm : ∀ a, a < N → ∀ b, b < N → a ≠ b → (Tb a).2.1 ≠ (Tb b).2.1) (hk : kf < N) (hw : Cond.fieldLink own index (Tb kf).1 (Tb kf).2.1 (Tb kf).2.2.1 ∈ wsL_law) (hfin : (Tb kf).2.2.2 = true) (hdecl : (Tb kf).1 = own) (hd : parseFieldDescriptor (Tb kf).2.2.1 = some ty) (hn : narrow ty v = v) (hfit : fits ty v = true) (hl' : kf < fs.length) (hdg : decode cc pc = .ok (.putfield index, 3))
    (kk : ∀ fN : Nat → va_E, fN = va_up f o (.inr (ci, fs.set kf v)) → UU p l e R s mi args below meth c Q g nL n fN cl sl (pc + 3) lv rest) : UU p l e R s mi args below meth c Q g nL n f cl sl pc lv (v :: .ref (gbs g + o) :: rest) := fun H locs ls hP hS hl => by
  have hap := va_apart (own := own) C.2.2.2.2.1 hin ty0 hty hnm C.2.2.2.2.2.1.1 hc
  have hat : (picN g n f)[o]? = some (gbs g + o, .inr (ci, fs)) := (picN_at ho).trans (by rw [he])
  obtain ⟨r, h1, cell, q1, q2, q3, q4⟩ := hP.2 o _ hat
  have hr : r = (Cn, Tb, N) := Option.some.inj (h1.symm.trans hc)
  subst hr
  obtain ⟨hSl, hfc, kC, hkC, hkind⟩ := C.2.2.2.2.2.1.1.1 ci _ hc
  obtain ⟨cf, kfc, fi, fd, hi, hsl⟩ := hSl kf hk
  have hlay := C.2.2.2.2.1 _ (hin _ (u_in_lay hk))
  unfold u_lay at hlay
  rw [if_pos hfin] at hlay
  have hst := (u_facts hfc hkC (u_lays C.2.2.2.2.1 hin hk) hi).1
  have hcf : mi.cls = cf := by
    obtain ⟨_, _, c', _, _, _, -, -, hf', -, -, -, hown2, -⟩ := Cond.laysFinal_spec hlay
    have e1 : c' = cf := by have := hi.symm.trans hf'; simp at this; exact this.1.symm
    rw [hdecl] at hown2
    rw [← e1]; exact Option.some.inj (C.2.2.2.1.symm.trans hown2)
  have h6 := u_fits hfc hkC hkind (Or.inr hlay) hi hd hn hfit
  refine W.putFinK C.1 C.2.1 C.2.2.2.1 (C.2.2.2.2.1 _ hw) hi hst hcf C.2.2.2.2.2.2.2.2.1 (by rw [q2]; exact h6) q1 q3 (by rw [hsl]; exact k2_hasslot (q4 kf hk)) rfl rfl hdg fun H' e1 e2 e3 => ?_
  rw [hsl] at e1 ⊢
  have hP1 := hP.2.set picN_D hat (e := .inr (ci, fs.set kf v)) ⟨_, hc, t_OB.to (V := updV (vp_V fs) kf v) ⟨_, e1, q2, q3, t_set q4 hap hk v⟩ (fun j _ => vp_updV_set hl' v j)⟩ e3
  rw [picN_set ho] at hP1
  exact kk _ rfl H' _ ls ⟨by rw [e2]; exact hP.1, hP1⟩ (hS.put e2 e3 (by show g.2.2.2.1 ≤ gbs g + o; unfold gbs; omega)) hl
theorem ku_iast (C : CU p s mi args meth c cc own nL nm rt g) {o N : Nat} {h : Nat → Int32} {x v : Int32} (ho : o < n) (he : f o = aI (gcI g) N h) (hin : vp_in x N) (hdg : decode cc pc = .ok (.iastore, 1)) (kk : ∀ fN : Nat → va_E, fN = va_up f o (aI (gcI g) N (upd h x.toNatClampNeg v)) → UU p l e R s mi args below meth c Q g nL n fN cl sl (pc + 1) lv rest) : UU p l e R s mi args below meth c Q g nL n f cl sl pc lv (.int v :: .int x :: .ref (gbs g + o) :: rest) := fun H locs ls hP hS hl => by
  have hat : (picN g n f)[o]? = some (gbs g + o, aI (gcI g) N h) := (picN_at ho).trans (by rw [he])
  refine W.iast C.1 C.2.1 (hP.2 o _ hat) ((C.2.2.2.2.2.1.1.2 0 _ rfl).1 N (fun j => .int (h j))) (fun q => by cases q) (by show ¬ (x < 0 ∨ (arrV _ _ _).slots.size ≤ _); rw [arrV_size]; exact hin) rfl rfl hdg fun H1 e z oq => ?_
  have hP1 := hP.2.set picN_D hat (e := aI (gcI g) N (upd h x.toNatClampNeg v)) (H1 := H1) (by
    show H1[gbs g + o]? = some (vp_cell _ _)
    rw [e, vp_cell_i, vp_cell_i, arrV_store]
    congr 2
    funext q
    by_cases hq : q = x.toNatClampNeg
    · subst hq
      simp [updV, upd]
    · simp [updV, upd, hq]) oq
  rw [picN_set ho] at hP1
  exact kk _ rfl H1 _ ls ⟨by rw [z]; exact hP.1, hP1⟩ (hS.put z oq (by show g.2.2.2.1 ≤ gbs g + o; unfold gbs; omega)) hl
theorem ku_zast (C : CU p s mi args meth c cc own nL nm rt g) {o N : Nat} {h : Nat → Int32} {x v : Int32} (ho : o < n) (he : f o = aI (gcZ g) N h) (hin : vp_in x N) (hv : vp_nar .boolean v = v) (hdg : decode cc pc = .ok (.bastore, 1)) (kk : ∀ fN : Nat → va_E, fN = va_up f o (aI (gcZ g) N (upd h x.toNatClampNeg v)) → UU p l e R s mi args below meth c Q g nL n fN cl sl (pc + 1) lv rest) : UU p l e R s mi args below meth c Q g nL n f cl sl pc lv (.int v :: .int x :: .ref (gbs g + o) :: rest) := fun H locs ls hP hS hl => by
  have hat : (picN g n f)[o]? = some (gbs g + o, aI (gcZ g) N h) := (picN_at ho).trans (by rw [he])
  refine W.zast C.1 C.2.1 (hP.2 o _ hat) ((C.2.2.2.2.2.1.1.2 1 _ rfl).1 N (fun j => .int (h j))) (fun q => by cases q) (by show ¬ (x < 0 ∨ (arrV _ _ _).slots.size ≤ _); rw [arrV_size]; exact hin) rfl rfl hdg fun H1 e z oq => ?_
  have hP1 := hP.2.set picN_D hat (e := aI (gcZ g) N (upd h x.toNatClampNeg v)) (H1 := H1) (by
    show H1[gbs g + o]? = some (vp_cell _ _)
    rw [e, vp_cell_i, vp_cell_i, arrV_store]
    congr 2
    funext q
    by_cases hq : q = x.toNatClampNeg
    · subst hq
      have : narrow .boolean (.int v) = .int v := by
        have h2 : narrow .boolean (.int v) = .int (vp_nar .boolean v) := rfl
        rw [h2, hv]
      simp [updV, upd, this]
    · simp [updV, upd, hq]) oq
  rw [picN_set ho] at hP1
  exact kk _ rfl H1 _ ls ⟨by rw [z]; exact hP.1, hP1⟩ (hS.put z oq (by show g.2.2.2.1 ≤ gbs g + o; unfold gbs; omega)) hl
theorem ku_aald (C : CU p s mi args meth c cc own nL nm rt g) {o N : Nat} {h : Nat → Option Nat} {x : Int32} {cA : ClassId} {Cn : String} (t0 : Nat) (ho : o < n) (he : f o = aR cA N h) (ht : (gty g)[t0]? = some (cA, .object Cn)) (hin : vp_in x N) (hdg : decode cc pc = .ok (.aaload, 1)) (kk : UU p l e R s mi args below meth c Q g nL n f cl sl (pc + 1) lv (va_rf (h x.toNatClampNeg) :: rest)) : UU p l e R s mi args below meth c Q g nL n f cl sl pc lv (.int x :: .ref (gbs g + o) :: rest) := fun H locs ls hP hS hl =>
  va_aldq (D := g.1) (cl := vwCl) (ws := picN g n f) C.1 C.2.1 C.2.2.2.2.2.1.1 hP.2 o t0 ((picN_at ho).trans (by rw [he])) ht hin hdg (kk H locs ls hP hS hl)
theorem ku_aast (C : CU p s mi args meth c cc own nL nm rt g) {o N o2 ci : Nat} {h : Nat → Option Nat} {x : Int32} {cA : ClassId} {r : vw_C} {vs : List Value} (t0 : Nat) (ho : o < n) (he : f o = aR cA N h) (ht : (gty g)[t0]? = some (cA, .object r.1)) (ho2 : o2 < n) (he2 : f o2 = .inr (ci, vs)) (hc : vwCl[ci]? = some r) (hin : vp_in x N) (hdg : decode cc pc = .ok (.aastore, 1)) (kk : ∀ fN : Nat → va_E, fN = va_up f o (aR cA N (va_up h x.toNatClampNeg (some (gbs g + o2)))) → UU p l e R s mi args below meth c Q g nL n fN cl sl (pc + 1) lv rest) : UU p l e R s mi args below meth c Q g nL n f cl sl pc lv (.ref (gbs g + o2) :: .int x :: .ref (gbs g + o) :: rest) := fun H locs ls hP hS hl => by
  have hat : (picN g n f)[o]? = some (gbs g + o, aR cA N h) := (picN_at ho).trans (by rw [he])
  have hat2 : (picN g n f)[o2]? = some (gbs g + o2, .inr (ci, vs)) := (picN_at ho2).trans (by rw [he2])
  have hlt : x.toNatClampNeg < N := Nat.not_le.mp fun q => hin (Or.inr q)
  have h0 : ¬ x < 0 := fun q => hin (Or.inl q)
  obtain ⟨r', hr', cellV, g1, g2, g3, -⟩ := hP.2 o2 _ hat2
  have hcls := (C.2.2.2.2.2.1.1.1 ci r hc).2
  obtain ⟨kA, comp, k1, k2, k3, -⟩ := (C.2.2.2.2.2.1.1.2 t0 _ ht).2
  have hcomp : comp = g.1.1 ci := Option.some.inj (k3.symm.trans hcls.1)
  subst hcomp
  obtain ⟨kC, hkC, -⟩ := hcls.2
  refine W.aast C.1 C.2.1 (hP.2 o _ hat) (fun q h => by cases h) (fun h => by cases h) k1 k2 rfl hkC ⟨h0, by show _ < (arrV _ _ _).slots.size; rw [arrV_size]; exact hlt⟩ g1 (fun q h => by rw [g3] at h; cases h) (by rw [g2]; exact hkC) (by rw [g2]; exact va_assign hcls) rfl rfl hdg fun H1 e z oq => ?_
  have hP1 := hP.2.set picN_D hat (e := aR cA N (va_up h x.toNatClampNeg (some (gbs g + o2)))) (H1 := H1) (by
    show H1[gbs g + o]? = some (vp_cell _ _)
    rw [e, vp_cell_q, vp_cell_q, arrV_store]
    congr 2
    funext q
    by_cases hq : q = x.toNatClampNeg
    · subst hq
      simp [updV, va_up, va_rf]
    · simp [updV, va_up, hq]) oq
  rw [picN_set ho] at hP1
  exact kk _ rfl H1 _ ls ⟨by rw [z]; exact hP.1, hP1⟩ (hS.put z oq (by show g.2.2.2.1 ≤ gbs g + o; unfold gbs; omega)) hl
theorem run_U {H : Heap} {locs : List Loc} {ls : Array Slot} {st0 : List Value} {E : Nat → (Nat → va_E) → Prop} {a : Array Value} {mc ms : Nat} (hr : va_Run p l e R s mi args below meth c H locs cl sl mc ms (F0 mi pc ls st0) rest (QU g E a) (gA g)) (hS : va_S (gA g) s.heap H locs)
    (kk : ∀ (n' : Nat) (f' : Nat → va_E) (H1 : Heap) (locs1 : List Loc), E n' f' → (H1.size = gbs g + n' ∧ va_P g.1 vwCl (picN g n' f') H1) → va_S (gA g) s.heap H1 locs1 → W p l e R s mi args below meth c H1 locs1 (cl + mc) (sl + ms) Q (F0 mi (pc + 3) ls rest)) : W p l e R s mi args below meth c H locs cl sl Q (F0 mi pc ls st0) := by
  intro T hT X
  obtain ⟨v, st₀, t, T', L, h0, X', hL, e1, e2, ⟨⟨n', f', hv, hE, hz0, hP⟩, hz, hk⟩, st⟩ := hr T hT X
  cases hv
  rw [h0] at hz hk
  obtain ⟨t2, a1, b1⟩ := kk n' f' T'.heap (locs ++ L) hE (by rw [e1]; exact ⟨hz0, hP⟩)
    ⟨Nat.le_trans hS.1 (by rw [e1]; exact hz), fun q h1 h2 => by rw [e1, hk q (Nat.lt_of_lt_of_le h1 hS.1) h2]; exact hS.2.1 q h1 h2, fun q hq => by
      rcases List.mem_append.mp hq with h | h
      · exact hS.2.2 q h
      · exact hL q h⟩ T' rfl X'
  exact ⟨t2, st t2 a1, b1⟩
theorem ku_callI {E : Nat → (Nat → va_E) → Prop} (C : CU p s mi args meth c cc own nL nm rt g) {y : MethodName} {bytes : ByteArray} {maxL fr lo mc ms index nn o : Nat} {As : List Value} (hC : CtU l y bytes maxL fr lo mc ms (.ref (gbs g + o) :: As) g n f E)
    (w1 : Cond.methodLink own index y ∈ wsL_law) (w2 : Cond.instanceMethod y ∈ wsL_law) (w4 : Cond.initialized y.cls ∈ wsL_law) (w5 : Cond.code y bytes maxL none ∈ wsL_law) (hy1 : y.name = "<init>")
    (hd : y.cls ≠ "java/lang/invoke/MethodHandle" ∧ y.cls ≠ "java/lang/invoke/VarHandle" ∧ (parseMethodDescriptor y.desc).map (fun d => d.parameters.length) = some nn) (hn : As.length = nn)
    (hR : fr + 1 ≤ R.frames ∧ 8 + (maxL + 11) + lo ≤ R.locals) (hrc : cl + mc ≤ R.cells ∧ sl + ms ≤ R.slots) (hst : st = As.reverse ++ .ref (gbs g + o) :: rest) (hW : (rest.map fun v => v.category).sum ≤ 8) (hdg : decode cc pc = .ok (.invokespecial index, 3))
    (kk : ∀ (n' : Nat) (f' : Nat → va_E), E n' f' → UU p l e R s mi args below meth c Q g nL n' f' (cl + mc) (sl + ms) (pc + 3) lv rest) : UU p l e R s mi args below meth c Q g nL n f cl sl pc lv st := fun H locs ls hP hS hl => by
  refine run_U (rest := rest) (va_runI (As := As) (rest := rest) ⟨C.1, C.2.1, C.2.2.1, C.2.2.2.1, C.2.2.2.2.1⟩ hC (cwI nn C.2.2.2.2.1 (gi_all (fun w hw => ?_)) rfl rfl rfl (C.2.2.2.2.1 _ w4) (C.2.2.2.2.1 _ w1) (C.2.2.2.2.1 _ w2) hy1 hd hR) ⟨WldU.blind, fun U hU hW => ⟨rfl, by rw [hU]; exact hP, WdU.warm hW C.2.2.2.2.2.1⟩⟩ rfl hn hl.1 hst (lv_room hW) hdg hrc) hS (fun n' f' H1 locs1 hE hP1 hS1 => kk n' f' hE H1 locs1 ls hP1 hS1 hl)
  rcases List.mem_cons.mp hw with h | h
  · exact h ▸ w5
  · exact h
theorem ku_callN {E : Nat → (Nat → va_E) → Prop} (C : CU p s mi args meth c cc own nL nm rt g) {y : MethodName} {host : String} {bytes : ByteArray} {maxL fr lo mc ms index nn o : Nat} {As : List Value} (hC : CtU l y bytes maxL fr lo mc ms (.ref (gbs g + o) :: As) g n f E)
    (w1 : va_Nw (.methodLinkNest own index y host) s) (w2 : Cond.instanceMethod y ∈ wsL_law) (w4 : Cond.initialized y.cls ∈ wsL_law) (w5 : Cond.code y bytes maxL none ∈ wsL_law) (hy1 : y.name = "<init>")
    (hd : y.cls ≠ "java/lang/invoke/MethodHandle" ∧ y.cls ≠ "java/lang/invoke/VarHandle" ∧ (parseMethodDescriptor y.desc).map (fun d => d.parameters.length) = some nn) (hn : As.length = nn)
    (hR : fr + 1 ≤ R.frames ∧ 8 + (maxL + 11) + lo ≤ R.locals) (hrc : cl + mc ≤ R.cells ∧ sl + ms ≤ R.slots) (hst : st = As.reverse ++ .ref (gbs g + o) :: rest) (hW : (rest.map fun v => v.category).sum ≤ 8) (hdg : decode cc pc = .ok (.invokespecial index, 3))
    (kk : ∀ (n' : Nat) (f' : Nat → va_E), E n' f' → UU p l e R s mi args below meth c Q g nL n' f' (cl + mc) (sl + ms) (pc + 3) lv rest) : UU p l e R s mi args below meth c Q g nL n f cl sl pc lv st := fun H locs ls hP hS hl => by
  refine run_U (rest := rest) (va_runIN (As := As) (rest := rest) ⟨C.1, C.2.1, C.2.2.1, C.2.2.2.1, C.2.2.2.2.1⟩ hC ⟨va_cnB nn C.2.2.2.2.1 (gi_all (fun w hw => ?_)) rfl rfl rfl w1 (C.2.2.2.2.1 _ w4) hd hR, hy1, C.2.2.2.2.1 _ w2⟩ ⟨WldU.blind, fun U hU hW => ⟨rfl, by rw [hU]; exact hP, WdU.warm hW C.2.2.2.2.2.1⟩⟩ rfl hn hl.1 hst (lv_room hW) hdg hrc) hS (fun n' f' H1 locs1 hE hP1 hS1 => kk n' f' hE H1 locs1 ls hP1 hS1 hl)
  rcases List.mem_cons.mp hw with h | h
  · exact h ▸ w5
  · exact h
theorem ku_callV {E : Nat → (Nat → va_E) → Prop} (C : CU p s mi args meth c cc own nL nm rt g) {y : MethodName} {bytes : ByteArray} {maxL fr lo mc ms index nn o ci N : Nat} {Cn : String} {Tb : u_T} {fs As : List Value} (hC : CtU l y bytes maxL fr lo mc ms (.ref (gbs g + o) :: As) g n f E) (ho : o < n) (he : f o = .inr (ci, fs)) (hc : vwCl[ci]? = some (Cn, Tb, N))
    (w1 : Cond.methodLink own index y ∈ wsL_law) (w2 : Cond.instanceMethod y ∈ wsL_law) (w3 : Cond.selects Cn y y ∈ wsL_law) (w4 : Cond.initialized Cn ∈ wsL_law) (w5 : Cond.code y bytes maxL none ∈ wsL_law)
    (hd : y.cls = Cn ∧ y.cls ≠ "java/lang/invoke/MethodHandle" ∧ y.cls ≠ "java/lang/invoke/VarHandle" ∧ (parseMethodDescriptor y.desc).map (fun d => d.parameters.length) = some nn) (hn : As.length = nn)
    (hR : fr + 1 ≤ R.frames ∧ 8 + (maxL + 11) + lo ≤ R.locals) (hrc : cl + mc ≤ R.cells ∧ sl + ms ≤ R.slots) (hst : st = As.reverse ++ .ref (gbs g + o) :: rest) (hW : (rest.map fun v => v.category).sum ≤ 8) (hdg : decode cc pc = .ok (.invokevirtual index, 3))
    (kk : ∀ (n' : Nat) (f' : Nat → va_E), E n' f' → UU p l e R s mi args below meth c Q g nL n' f' (cl + mc) (sl + ms) (pc + 3) lv rest) : UU p l e R s mi args below meth c Q g nL n f cl sl pc lv st := fun H locs ls hP hS hl => by
  refine run_U (rest := rest) (va_runV (As := As) (rest := rest) ⟨C.1, C.2.1, C.2.2.1, C.2.2.2.1, C.2.2.2.2.1⟩ hC (cwV nn C.2.2.2.2.1 (gi_all (fun w hw => ?_)) rfl rfl rfl hd hR) ⟨WldU.blind, va_recv (D := g.1) (cl := vwCl) (ws := picN g n f) C.2.2.2.2.2.1.1 hP.2 hc ((picN_at ho).trans (by rw [he])), fun U hU hW => ⟨rfl, by rw [hU]; exact hP, WdU.warm hW C.2.2.2.2.2.1⟩⟩ rfl hn hl.1 hst (lv_room hW) hdg hrc) hS (fun n' f' H1 locs1 hE hP1 hS1 => kk n' f' hE H1 locs1 ls hP1 hS1 hl)
  simp only [wsV, List.mem_append, List.mem_cons, List.not_mem_nil, or_false] at hw
  rcases hw with (h | h | h | h) | h | h
  · exact h ▸ w1
  · exact h ▸ w2
  · exact h ▸ w3
  · exact h ▸ w4
  · exact h ▸ w5
  · exact h
theorem ku_rf {o : Nat} {r : Option Nat} (h : r = some o) (k : UU p l e R s mi args below meth c Q g nL n f cl sl pc lv (.ref o :: rest)) : UU p l e R s mi args below meth c Q g nL n f cl sl pc lv (va_rf r :: rest) := by
  rw [h]; exact k
end TU
