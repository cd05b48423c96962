/-! THE TURNS: x becomes x * 1103515245 + 12345; every worker that is left comes again and again -/
def nx (z : Nat) : Nat := (1103515245 * z + 12345) % 4294967296
def lx : Nat → Nat → Nat
  | 0, z => z
  | t + 1, z => lx t (nx z)
theorem nx_lt (z : Nat) : nx z < 4294967296 := Nat.mod_lt _ (by decide)
theorem lx_lt {z : Nat} (h : z < 4294967296) : ∀ t, lx t z < 4294967296 := by
  intro t
  induction t generalizing z with
  | zero => exact h
  | succ t ih => exact ih (nx_lt z)
theorem lx_add (s t z : Nat) : lx (s + t) z = lx t (lx s z) := by
  induction s generalizing z with
  | zero => rw [Nat.zero_add]; rfl
  | succ s ih => rw [show s + 1 + t = (s + t) + 1 by omega]; exact ih (nx z)
theorem aff_c (A C A' C' z : Nat) : (A * ((A' * z + C') % 4294967296) + C) % 4294967296 = ((A * A' % 4294967296) * z + (A * C' + C) % 4294967296) % 4294967296 := by
  have h1 : (A * ((A' * z + C') % 4294967296) + C) % 4294967296 = (A * (A' * z + C') + C) % 4294967296 := by
    rw [Nat.add_mod, Nat.mul_mod, Nat.mod_mod, ← Nat.mul_mod, ← Nat.add_mod]
  have h2 : ((A * A' % 4294967296) * z + (A * C' + C) % 4294967296) % 4294967296 = (A * A' * z + (A * C' + C)) % 4294967296 := by
    rw [Nat.add_mod, Nat.mul_mod, Nat.mod_mod, Nat.mod_mod, ← Nat.mul_mod, ← Nat.add_mod]
  rw [h1, h2, Nat.mul_add, Nat.mul_assoc, Nat.add_assoc]
theorem lj_0 (z : Nat) : lx 1 z = (1103515245 * z + 12345) % 4294967296 := rfl
theorem lj_1 (z : Nat) : lx 2 z = (3265436265 * z + 3554416254) % 4294967296 := by
  rw [show 2 = 1 + 1 from rfl, lx_add, lj_0, lj_0, aff_c]
theorem lj_2 (z : Nat) : lx 4 z = (3993403153 * z + 3596950572) % 4294967296 := by
  rw [show 4 = 2 + 2 from rfl, lx_add, lj_1, lj_1, aff_c]
theorem lj_3 (z : Nat) : lx 8 z = (3487424289 * z + 3441282840) % 4294967296 := by
  rw [show 8 = 4 + 4 from rfl, lx_add, lj_2, lj_2, aff_c]
theorem lj_4 (z : Nat) : lx 16 z = (1601471041 * z + 1695770928) % 4294967296 := by
  rw [show 16 = 8 + 8 from rfl, lx_add, lj_3, lj_3, aff_c]
theorem lj_5 (z : Nat) : lx 32 z = (2335052929 * z + 1680572000) % 4294967296 := by
  rw [show 32 = 16 + 16 from rfl, lx_add, lj_4, lj_4, aff_c]
theorem lj_6 (z : Nat) : lx 64 z = (1979738369 * z + 422948032) % 4294967296 := by
  rw [show 64 = 32 + 32 from rfl, lx_add, lj_5, lj_5, aff_c]
theorem lj_7 (z : Nat) : lx 128 z = (387043841 * z + 3058047360) % 4294967296 := by
  rw [show 128 = 64 + 64 from rfl, lx_add, lj_6, lj_6, aff_c]
theorem lj_8 (z : Nat) : lx 256 z = (3194463233 * z + 519516928) % 4294967296 := by
  rw [show 256 = 128 + 128 from rfl, lx_add, lj_7, lj_7, aff_c]
theorem lj_9 (z : Nat) : lx 512 z = (3722397697 * z + 530212352) % 4294967296 := by
  rw [show 512 = 256 + 256 from rfl, lx_add, lj_8, lj_8, aff_c]
theorem lj_10 (z : Nat) : lx 1024 z = (1073647617 * z + 2246364160) % 4294967296 := by
  rw [show 1024 = 512 + 512 from rfl, lx_add, lj_9, lj_9, aff_c]
theorem lj_11 (z : Nat) : lx 2048 z = (2432507905 * z + 646551552) % 4294967296 := by
  rw [show 2048 = 1024 + 1024 from rfl, lx_add, lj_10, lj_10, aff_c]
theorem lj_12 (z : Nat) : lx 4096 z = (1710899201 * z + 3088265216) % 4294967296 := by
  rw [show 4096 = 2048 + 2048 from rfl, lx_add, lj_11, lj_11, aff_c]
theorem lj_13 (z : Nat) : lx 8192 z = (3690233857 * z + 472276992) % 4294967296 := by
  rw [show 8192 = 4096 + 4096 from rfl, lx_add, lj_12, lj_12, aff_c]
theorem lj_14 (z : Nat) : lx 16384 z = (4159242241 * z + 3897344000) % 4294967296 := by
  rw [show 16384 = 8192 + 8192 from rfl, lx_add, lj_13, lj_13, aff_c]
theorem lj_15 (z : Nat) : lx 32768 z = (4023517185 * z + 2425978880) % 4294967296 := by
  rw [show 32768 = 16384 + 16384 from rfl, lx_add, lj_14, lj_14, aff_c]
theorem lj_16 (z : Nat) : lx 65536 z = (3752067073 * z + 556990464) % 4294967296 := by
  rw [show 65536 = 32768 + 32768 from rfl, lx_add, lj_15, lj_15, aff_c]
theorem stp (w d k k' e : Nat) (hd : d ∣ 4294967296) : (((1 + d * k) * w + (e + d * k')) % 4294967296) % d = (w + e) % d := by
  rw [Nat.mod_mod_of_dvd _ hd]
  have : (1 + d * k) * w + (e + d * k') = (w + e) + d * (k * w + k') := by
    rw [Nat.add_mul, Nat.one_mul, Nat.mul_add, Nat.mul_assoc]
    omega
  rw [this, Nat.add_mul_mod_self_left]
theorem mm64 (s lo : Nat) (h : lo < 65536) : (65536 * s + lo) % 4294967296 = 65536 * (s % 65536) + lo := by omega
theorem sj_0 (z v : Nat) : ∃ t, t < 1 ∧ lx t z % 1 = v % 1 := ⟨0, by decide, by omega⟩
theorem sj_1 (z v : Nat) : ∃ t, t < 2 ∧ lx t z % 2 = v % 2 := by
  obtain ⟨t, ht, e⟩ := sj_0 z v
  by_cases h : lx t z % 2 = v % 2
  · exact ⟨t, by omega, h⟩
  · refine ⟨t + 1, by omega, ?_⟩
    have h3 : lx (t + 1) z % 2 = (lx t z + 1) % 2 := by
      rw [lx_add, lj_0]
      exact stp (lx t z) 2 551757622 6172 1 (by decide)
    rw [h3]
    omega
theorem sj_2 (z v : Nat) : ∃ t, t < 4 ∧ lx t z % 4 = v % 4 := by
  obtain ⟨t, ht, e⟩ := sj_1 z v
  by_cases h : lx t z % 4 = v % 4
  · exact ⟨t, by omega, h⟩
  · refine ⟨t + 2, by omega, ?_⟩
    have h3 : lx (t + 2) z % 4 = (lx t z + 2) % 4 := by
      rw [lx_add, lj_1]
      exact stp (lx t z) 4 816359066 888604063 2 (by decide)
    rw [h3]
    omega
theorem sj_3 (z v : Nat) : ∃ t, t < 8 ∧ lx t z % 8 = v % 8 := by
  obtain ⟨t, ht, e⟩ := sj_2 z v
  by_cases h : lx t z % 8 = v % 8
  · exact ⟨t, by omega, h⟩
  · refine ⟨t + 4, by omega, ?_⟩
    have h3 : lx (t + 4) z % 8 = (lx t z + 4) % 8 := by
      rw [lx_add, lj_2]
      exact stp (lx t z) 8 499175394 449618821 4 (by decide)
    rw [h3]
    omega
theorem sj_4 (z v : Nat) : ∃ t, t < 16 ∧ lx t z % 16 = v % 16 := by
  obtain ⟨t, ht, e⟩ := sj_3 z v
  by_cases h : lx t z % 16 = v % 16
  · exact ⟨t, by omega, h⟩
  · refine ⟨t + 8, by omega, ?_⟩
    have h3 : lx (t + 8) z % 16 = (lx t z + 8) % 16 := by
      rw [lx_add, lj_3]
      exact stp (lx t z) 16 217964018 215080177 8 (by decide)
    rw [h3]
    omega
theorem sj_5 (z v : Nat) : ∃ t, t < 32 ∧ lx t z % 32 = v % 32 := by
  obtain ⟨t, ht, e⟩ := sj_4 z v
  by_cases h : lx t z % 32 = v % 32
  · exact ⟨t, by omega, h⟩
  · refine ⟨t + 16, by omega, ?_⟩
    have h3 : lx (t + 16) z % 32 = (lx t z + 16) % 32 := by
      rw [lx_add, lj_4]
      exact stp (lx t z) 32 50045970 52992841 16 (by decide)
    rw [h3]
    omega
theorem sj_6 (z v : Nat) : ∃ t, t < 64 ∧ lx t z % 64 = v % 64 := by
  obtain ⟨t, ht, e⟩ := sj_5 z v
  by_cases h : lx t z % 64 = v % 64
  · exact ⟨t, by omega, h⟩
  · refine ⟨t + 32, by omega, ?_⟩
    have h3 : lx (t + 32) z % 64 = (lx t z + 32) % 64 := by
      rw [lx_add, lj_5]
      exact stp (lx t z) 64 36485202 26258937 32 (by decide)
    rw [h3]
    omega
theorem sj_7 (z v : Nat) : ∃ t, t < 128 ∧ lx t z % 128 = v % 128 := by
  obtain ⟨t, ht, e⟩ := sj_6 z v
  by_cases h : lx t z % 128 = v % 128
  · exact ⟨t, by omega, h⟩
  · refine ⟨t + 64, by omega, ?_⟩
    have h3 : lx (t + 64) z % 128 = (lx t z + 64) % 128 := by
      rw [lx_add, lj_6]
      exact stp (lx t z) 128 15466706 3304281 64 (by decide)
    rw [h3]
    omega
theorem sj_8 (z v : Nat) : ∃ t, t < 256 ∧ lx t z % 256 = v % 256 := by
  obtain ⟨t, ht, e⟩ := sj_7 z v
  by_cases h : lx t z % 256 = v % 256
  · exact ⟨t, by omega, h⟩
  · refine ⟨t + 128, by omega, ?_⟩
    have h3 : lx (t + 128) z % 256 = (lx t z + 128) % 256 := by
      rw [lx_add, lj_7]
      exact stp (lx t z) 256 1511890 11945497 128 (by decide)
    rw [h3]
    omega
theorem sj_9 (z v : Nat) : ∃ t, t < 512 ∧ lx t z % 512 = v % 512 := by
  obtain ⟨t, ht, e⟩ := sj_8 z v
  by_cases h : lx t z % 512 = v % 512
  · exact ⟨t, by omega, h⟩
  · refine ⟨t + 256, by omega, ?_⟩
    have h3 : lx (t + 256) z % 512 = (lx t z + 256) % 512 := by
      rw [lx_add, lj_8]
      exact stp (lx t z) 512 6239186 1014681 256 (by decide)
    rw [h3]
    omega
theorem sj_10 (z v : Nat) : ∃ t, t < 1024 ∧ lx t z % 1024 = v % 1024 := by
  obtain ⟨t, ht, e⟩ := sj_9 z v
  by_cases h : lx t z % 1024 = v % 1024
  · exact ⟨t, by omega, h⟩
  · refine ⟨t + 512, by omega, ?_⟩
    have h3 : lx (t + 512) z % 1024 = (lx t z + 512) % 1024 := by
      rw [lx_add, lj_9]
      exact stp (lx t z) 1024 3635154 517785 512 (by decide)
    rw [h3]
    omega
theorem sj_11 (z v : Nat) : ∃ t, t < 2048 ∧ lx t z % 2048 = v % 2048 := by
  obtain ⟨t, ht, e⟩ := sj_10 z v
  by_cases h : lx t z % 2048 = v % 2048
  · exact ⟨t, by omega, h⟩
  · refine ⟨t + 1024, by omega, ?_⟩
    have h3 : lx (t + 1024) z % 2048 = (lx t z + 1024) % 2048 := by
      rw [lx_add, lj_10]
      exact stp (lx t z) 2048 524242 1096857 1024 (by decide)
    rw [h3]
    omega
theorem sj_12 (z v : Nat) : ∃ t, t < 4096 ∧ lx t z % 4096 = v % 4096 := by
  obtain ⟨t, ht, e⟩ := sj_11 z v
  by_cases h : lx t z % 4096 = v % 4096
  · exact ⟨t, by omega, h⟩
  · refine ⟨t + 2048, by omega, ?_⟩
    have h3 : lx (t + 2048) z % 4096 = (lx t z + 2048) % 4096 := by
      rw [lx_add, lj_11]
      exact stp (lx t z) 4096 593874 157849 2048 (by decide)
    rw [h3]
    omega
theorem sj_13 (z v : Nat) : ∃ t, t < 8192 ∧ lx t z % 8192 = v % 8192 := by
  obtain ⟨t, ht, e⟩ := sj_12 z v
  by_cases h : lx t z % 8192 = v % 8192
  · exact ⟨t, by omega, h⟩
  · refine ⟨t + 4096, by omega, ?_⟩
    have h3 : lx (t + 4096) z % 8192 = (lx t z + 4096) % 8192 := by
      rw [lx_add, lj_12]
      exact stp (lx t z) 8192 208850 376985 4096 (by decide)
    rw [h3]
    omega
theorem sj_14 (z v : Nat) : ∃ t, t < 16384 ∧ lx t z % 16384 = v % 16384 := by
  obtain ⟨t, ht, e⟩ := sj_13 z v
  by_cases h : lx t z % 16384 = v % 16384
  · exact ⟨t, by omega, h⟩
  · refine ⟨t + 8192, by omega, ?_⟩
    have h3 : lx (t + 8192) z % 16384 = (lx t z + 8192) % 16384 := by
      rw [lx_add, lj_13]
      exact stp (lx t z) 16384 225234 28825 8192 (by decide)
    rw [h3]
    omega
theorem sj_15 (z v : Nat) : ∃ t, t < 32768 ∧ lx t z % 32768 = v % 32768 := by
  obtain ⟨t, ht, e⟩ := sj_14 z v
  by_cases h : lx t z % 32768 = v % 32768
  · exact ⟨t, by omega, h⟩
  · refine ⟨t + 16384, by omega, ?_⟩
    have h3 : lx (t + 16384) z % 32768 = (lx t z + 16384) % 32768 := by
      rw [lx_add, lj_14]
      exact stp (lx t z) 32768 126930 118937 16384 (by decide)
    rw [h3]
    omega
theorem sj_16 (z v : Nat) : ∃ t, t < 65536 ∧ lx t z % 65536 = v % 65536 := by
  obtain ⟨t, ht, e⟩ := sj_15 z v
  by_cases h : lx t z % 65536 = v % 65536
  · exact ⟨t, by omega, h⟩
  · refine ⟨t + 32768, by omega, ?_⟩
    have h3 : lx (t + 32768) z % 65536 = (lx t z + 32768) % 65536 := by
      rw [lx_add, lj_15]
      exact stp (lx t z) 65536 61394 37017 32768 (by decide)
    rw [h3]
    omega
theorem jp_3387 (y : Nat) : lx 65536 (65536 * y + 3387) = 65536 * ((y + 65535) % 65536) + 3387 := by
  rw [lj_16, show 3752067073 * (65536 * y + 3387) + 556990464 = (65536 * (y + 65535) + 3387) + 4294967296 * (57252 * y + 2958) by omega, Nat.add_mul_mod_self_left]
  exact mm64 _ _ (by decide)
theorem jp_19771 (y : Nat) : lx 65536 (65536 * y + 19771) = 65536 * ((y + 65535) % 65536) + 19771 := by
  rw [lj_16, show 3752067073 * (65536 * y + 19771) + 556990464 = (65536 * (y + 65535) + 19771) + 4294967296 * (57252 * y + 17271) by omega, Nat.add_mul_mod_self_left]
  exact mm64 _ _ (by decide)
theorem jp_36155 (y : Nat) : lx 65536 (65536 * y + 36155) = 65536 * ((y + 65535) % 65536) + 36155 := by
  rw [lj_16, show 3752067073 * (65536 * y + 36155) + 556990464 = (65536 * (y + 65535) + 36155) + 4294967296 * (57252 * y + 31584) by omega, Nat.add_mul_mod_self_left]
  exact mm64 _ _ (by decide)
theorem jp_52539 (y : Nat) : lx 65536 (65536 * y + 52539) = 65536 * ((y + 65535) % 65536) + 52539 := by
  rw [lj_16, show 3752067073 * (65536 * y + 52539) + 556990464 = (65536 * (y + 65535) + 52539) + 4294967296 * (57252 * y + 45897) by omega, Nat.add_mul_mod_self_left]
  exact mm64 _ _ (by decide)
theorem jp_11757 (y : Nat) : lx 65536 (65536 * y + 11757) = 65536 * ((y + 7) % 65536) + 11757 := by
  rw [lj_16, show 3752067073 * (65536 * y + 11757) + 556990464 = (65536 * (y + 7) + 11757) + 4294967296 * (57252 * y + 10271) by omega, Nat.add_mul_mod_self_left]
  exact mm64 _ _ (by decide)
theorem jp_28141 (y : Nat) : lx 65536 (65536 * y + 28141) = 65536 * ((y + 7) % 65536) + 28141 := by
  rw [lj_16, show 3752067073 * (65536 * y + 28141) + 556990464 = (65536 * (y + 7) + 28141) + 4294967296 * (57252 * y + 24584) by omega, Nat.add_mul_mod_self_left]
  exact mm64 _ _ (by decide)
theorem jp_44525 (y : Nat) : lx 65536 (65536 * y + 44525) = 65536 * ((y + 7) % 65536) + 44525 := by
  rw [lj_16, show 3752067073 * (65536 * y + 44525) + 556990464 = (65536 * (y + 7) + 44525) + 4294967296 * (57252 * y + 38897) by omega, Nat.add_mul_mod_self_left]
  exact mm64 _ _ (by decide)
theorem jp_60909 (y : Nat) : lx 65536 (65536 * y + 60909) = 65536 * ((y + 7) % 65536) + 60909 := by
  rw [lj_16, show 3752067073 * (65536 * y + 60909) + 556990464 = (65536 * (y + 7) + 60909) + 4294967296 * (57252 * y + 53210) by omega, Nat.add_mul_mod_self_left]
  exact mm64 _ _ (by decide)
def pos (n z : Nat) : Nat := z / 65536 % n
theorem pos_at (n y lo : Nat) (h : lo < 65536) : pos n (65536 * y + lo) = y % n := by
  unfold pos
  rw [show (65536 * y + lo) / 65536 = y by omega]
theorem hit_65535 (n p y : Nat) (h2 : 2 ≤ n) (h4 : n ≤ 4) (hp : p < n) (hy : y < 65536) : y % n = p ∨ (y + 65535) % 65536 % n = p ∨ ((y + 65535) % 65536 + 65535) % 65536 % n = p ∨ (((y + 65535) % 65536 + 65535) % 65536 + 65535) % 65536 % n = p ∨ ((((y + 65535) % 65536 + 65535) % 65536 + 65535) % 65536 + 65535) % 65536 % n = p := by
  generalize h1 : (y + 65535) % 65536 = a1
  generalize h2 : (a1 + 65535) % 65536 = a2
  generalize h3 : (a2 + 65535) % 65536 = a3
  generalize h4 : (a3 + 65535) % 65536 = a4
  have q1 : a1 = y + 65535 ∨ a1 + 65536 = y + 65535 := by omega
  have q2 : a2 = a1 + 65535 ∨ a2 + 65536 = a1 + 65535 := by omega
  have q3 : a3 = a2 + 65535 ∨ a3 + 65536 = a2 + 65535 := by omega
  have q4 : a4 = a3 + 65535 ∨ a4 + 65536 = a3 + 65535 := by omega
  have b1 : a1 < 65536 := by omega
  have b2 : a2 < 65536 := by omega
  have b3 : a3 < 65536 := by omega
  have b4 : a4 < 65536 := by omega
  clear h1 h2 h3 h4
  rcases (show n = 2 ∨ n = 3 ∨ n = 4 by omega) with rfl | rfl | rfl <;> rcases q1 with q1 | q1 <;> rcases q2 with q2 | q2 <;> rcases q3 with q3 | q3 <;> rcases q4 with q4 | q4 <;> omega
theorem hit_7 (n p y : Nat) (h2 : 2 ≤ n) (h4 : n ≤ 4) (hp : p < n) (hy : y < 65536) : y % n = p ∨ (y + 7) % 65536 % n = p ∨ ((y + 7) % 65536 + 7) % 65536 % n = p ∨ (((y + 7) % 65536 + 7) % 65536 + 7) % 65536 % n = p ∨ ((((y + 7) % 65536 + 7) % 65536 + 7) % 65536 + 7) % 65536 % n = p := by
  generalize h1 : (y + 7) % 65536 = a1
  generalize h2 : (a1 + 7) % 65536 = a2
  generalize h3 : (a2 + 7) % 65536 = a3
  generalize h4 : (a3 + 7) % 65536 = a4
  have q1 : a1 = y + 7 ∨ a1 + 65536 = y + 7 := by omega
  have q2 : a2 = a1 + 7 ∨ a2 + 65536 = a1 + 7 := by omega
  have q3 : a3 = a2 + 7 ∨ a3 + 65536 = a2 + 7 := by omega
  have q4 : a4 = a3 + 7 ∨ a4 + 65536 = a3 + 7 := by omega
  have b1 : a1 < 65536 := by omega
  have b2 : a2 < 65536 := by omega
  have b3 : a3 < 65536 := by omega
  have b4 : a4 < 65536 := by omega
  clear h1 h2 h3 h4
  rcases (show n = 2 ∨ n = 3 ∨ n = 4 by omega) with rfl | rfl | rfl <;> rcases q1 with q1 | q1 <;> rcases q2 with q2 | q2 <;> rcases q3 with q3 | q3 <;> rcases q4 with q4 | q4 <;> omega
theorem ht_3387 (n p z : Nat) (h2 : 2 ≤ n) (h4 : n ≤ 4) (hp : p < n) (hz : z < 4294967296) : ∃ t, t < 327680 ∧ lx (t % 65536) z % 65536 = 3387 ∧ pos n (lx t z) = p := by
  obtain ⟨k, hk, e⟩ := sj_16 z 3387
  have e : lx k z % 65536 = 3387 := e
  have hlt := lx_lt hz k
  obtain ⟨y, hy, ey⟩ : ∃ y, y < 65536 ∧ lx k z = 65536 * y + 3387 := ⟨lx k z / 65536, by omega, by omega⟩
  have j1 : lx (k + 65536) z = 65536 * ((y + 65535) % 65536) + 3387 := by rw [lx_add, ey, jp_3387]
  have j2 : lx (k + 131072) z = 65536 * (((y + 65535) % 65536 + 65535) % 65536) + 3387 := by rw [show k + 131072 = (k + 65536) + 65536 by omega, lx_add, j1, jp_3387]
  have j3 : lx (k + 196608) z = 65536 * ((((y + 65535) % 65536 + 65535) % 65536 + 65535) % 65536) + 3387 := by rw [show k + 196608 = (k + 131072) + 65536 by omega, lx_add, j2, jp_3387]
  have j4 : lx (k + 262144) z = 65536 * (((((y + 65535) % 65536 + 65535) % 65536 + 65535) % 65536 + 65535) % 65536) + 3387 := by rw [show k + 262144 = (k + 196608) + 65536 by omega, lx_add, j3, jp_3387]
  rcases hit_65535 n p y h2 h4 hp hy with h | h | h | h | h
  · exact ⟨k, by omega, by rw [show k % 65536 = k by omega]; exact e, by rw [ey, pos_at _ _ _ (by decide)]; exact h⟩
  · exact ⟨k + 65536, by omega, by rw [show (k + 65536) % 65536 = k by omega]; exact e, by rw [j1, pos_at _ _ _ (by decide)]; exact h⟩
  · exact ⟨k + 131072, by omega, by rw [show (k + 131072) % 65536 = k by omega]; exact e, by rw [j2, pos_at _ _ _ (by decide)]; exact h⟩
  · exact ⟨k + 196608, by omega, by rw [show (k + 196608) % 65536 = k by omega]; exact e, by rw [j3, pos_at _ _ _ (by decide)]; exact h⟩
  · exact ⟨k + 262144, by omega, by rw [show (k + 262144) % 65536 = k by omega]; exact e, by rw [j4, pos_at _ _ _ (by decide)]; exact h⟩
theorem ht_19771 (n p z : Nat) (h2 : 2 ≤ n) (h4 : n ≤ 4) (hp : p < n) (hz : z < 4294967296) : ∃ t, t < 327680 ∧ lx (t % 65536) z % 65536 = 19771 ∧ pos n (lx t z) = p := by
  obtain ⟨k, hk, e⟩ := sj_16 z 19771
  have e : lx k z % 65536 = 19771 := e
  have hlt := lx_lt hz k
  obtain ⟨y, hy, ey⟩ : ∃ y, y < 65536 ∧ lx k z = 65536 * y + 19771 := ⟨lx k z / 65536, by omega, by omega⟩
  have j1 : lx (k + 65536) z = 65536 * ((y + 65535) % 65536) + 19771 := by rw [lx_add, ey, jp_19771]
  have j2 : lx (k + 131072) z = 65536 * (((y + 65535) % 65536 + 65535) % 65536) + 19771 := by rw [show k + 131072 = (k + 65536) + 65536 by omega, lx_add, j1, jp_19771]
  have j3 : lx (k + 196608) z = 65536 * ((((y + 65535) % 65536 + 65535) % 65536 + 65535) % 65536) + 19771 := by rw [show k + 196608 = (k + 131072) + 65536 by omega, lx_add, j2, jp_19771]
  have j4 : lx (k + 262144) z = 65536 * (((((y + 65535) % 65536 + 65535) % 65536 + 65535) % 65536 + 65535) % 65536) + 19771 := by rw [show k + 262144 = (k + 196608) + 65536 by omega, lx_add, j3, jp_19771]
  rcases hit_65535 n p y h2 h4 hp hy with h | h | h | h | h
  · exact ⟨k, by omega, by rw [show k % 65536 = k by omega]; exact e, by rw [ey, pos_at _ _ _ (by decide)]; exact h⟩
  · exact ⟨k + 65536, by omega, by rw [show (k + 65536) % 65536 = k by omega]; exact e, by rw [j1, pos_at _ _ _ (by decide)]; exact h⟩
  · exact ⟨k + 131072, by omega, by rw [show (k + 131072) % 65536 = k by omega]; exact e, by rw [j2, pos_at _ _ _ (by decide)]; exact h⟩
  · exact ⟨k + 196608, by omega, by rw [show (k + 196608) % 65536 = k by omega]; exact e, by rw [j3, pos_at _ _ _ (by decide)]; exact h⟩
  · exact ⟨k + 262144, by omega, by rw [show (k + 262144) % 65536 = k by omega]; exact e, by rw [j4, pos_at _ _ _ (by decide)]; exact h⟩
theorem ht_36155 (n p z : Nat) (h2 : 2 ≤ n) (h4 : n ≤ 4) (hp : p < n) (hz : z < 4294967296) : ∃ t, t < 327680 ∧ lx (t % 65536) z % 65536 = 36155 ∧ pos n (lx t z) = p := by
  obtain ⟨k, hk, e⟩ := sj_16 z 36155
  have e : lx k z % 65536 = 36155 := e
  have hlt := lx_lt hz k
  obtain ⟨y, hy, ey⟩ : ∃ y, y < 65536 ∧ lx k z = 65536 * y + 36155 := ⟨lx k z / 65536, by omega, by omega⟩
  have j1 : lx (k + 65536) z = 65536 * ((y + 65535) % 65536) + 36155 := by rw [lx_add, ey, jp_36155]
  have j2 : lx (k + 131072) z = 65536 * (((y + 65535) % 65536 + 65535) % 65536) + 36155 := by rw [show k + 131072 = (k + 65536) + 65536 by omega, lx_add, j1, jp_36155]
  have j3 : lx (k + 196608) z = 65536 * ((((y + 65535) % 65536 + 65535) % 65536 + 65535) % 65536) + 36155 := by rw [show k + 196608 = (k + 131072) + 65536 by omega, lx_add, j2, jp_36155]
  have j4 : lx (k + 262144) z = 65536 * (((((y + 65535) % 65536 + 65535) % 65536 + 65535) % 65536 + 65535) % 65536) + 36155 := by rw [show k + 262144 = (k + 196608) + 65536 by omega, lx_add, j3, jp_36155]
  rcases hit_65535 n p y h2 h4 hp hy with h | h | h | h | h
  · exact ⟨k, by omega, by rw [show k % 65536 = k by omega]; exact e, by rw [ey, pos_at _ _ _ (by decide)]; exact h⟩
  · exact ⟨k + 65536, by omega, by rw [show (k + 65536) % 65536 = k by omega]; exact e, by rw [j1, pos_at _ _ _ (by decide)]; exact h⟩
  · exact ⟨k + 131072, by omega, by rw [show (k + 131072) % 65536 = k by omega]; exact e, by rw [j2, pos_at _ _ _ (by decide)]; exact h⟩
  · exact ⟨k + 196608, by omega, by rw [show (k + 196608) % 65536 = k by omega]; exact e, by rw [j3, pos_at _ _ _ (by decide)]; exact h⟩
  · exact ⟨k + 262144, by omega, by rw [show (k + 262144) % 65536 = k by omega]; exact e, by rw [j4, pos_at _ _ _ (by decide)]; exact h⟩
theorem ht_52539 (n p z : Nat) (h2 : 2 ≤ n) (h4 : n ≤ 4) (hp : p < n) (hz : z < 4294967296) : ∃ t, t < 327680 ∧ lx (t % 65536) z % 65536 = 52539 ∧ pos n (lx t z) = p := by
  obtain ⟨k, hk, e⟩ := sj_16 z 52539
  have e : lx k z % 65536 = 52539 := e
  have hlt := lx_lt hz k
  obtain ⟨y, hy, ey⟩ : ∃ y, y < 65536 ∧ lx k z = 65536 * y + 52539 := ⟨lx k z / 65536, by omega, by omega⟩
  have j1 : lx (k + 65536) z = 65536 * ((y + 65535) % 65536) + 52539 := by rw [lx_add, ey, jp_52539]
  have j2 : lx (k + 131072) z = 65536 * (((y + 65535) % 65536 + 65535) % 65536) + 52539 := by rw [show k + 131072 = (k + 65536) + 65536 by omega, lx_add, j1, jp_52539]
  have j3 : lx (k + 196608) z = 65536 * ((((y + 65535) % 65536 + 65535) % 65536 + 65535) % 65536) + 52539 := by rw [show k + 196608 = (k + 131072) + 65536 by omega, lx_add, j2, jp_52539]
  have j4 : lx (k + 262144) z = 65536 * (((((y + 65535) % 65536 + 65535) % 65536 + 65535) % 65536 + 65535) % 65536) + 52539 := by rw [show k + 262144 = (k + 196608) + 65536 by omega, lx_add, j3, jp_52539]
  rcases hit_65535 n p y h2 h4 hp hy with h | h | h | h | h
  · exact ⟨k, by omega, by rw [show k % 65536 = k by omega]; exact e, by rw [ey, pos_at _ _ _ (by decide)]; exact h⟩
  · exact ⟨k + 65536, by omega, by rw [show (k + 65536) % 65536 = k by omega]; exact e, by rw [j1, pos_at _ _ _ (by decide)]; exact h⟩
  · exact ⟨k + 131072, by omega, by rw [show (k + 131072) % 65536 = k by omega]; exact e, by rw [j2, pos_at _ _ _ (by decide)]; exact h⟩
  · exact ⟨k + 196608, by omega, by rw [show (k + 196608) % 65536 = k by omega]; exact e, by rw [j3, pos_at _ _ _ (by decide)]; exact h⟩
  · exact ⟨k + 262144, by omega, by rw [show (k + 262144) % 65536 = k by omega]; exact e, by rw [j4, pos_at _ _ _ (by decide)]; exact h⟩
theorem ht_11757 (n p z : Nat) (h2 : 2 ≤ n) (h4 : n ≤ 4) (hp : p < n) (hz : z < 4294967296) : ∃ t, t < 327680 ∧ lx (t % 65536) z % 65536 = 11757 ∧ pos n (lx t z) = p := by
  obtain ⟨k, hk, e⟩ := sj_16 z 11757
  have e : lx k z % 65536 = 11757 := e
  have hlt := lx_lt hz k
  obtain ⟨y, hy, ey⟩ : ∃ y, y < 65536 ∧ lx k z = 65536 * y + 11757 := ⟨lx k z / 65536, by omega, by omega⟩
  have j1 : lx (k + 65536) z = 65536 * ((y + 7) % 65536) + 11757 := by rw [lx_add, ey, jp_11757]
  have j2 : lx (k + 131072) z = 65536 * (((y + 7) % 65536 + 7) % 65536) + 11757 := by rw [show k + 131072 = (k + 65536) + 65536 by omega, lx_add, j1, jp_11757]
  have j3 : lx (k + 196608) z = 65536 * ((((y + 7) % 65536 + 7) % 65536 + 7) % 65536) + 11757 := by rw [show k + 196608 = (k + 131072) + 65536 by omega, lx_add, j2, jp_11757]
  have j4 : lx (k + 262144) z = 65536 * (((((y + 7) % 65536 + 7) % 65536 + 7) % 65536 + 7) % 65536) + 11757 := by rw [show k + 262144 = (k + 196608) + 65536 by omega, lx_add, j3, jp_11757]
  rcases hit_7 n p y h2 h4 hp hy with h | h | h | h | h
  · exact ⟨k, by omega, by rw [show k % 65536 = k by omega]; exact e, by rw [ey, pos_at _ _ _ (by decide)]; exact h⟩
  · exact ⟨k + 65536, by omega, by rw [show (k + 65536) % 65536 = k by omega]; exact e, by rw [j1, pos_at _ _ _ (by decide)]; exact h⟩
  · exact ⟨k + 131072, by omega, by rw [show (k + 131072) % 65536 = k by omega]; exact e, by rw [j2, pos_at _ _ _ (by decide)]; exact h⟩
  · exact ⟨k + 196608, by omega, by rw [show (k + 196608) % 65536 = k by omega]; exact e, by rw [j3, pos_at _ _ _ (by decide)]; exact h⟩
  · exact ⟨k + 262144, by omega, by rw [show (k + 262144) % 65536 = k by omega]; exact e, by rw [j4, pos_at _ _ _ (by decide)]; exact h⟩
theorem ht_28141 (n p z : Nat) (h2 : 2 ≤ n) (h4 : n ≤ 4) (hp : p < n) (hz : z < 4294967296) : ∃ t, t < 327680 ∧ lx (t % 65536) z % 65536 = 28141 ∧ pos n (lx t z) = p := by
  obtain ⟨k, hk, e⟩ := sj_16 z 28141
  have e : lx k z % 65536 = 28141 := e
  have hlt := lx_lt hz k
  obtain ⟨y, hy, ey⟩ : ∃ y, y < 65536 ∧ lx k z = 65536 * y + 28141 := ⟨lx k z / 65536, by omega, by omega⟩
  have j1 : lx (k + 65536) z = 65536 * ((y + 7) % 65536) + 28141 := by rw [lx_add, ey, jp_28141]
  have j2 : lx (k + 131072) z = 65536 * (((y + 7) % 65536 + 7) % 65536) + 28141 := by rw [show k + 131072 = (k + 65536) + 65536 by omega, lx_add, j1, jp_28141]
  have j3 : lx (k + 196608) z = 65536 * ((((y + 7) % 65536 + 7) % 65536 + 7) % 65536) + 28141 := by rw [show k + 196608 = (k + 131072) + 65536 by omega, lx_add, j2, jp_28141]
  have j4 : lx (k + 262144) z = 65536 * (((((y + 7) % 65536 + 7) % 65536 + 7) % 65536 + 7) % 65536) + 28141 := by rw [show k + 262144 = (k + 196608) + 65536 by omega, lx_add, j3, jp_28141]
  rcases hit_7 n p y h2 h4 hp hy with h | h | h | h | h
  · exact ⟨k, by omega, by rw [show k % 65536 = k by omega]; exact e, by rw [ey, pos_at _ _ _ (by decide)]; exact h⟩
  · exact ⟨k + 65536, by omega, by rw [show (k + 65536) % 65536 = k by omega]; exact e, by rw [j1, pos_at _ _ _ (by decide)]; exact h⟩
  · exact ⟨k + 131072, by omega, by rw [show (k + 131072) % 65536 = k by omega]; exact e, by rw [j2, pos_at _ _ _ (by decide)]; exact h⟩
  · exact ⟨k + 196608, by omega, by rw [show (k + 196608) % 65536 = k by omega]; exact e, by rw [j3, pos_at _ _ _ (by decide)]; exact h⟩
  · exact ⟨k + 262144, by omega, by rw [show (k + 262144) % 65536 = k by omega]; exact e, by rw [j4, pos_at _ _ _ (by decide)]; exact h⟩
theorem ht_44525 (n p z : Nat) (h2 : 2 ≤ n) (h4 : n ≤ 4) (hp : p < n) (hz : z < 4294967296) : ∃ t, t < 327680 ∧ lx (t % 65536) z % 65536 = 44525 ∧ pos n (lx t z) = p := by
  obtain ⟨k, hk, e⟩ := sj_16 z 44525
  have e : lx k z % 65536 = 44525 := e
  have hlt := lx_lt hz k
  obtain ⟨y, hy, ey⟩ : ∃ y, y < 65536 ∧ lx k z = 65536 * y + 44525 := ⟨lx k z / 65536, by omega, by omega⟩
  have j1 : lx (k + 65536) z = 65536 * ((y + 7) % 65536) + 44525 := by rw [lx_add, ey, jp_44525]
  have j2 : lx (k + 131072) z = 65536 * (((y + 7) % 65536 + 7) % 65536) + 44525 := by rw [show k + 131072 = (k + 65536) + 65536 by omega, lx_add, j1, jp_44525]
  have j3 : lx (k + 196608) z = 65536 * ((((y + 7) % 65536 + 7) % 65536 + 7) % 65536) + 44525 := by rw [show k + 196608 = (k + 131072) + 65536 by omega, lx_add, j2, jp_44525]
  have j4 : lx (k + 262144) z = 65536 * (((((y + 7) % 65536 + 7) % 65536 + 7) % 65536 + 7) % 65536) + 44525 := by rw [show k + 262144 = (k + 196608) + 65536 by omega, lx_add, j3, jp_44525]
  rcases hit_7 n p y h2 h4 hp hy with h | h | h | h | h
  · exact ⟨k, by omega, by rw [show k % 65536 = k by omega]; exact e, by rw [ey, pos_at _ _ _ (by decide)]; exact h⟩
  · exact ⟨k + 65536, by omega, by rw [show (k + 65536) % 65536 = k by omega]; exact e, by rw [j1, pos_at _ _ _ (by decide)]; exact h⟩
  · exact ⟨k + 131072, by omega, by rw [show (k + 131072) % 65536 = k by omega]; exact e, by rw [j2, pos_at _ _ _ (by decide)]; exact h⟩
  · exact ⟨k + 196608, by omega, by rw [show (k + 196608) % 65536 = k by omega]; exact e, by rw [j3, pos_at _ _ _ (by decide)]; exact h⟩
  · exact ⟨k + 262144, by omega, by rw [show (k + 262144) % 65536 = k by omega]; exact e, by rw [j4, pos_at _ _ _ (by decide)]; exact h⟩
theorem ht_60909 (n p z : Nat) (h2 : 2 ≤ n) (h4 : n ≤ 4) (hp : p < n) (hz : z < 4294967296) : ∃ t, t < 327680 ∧ lx (t % 65536) z % 65536 = 60909 ∧ pos n (lx t z) = p := by
  obtain ⟨k, hk, e⟩ := sj_16 z 60909
  have e : lx k z % 65536 = 60909 := e
  have hlt := lx_lt hz k
  obtain ⟨y, hy, ey⟩ : ∃ y, y < 65536 ∧ lx k z = 65536 * y + 60909 := ⟨lx k z / 65536, by omega, by omega⟩
  have j1 : lx (k + 65536) z = 65536 * ((y + 7) % 65536) + 60909 := by rw [lx_add, ey, jp_60909]
  have j2 : lx (k + 131072) z = 65536 * (((y + 7) % 65536 + 7) % 65536) + 60909 := by rw [show k + 131072 = (k + 65536) + 65536 by omega, lx_add, j1, jp_60909]
  have j3 : lx (k + 196608) z = 65536 * ((((y + 7) % 65536 + 7) % 65536 + 7) % 65536) + 60909 := by rw [show k + 196608 = (k + 131072) + 65536 by omega, lx_add, j2, jp_60909]
  have j4 : lx (k + 262144) z = 65536 * (((((y + 7) % 65536 + 7) % 65536 + 7) % 65536 + 7) % 65536) + 60909 := by rw [show k + 262144 = (k + 196608) + 65536 by omega, lx_add, j3, jp_60909]
  rcases hit_7 n p y h2 h4 hp hy with h | h | h | h | h
  · exact ⟨k, by omega, by rw [show k % 65536 = k by omega]; exact e, by rw [ey, pos_at _ _ _ (by decide)]; exact h⟩
  · exact ⟨k + 65536, by omega, by rw [show (k + 65536) % 65536 = k by omega]; exact e, by rw [j1, pos_at _ _ _ (by decide)]; exact h⟩
  · exact ⟨k + 131072, by omega, by rw [show (k + 131072) % 65536 = k by omega]; exact e, by rw [j2, pos_at _ _ _ (by decide)]; exact h⟩
  · exact ⟨k + 196608, by omega, by rw [show (k + 196608) % 65536 = k by omega]; exact e, by rw [j3, pos_at _ _ _ (by decide)]; exact h⟩
  · exact ⟨k + 262144, by omega, by rw [show (k + 262144) % 65536 = k by omega]; exact e, by rw [j4, pos_at _ _ _ (by decide)]; exact h⟩
def cn (P : Nat → Bool) : Nat → Nat
  | 0 => 0
  | t + 1 => cn P t + (if P t then 1 else 0)
theorem cn_list (P : Nat → Bool) : ∀ (T : Nat) (l : List Nat), l.Nodup → (∀ t ∈ l, t < T ∧ P t = true) → l.length ≤ cn P T := by
  intro T
  induction T with
  | zero =>
    intro l hl h
    cases l with
    | nil => exact Nat.le_refl _
    | cons a l => exact absurd (h a List.mem_cons_self).1 (Nat.not_lt_zero a)
  | succ T ih =>
    intro l hl h
    by_cases hT : T ∈ l
    · have h1 := ih (l.erase T) (hl.erase T) (fun t ht => by
        have hm := List.mem_of_mem_erase ht
        have hne : t ≠ T := fun e => by subst e; exact (List.Nodup.not_mem_erase hl) ht
        have := h t hm
        exact ⟨by omega, this.2⟩)
      rw [List.length_erase_of_mem hT] at h1
      have h2 : P T = true := (h T hT).2
      show l.length ≤ cn P T + (if P T = true then 1 else 0)
      rw [if_pos h2]
      omega
    · have h1 := ih l hl (fun t ht => by
        have := h t ht
        have hne : t ≠ T := fun e => hT (e ▸ ht)
        exact ⟨by omega, this.2⟩)
      show l.length ≤ cn P T + _
      omega
/-- how often, in the next T turns, the place p of n comes -/
def hc (n p : Nat) : Nat → Nat → Nat
  | 0, _ => 0
  | t + 1, z => (if pos n (nx z) = p then 1 else 0) + hc n p t (nx z)
theorem hc_cn (n p : Nat) : ∀ (t z : Nat), hc n p t z = cn (fun q => decide (pos n (lx (q + 1) z) = p)) t := by
  have key : ∀ (t z : Nat), hc n p (t + 1) z = hc n p t z + (if pos n (lx (t + 1) z) = p then 1 else 0) := by
    intro t
    induction t with
    | zero =>
      intro z
      show (if pos n (nx z) = p then 1 else 0) + 0 = 0 + (if pos n (lx 1 z) = p then 1 else 0)
      rw [Nat.zero_add]; rfl
    | succ t ih =>
      intro z
      have h1 : hc n p (t + 1 + 1) z = (if pos n (nx z) = p then 1 else 0) + hc n p (t + 1) (nx z) := rfl
      have h2 : hc n p (t + 1) z = (if pos n (nx z) = p then 1 else 0) + hc n p t (nx z) := rfl
      rw [h1, ih (nx z), h2]
      show _ = _ + (if pos n (lx (t + 1) (nx z)) = p then 1 else 0)
      omega
  intro t
  induction t with
  | zero => intro z; rfl
  | succ t ih =>
    intro z
    rw [key, ih]
    simp [cn]
theorem hits (n p z : Nat) (h2 : 2 ≤ n) (h4 : n ≤ 4) (hp : p < n) : 8 ≤ hc n p 327680 z := by
  have hz := nx_lt z
  obtain ⟨t0, a0, b0, c0⟩ := ht_3387 n p (nx z) h2 h4 hp hz
  obtain ⟨t1, a1, b1, c1⟩ := ht_19771 n p (nx z) h2 h4 hp hz
  obtain ⟨t2, a2, b2, c2⟩ := ht_36155 n p (nx z) h2 h4 hp hz
  obtain ⟨t3, a3, b3, c3⟩ := ht_52539 n p (nx z) h2 h4 hp hz
  obtain ⟨t4, a4, b4, c4⟩ := ht_11757 n p (nx z) h2 h4 hp hz
  obtain ⟨t5, a5, b5, c5⟩ := ht_28141 n p (nx z) h2 h4 hp hz
  obtain ⟨t6, a6, b6, c6⟩ := ht_44525 n p (nx z) h2 h4 hp hz
  obtain ⟨t7, a7, b7, c7⟩ := ht_60909 n p (nx z) h2 h4 hp hz
  rw [hc_cn]
  refine cn_list _ 327680 [t0, t1, t2, t3, t4, t5, t6, t7] ?_ ?_
  · have ne : ∀ {x y : Nat} {u v : Nat}, lx (x % 65536) (nx z) % 65536 = u → lx (y % 65536) (nx z) % 65536 = v → u ≠ v → x ≠ y := fun hx hy huv e => huv (by rw [← hx, ← hy, e])
    simp only [List.nodup_cons, List.mem_cons, List.not_mem_nil, or_false, not_or, not_false_eq_true, List.nodup_nil, and_true]
    exact ⟨⟨ne b0 b1 (by decide), ne b0 b2 (by decide), ne b0 b3 (by decide), ne b0 b4 (by decide), ne b0 b5 (by decide), ne b0 b6 (by decide), ne b0 b7 (by decide)⟩, ⟨ne b1 b2 (by decide), ne b1 b3 (by decide), ne b1 b4 (by decide), ne b1 b5 (by decide), ne b1 b6 (by decide), ne b1 b7 (by decide)⟩, ⟨ne b2 b3 (by decide), ne b2 b4 (by decide), ne b2 b5 (by decide), ne b2 b6 (by decide), ne b2 b7 (by decide)⟩, ⟨ne b3 b4 (by decide), ne b3 b5 (by decide), ne b3 b6 (by decide), ne b3 b7 (by decide)⟩, ⟨ne b4 b5 (by decide), ne b4 b6 (by decide), ne b4 b7 (by decide)⟩, ⟨ne b5 b6 (by decide), ne b5 b7 (by decide)⟩, ne b6 b7 (by decide)⟩
  · intro t ht
    simp only [List.mem_cons, List.not_mem_nil, or_false] at ht
    rcases ht with rfl | rfl | rfl | rfl | rfl | rfl | rfl | rfl
    · exact ⟨a0, decide_eq_true c0⟩
    · exact ⟨a1, decide_eq_true c1⟩
    · exact ⟨a2, decide_eq_true c2⟩
    · exact ⟨a3, decide_eq_true c3⟩
    · exact ⟨a4, decide_eq_true c4⟩
    · exact ⟨a5, decide_eq_true c5⟩
    · exact ⟨a6, decide_eq_true c6⟩
    · exact ⟨a7, decide_eq_true c7⟩
theorem hits1 : ∀ (t z : Nat), hc 1 0 t z = t := by
  intro t
  induction t with
  | zero => intro z; rfl
  | succ t ih =>
    intro z
    show (if pos 1 (nx z) = 0 then 1 else 0) + hc 1 0 t (nx z) = t + 1
    rw [ih, if_pos (show pos 1 (nx z) = 0 from Nat.mod_one _)]
    omega
/-- within tw n turns every place of n comes eight times -/
def tw (n : Nat) : Nat := if n = 1 then 8 else 327680
theorem hitsN {n p : Nat} (z : Nat) (h1 : 1 ≤ n) (h4 : n ≤ 4) (hp : p < n) : 8 ≤ hc n p (tw n) z := by
  by_cases h : n = 1
  · subst h
    have : p = 0 := by omega
    subst this
    rw [show tw 1 = 8 from rfl, hits1]
    exact Nat.le_refl _
  · rw [show tw n = 327680 from if_neg h]
    exact hits n p z (by omega) h4 hp
/-- the ints are these numbers -/
def uN32 (x : Int32) : Nat := x.toBitVec.toNat
theorem nx_i (x : Int32) : uN32 (x * 1103515245 + 12345) = nx (uN32 x) := by
  unfold uN32 nx
  rw [Int32.toBitVec_add, Int32.toBitVec_mul, BitVec.toNat_add, BitVec.toNat_mul]
  rw [show (1103515245 : Int32).toBitVec.toNat = 1103515245 from by decide, show (12345 : Int32).toBitVec.toNat = 12345 from by decide]
  rw [Nat.mod_add_mod, Nat.mul_comm]
theorem sh_i (x : Int32) : (x.toUInt32 >>> (Int32.toUInt32 16 &&& Int32.toUInt32 31)).toInt32 = nI (uN32 x / 65536) := by
  apply Int32.toBitVec_inj.mp
  apply BitVec.eq_of_toNat_eq
  rw [pk_ushr x 16 16 (by decide)]
  have : uN32 x < 2 ^ 32 := x.toBitVec.isLt
  unfold uN32 at this ⊢
  rw [pk_tn (by omega)]
theorem pos_i (x : Int32) {n : Nat} (h1 : 1 ≤ n) (h4 : n ≤ 4) : (x.toUInt32 >>> (Int32.toUInt32 16 &&& Int32.toUInt32 31)).toInt32 - (x.toUInt32 >>> (Int32.toUInt32 16 &&& Int32.toUInt32 31)).toInt32 / nI n * nI n = nI (pos n (uN32 x)) := by
  have : uN32 x < 2 ^ 32 := x.toBitVec.isLt
  rw [sh_i, pk_rem (by omega) (by omega) (by omega)]
  rfl
