/-! ===== class and reference: the 64 bytes that are written ===== -/
theorem xs_mask : ∀ i < 32, 8 ≤ i → (255 : Int32).toBitVec.getLsbD i = false := by decide
theorem xs_bits {x y : Int32} (h : ∀ i, i < 8 → x.toBitVec.getLsbD i = y.toBitVec.getLsbD i) : x &&& 255 = y &&& 255 := by
  apply Int32.toBitVec_inj.mp
  rw [Int32.toBitVec_and, Int32.toBitVec_and]
  apply BitVec.eq_of_getLsbD_eq
  intro i hi
  rw [BitVec.getLsbD_and, BitVec.getLsbD_and]
  rcases Nat.lt_or_ge i 8 with z | z
  · rw [h i z]
  · rw [xs_mask i hi z]; simp
theorem xs_u (v k : Int32) {s : Nat} (hk : (k.toUInt32 &&& Int32.toUInt32 31).toBitVec.toNat = s) (hs : s ≤ 24) : (pd_ush v k).toBitVec = v.toBitVec >>> s := by
  show (v.toUInt32 >>> (k.toUInt32 &&& Int32.toUInt32 31)).toBitVec = _
  rw [UInt32.toBitVec_shiftRight]
  apply BitVec.eq_of_toNat_eq
  have h2 : ((k.toUInt32 &&& Int32.toUInt32 31).toBitVec % 32).toNat = s := by
    rw [BitVec.toNat_umod, hk]
    show s % 32 = s
    omega
  rw [BitVec.ushiftRight_eq', h2]
  rfl
theorem xs_a (v k : Int32) {s : Nat} (hk : (k.toBitVec.smod 32).toNat = s) : (v >>> k).toBitVec = v.toBitVec.sshiftRight s := by
  rw [Int32.toBitVec_shiftRight, BitVec.sshiftRight_eq', hk]
theorem xs_sh (v k k' : Int32) {s : Nat} (h1 : (k.toUInt32 &&& Int32.toUInt32 31).toBitVec.toNat = s) (h2 : (k'.toBitVec.smod 32).toNat = s) (hs : s ≤ 24) : (v >>> k') &&& 255 = pd_ush v k &&& 255 := by
  apply xs_bits
  intro i hi
  rw [xs_u v k h1 hs, xs_a v k' h2, BitVec.getLsbD_sshiftRight, BitVec.getLsbD_ushiftRight]
  rw [if_pos (by omega)]
  simp
  omega
theorem xs_24 (v : Int32) : (v >>> ((24 - 8 * nI 0) &&& 31)) &&& 255 = pd_ush v 24 &&& 255 := xs_sh v 24 _ (s := 24) (by decide) (by decide) (by decide)
theorem xs_16 (v : Int32) : (v >>> ((24 - 8 * nI 1) &&& 31)) &&& 255 = pd_ush v 16 &&& 255 := xs_sh v 16 _ (s := 16) (by decide) (by decide) (by decide)
theorem xs_8 (v : Int32) : (v >>> ((24 - 8 * nI 2) &&& 31)) &&& 255 = pd_ush v 8 &&& 255 := xs_sh v 8 _ (s := 8) (by decide) (by decide) (by decide)
theorem xs_0 (v : Int32) : (v >>> ((24 - 8 * nI 3) &&& 31)) &&& 255 = v &&& 255 := by
  apply xs_bits
  intro i hi
  rw [xs_a v _ (s := 0) (by decide), BitVec.getLsbD_sshiftRight]
  rw [if_pos (by omega)]
  simp
  omega
/-- n bytes are there, alike; behind them the reference has zeros -/
def xs_P (n : Nat) (g sh : Nat → Int32) : Prop := (∀ j, j < n → sh j = g j &&& 255) ∧ (∀ j, n ≤ j → j < 64 → sh j = 0)
theorem xs_set {i : Nat} (g : Nat → Int32) (x : Int32) (hi : i < 64) : im_set g (nI i) x = upd g i (vp_nar .byte x.toInt8.toInt32) := by
  unfold im_set im_ok
  have h3 := xb_lt0 (n := i) (by omega)
  have h4 : ¬ (64 : Int32) ≤ nI i := fun z => by
    have z : nI 64 ≤ nI i := z
    rw [xb_le (by omega) (by omega)] at z; omega
  rw [nI_clamp (by omega)]
  simp [h3, h4]
theorem xs_look {i : Nat} (g : Nat → Int32) (hi : i < 64) : im_look g (nI i) = g i &&& 255 := by
  unfold im_look im_ok
  have h3 := xb_lt0 (n := i) (by omega)
  have h4 : ¬ (64 : Int32) ≤ nI i := fun z => by
    have z : nI 64 ≤ nI i := z
    rw [xb_le (by omega) (by omega)] at z; omega
  rw [nI_clamp (by omega)]
  simp [h3, h4]
theorem xs_60 {n : Nat} (hn : n < 60) : decide ((60 : Int32) ≤ nI n) = false := decide_eq_false (fun z => by
  have z : nI 60 ≤ nI n := z
  rw [xb_le (by omega) (by omega)] at z; omega)
theorem xs_af {n : Nat} (hn : n < 60) : im_af (nI n) = nI (n + 1) := by
  unfold im_af
  rw [xs_60 hn, nI_succ]
  rfl
theorem xs_ag {n : Nat} {g sh : Nat → Int32} (h : xs_P n g sh) (hn : n < 60) {x y : Int32} (hy : y = x &&& 255) : xs_P (n + 1) (im_ag g (nI n) x) (upd sh n y) := by
  unfold im_ag
  rw [xs_60 hn]
  simp only [cond_false]
  rw [xs_set g x (by omega)]
  refine ⟨fun j hj => ?_, fun j h1 h2 => ?_⟩
  · by_cases e : j = n
    · subst e
      simp only [upd, if_true]
      rw [xb_st, hy]
    · simp only [upd, if_neg e]
      exact h.1 j (by omega)
  · have e : ¬ j = n := by omega
    simp only [upd, if_neg e]
    exact h.2 j (by omega) h2
theorem xs_f4 {n : Nat} (hn : n + 4 ≤ 60) : im_f4 (nI n) = nI (n + 4) := by
  unfold im_f4
  rw [xs_af (by omega), xs_af (by omega), xs_af (by omega), xs_af (by omega)]
theorem xs_put {n : Nat} {g sh : Nat → Int32} (h : xs_P n g sh) (hn : n + 4 ≤ 60) (v : Int32) : xs_P (n + 4) (im_g4 g (nI n) v) (rf_put sh (nI n) v 4) := by
  have e0 : (nI n + nI 0).toNatClampNeg = n := by rw [nI_add, nI_clamp (by omega)]; rfl
  have e1 : (nI n + nI 1).toNatClampNeg = n + 1 := by rw [nI_add, nI_clamp (by omega)]
  have e2 : (nI n + nI 2).toNatClampNeg = n + 2 := by rw [nI_add, nI_clamp (by omega)]
  have e3 : (nI n + nI 3).toNatClampNeg = n + 3 := by rw [nI_add, nI_clamp (by omega)]
  rw [rf_put_s sh (nI n) v 3, rf_put_s sh (nI n) v 2, rf_put_s sh (nI n) v 1, rf_put_s sh (nI n) v 0, rf_put_0, e0, e1, e2, e3]
  unfold im_g4
  rw [xs_af (by omega), xs_af (by omega), xs_af (by omega)]
  exact xs_ag (xs_ag (xs_ag (xs_ag h (by omega) (xs_24 v)) (by omega) (xs_16 v)) (by omega) (xs_8 v)) (by omega) (xs_0 v)
theorem xs_z (sh : Nat → Int32) : ∀ m, m ≤ 64 → ∀ j, j < m → rf_z sh m j = 0 := by
  intro m
  induction m with
  | zero => intro _ j hj; omega
  | succ m ih =>
    intro hm j hj
    rw [rf_z_s, nI_clamp (by omega)]
    by_cases e : j = m
    · subst e; simp [upd]
    · simp only [upd, if_neg e]
      exact ih (by omega) j (by omega)
theorem xs_begin {g sh : Nat → Int32} {x y : Int32} (hy : y = x &&& 255) : xs_P 1 (im_ag g 0 x) (upd (rf_z sh 64) (0 : Int32).toNatClampNeg y) :=
  xs_ag (n := 0) (g := g) (sh := rf_z sh 64) ⟨fun j hj => by omega, fun j _ h2 => xs_z sh 64 (Nat.le_refl _) j h2⟩ (by omega) hy
/-- the sum, and the zeros behind -/
theorem xs_sl {n : Nat} {g sh : Nat → Int32} (h : xs_P n g sh) (hn : n ≤ 60) : ∀ k, k ≤ 60 → (im_sl g (nI n) k).2 = rf_ss sh k ∧ (∀ j, j < k → sh j = (im_sl g (nI n) k).1 j &&& 255) ∧ (∀ j, k ≤ j → j < 64 → (im_sl g (nI n) k).1 j = g j) := by
  intro k
  induction k with
  | zero =>
    intro _
    rw [im_sl_0, rf_ss_0]
    exact ⟨rfl, fun j hj => by omega, fun _ _ _ => rfl⟩
  | succ k ih =>
    intro hk
    obtain ⟨i1, i2, i3⟩ := ih (by omega)
    have e : im_s1 (im_sl g (nI n) k).1 (nI n) k = if k < n then (im_sl g (nI n) k).1 else upd (im_sl g (nI n) k).1 k (vp_nar .byte (0 : Int32).toInt8.toInt32) := by
      unfold im_s1
      by_cases hkn : k < n
      · rw [if_pos hkn, decide_eq_true ((xb_lt (by omega) (by omega)).mpr hkn)]
        rfl
      · rw [if_neg hkn, decide_eq_false (fun z => hkn ((xb_lt (by omega) (by omega)).mp z))]
        exact xs_set _ 0 (by omega)
    have hs : sh k = im_s1 (im_sl g (nI n) k).1 (nI n) k k &&& 255 := by
      rw [e]
      by_cases hkn : k < n
      · rw [if_pos hkn, i3 k (Nat.le_refl _) (by omega)]
        exact h.1 k hkn
      · rw [if_neg hkn]
        simp only [upd, if_true]
        rw [xb_st, h.2 k (by omega) (by omega)]
        decide
    rw [im_sl_s, rf_ss_s]
    refine ⟨?_, fun j hj => ?_, fun j h1 h2 => ?_⟩
    · show pd_sw (im_sl g (nI n) k).2 (im_look (im_s1 (im_sl g (nI n) k).1 (nI n) k) (nI k)) = _
      rw [i1, xs_look _ (by omega), ← hs, nI_clamp (by omega)]
    · show sh j = im_s1 (im_sl g (nI n) k).1 (nI n) k j &&& 255
      by_cases ej : j = k
      · subst ej; exact hs
      · rw [e]
        by_cases hkn : k < n
        · rw [if_pos hkn]; exact i2 j (by omega)
        · rw [if_neg hkn]
          simp only [upd, if_neg ej]
          exact i2 j (by omega)
    · show im_s1 (im_sl g (nI n) k).1 (nI n) k j = g j
      rw [e]
      have ej : ¬ j = k := by omega
      by_cases hkn : k < n
      · rw [if_pos hkn]; exact i3 j (by omega) h2
      · rw [if_neg hkn]
        simp only [upd, if_neg ej]
        exact i3 j (by omega) h2
theorem xs_seal {n : Nat} {g sh : Nat → Int32} (h : xs_P n g sh) (hn : n ≤ 60) : ∀ j, j < 64 → rf_seal sh j = im_seal g (nI n) j &&& 255 := by
  obtain ⟨i1, i2, -⟩ := xs_sl h hn 60 (Nat.le_refl _)
  intro j hj
  unfold rf_seal im_seal im_four
  rw [i1]
  generalize rf_ss sh 60 = v
  have e0 : (60 + nI 0).toNatClampNeg = 60 := by decide
  have e1 : (60 + nI 1).toNatClampNeg = 61 := by decide
  have e2 : (60 + nI 2).toNatClampNeg = 62 := by decide
  have e3 : (60 + nI 3).toNatClampNeg = 63 := by decide
  rw [rf_put_s sh 60 v 3, rf_put_s sh 60 v 2, rf_put_s sh 60 v 1, rf_put_s sh 60 v 0, rf_put_0, e0, e1, e2, e3]
  rw [show (60 : Int32) + 1 = nI 61 from rfl, show (60 : Int32) + 2 = nI 62 from rfl, show (60 : Int32) + 3 = nI 63 from rfl, show (60 : Int32) = nI 60 from rfl]
  rw [xs_set _ _ (by omega), xs_set _ _ (by omega), xs_set _ _ (by omega), xs_set _ _ (by omega)]
  by_cases h63 : j = 63
  · subst h63
    simp only [upd, if_true]
    rw [xb_st, ← xs_0 v]
  by_cases h62 : j = 62
  · subst h62
    simp [upd]
    rw [xb_st]
    exact xs_8 v
  by_cases h61 : j = 61
  · subst h61
    simp [upd]
    rw [xb_st]
    exact xs_16 v
  by_cases h60 : j = 60
  · subst h60
    simp [upd]
    rw [xb_st]
    exact xs_24 v
  simp only [upd, if_neg h63, if_neg h62, if_neg h61, if_neg h60]
  exact i2 j (by omega)
