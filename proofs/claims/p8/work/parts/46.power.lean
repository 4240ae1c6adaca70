/-! ===== class and reference: the power, the parity of a generation, the rows that wait ===== -/
def sm_cut (cu te go ga : Int32) (t : Nat) : Prop := t < 64 ∧ ((cu = -1 ∧ go = 0) ∨ ∃ c : Nat, c ≤ 1000 ∧ cu = nI c ∧ go = 1 ∧ ga = nI c ∧ te = nI t)
theorem xw_n1 {c : Nat} (h : c < 2 ^ 31) : ¬ nI c = -1 := by
  intro z
  have := congrArg Int32.toInt z
  rw [nI_toInt h, show (-1 : Int32).toInt = -1 from rfl] at this
  omega
theorem xw_z {c : Nat} (h : c < 2 ^ 31) : nI c = 0 ↔ c = 0 := ⟨fun z => nI_inj h (by decide) z, fun z => by rw [z]; rfl⟩
theorem xw_now {cu te go ga : Int32} {t : Nat} (h : sm_cut cu te go ga t) : rf_now go ga = decide (cu = 0) := by
  obtain ⟨-, ⟨rfl, rfl⟩ | ⟨c, hc, rfl, rfl, rfl, -⟩⟩ := h
  · show (!decide ((0 : Int32) = 0) && decide (ga = 0)) = decide ((-1 : Int32) = 0)
    rfl
  · unfold rf_now
    simp
/-- power goes -/
theorem xw_lost {a : Nat} {f d g sh : Nat → Int32} {cu te go ga : Int32} {t q : Nat} (h : sm_cut cu te go ga t) (hd : sm_disk a f d) (ha : a ≤ 64) (hg : ∀ k, k < 64 → sh k = g k &&& 255) (hq : q < a) (hn : rf_now go ga = true) : cu = 0 ∧ pd_wc cu = -1 ∧ sm_disk a (pd_wf f (nI a) (nI q) g cu te) (rf_wr d (nI q) sh t) := by
  have h0 : cu = 0 := by
    rw [xw_now h] at hn
    exact of_decide_eq_true hn
  obtain ⟨ht, ⟨h1, -⟩ | ⟨c, hc, hcu, -, -, hte⟩⟩ := h
  · rw [h0] at h1; exact absurd h1 (by decide)
  · refine ⟨h0, by rw [h0]; decide, ?_⟩
    unfold pd_wf
    rw [decide_eq_true h0, hte]
    show sm_disk a (pd_wr f (nI a) (nI q) g (nI t).toNatClampNeg) _
    rw [nI_clamp (by omega)]
    exact xb_wr hd ha hg hq t (by omega)
/-- power stays -/
theorem xw_stay {a : Nat} {f d g sh : Nat → Int32} {cu te go ga : Int32} {t q : Nat} (h : sm_cut cu te go ga t) (hd : sm_disk a f d) (ha : a ≤ 64) (hg : ∀ k, k < 64 → sh k = g k &&& 255) (hq : q < a) (hn : rf_now go ga = false) : ¬ cu = 0 ∧ sm_cut (pd_wc cu) te go (rf_ga go ga) t ∧ sm_disk a (pd_wf f (nI a) (nI q) g cu te) (rf_wr d (nI q) sh 64) := by
  have h0 : ¬ cu = 0 := by
    rw [xw_now h] at hn
    exact of_decide_eq_false hn
  refine ⟨h0, ?_, ?_⟩
  · obtain ⟨ht, ⟨rfl, rfl⟩ | ⟨c, hc, rfl, rfl, rfl, hte⟩⟩ := h
    · exact ⟨ht, Or.inl ⟨by decide, rfl⟩⟩
    · have c0 : ¬ c = 0 := fun z => h0 ((xw_z (by omega)).mpr z)
      obtain ⟨c', rfl⟩ : ∃ c', c = c' + 1 := ⟨c - 1, by omega⟩
      have e : nI (c' + 1) - 1 = nI c' := by rw [nI_succ]; simp
      refine ⟨ht, Or.inr ⟨c', by omega, ?_, rfl, ?_, hte⟩⟩
      · unfold pd_wc
        rw [decide_eq_false (xw_n1 (by omega))]
        exact e
      · unfold rf_ga
        rw [decide_eq_false (p := (1 : Int32) = 0) (by decide)]
        exact e
  · unfold pd_wf
    rw [decide_eq_false h0]
    exact xb_wr hd ha hg hq 64 (Nat.le_refl _)
/-! a generation's parity -/
theorem xw_and1 (x : Int32) : x &&& 1 = 0 ↔ x.toInt % 2 = 0 := by
  have h1 : (x &&& 1).toBitVec.toNat = x.toBitVec.toNat % 2 := by
    rw [Int32.toBitVec_and, BitVec.toNat_and, show (1 : Int32).toBitVec.toNat = 1 from by decide, Nat.and_one_is_mod]
  have h2 : x.toInt % 2 = ((x.toBitVec.toNat % 2 : Nat) : Int) := by
    have : x.toInt = x.toBitVec.toInt := rfl
    rw [this, BitVec.toInt_eq_toNat_cond]
    split <;> omega
  rw [h2]
  constructor
  · intro z
    rw [z] at h1
    have : (0 : Int32).toBitVec.toNat = 0 := by decide
    omega
  · intro z
    apply Int32.toBitVec_inj.mp
    apply BitVec.eq_of_toNat_eq
    rw [h1, show (0 : Int32).toBitVec.toNat = 0 from by decide]
    omega
theorem xw_and1b (x : Int32) : x &&& 1 = 0 ∨ x &&& 1 = 1 := by
  have h1 : (x &&& 1).toBitVec.toNat = x.toBitVec.toNat % 2 := by
    rw [Int32.toBitVec_and, BitVec.toNat_and, show (1 : Int32).toBitVec.toNat = 1 from by decide, Nat.and_one_is_mod]
  rcases Nat.mod_two_eq_zero_or_one x.toBitVec.toNat with z | z
  · left
    apply Int32.toBitVec_inj.mp
    apply BitVec.eq_of_toNat_eq
    rw [h1, z]; rfl
  · right
    apply Int32.toBitVec_inj.mp
    apply BitVec.eq_of_toNat_eq
    rw [h1, z]; rfl
theorem xw_rem (x : Int32) : x - x / 2 * 2 = 0 ↔ x.toInt % 2 = 0 := by
  have hb1 := x.toInt_lt
  have hb2 := x.le_toInt
  have hdv : (x / 2).toInt = x.toInt.tdiv 2 := by
    rw [Int32.toInt_div, show (2 : Int32).toInt = 2 from rfl]
    rw [Int.bmod_def]
    have : (x.toInt.tdiv 2).natAbs = x.toInt.natAbs / 2 := Int.natAbs_tdiv x.toInt 2
    omega
  have hq : x.toInt = 2 * x.toInt.tdiv 2 + x.toInt.tmod 2 := (Int.mul_tdiv_add_tmod x.toInt 2).symm
  have hm : x.toInt.tmod 2 = 0 ∨ x.toInt.tmod 2 = 1 ∨ x.toInt.tmod 2 = -1 := by
    have h1 := Int.tmod_lt_of_pos x.toInt (b := 2) (by decide)
    have h2 := Int.lt_tmod_of_pos x.toInt (b := 2) (by decide)
    omega
  have e : (x - x / 2 * 2).toInt = x.toInt.tmod 2 := by
    rw [Int32.toInt_sub, Int32.toInt_mul, hdv, show (2 : Int32).toInt = 2 from rfl]
    generalize x.toInt.tdiv 2 = u at *
    generalize x.toInt.tmod 2 = v at *
    rw [Int.bmod_def, Int.bmod_def]
    omega
  constructor
  · intro z
    rw [z, show (0 : Int32).toInt = 0 from rfl] at e
    omega
  · intro z
    apply Int32.toInt_inj.mp
    rw [e, show (0 : Int32).toInt = 0 from rfl]
    omega
theorem xw_par (x : Int32) : rf_par x = x &&& 1 := by
  unfold rf_par
  by_cases h : x - x / 2 * 2 = 0
  · rw [if_pos h]
    exact ((xw_and1 x).mpr ((xw_rem x).mp h)).symm
  · rw [if_neg h]
    rcases xw_and1b x with z | z
    · exact absurd ((xw_rem x).mpr ((xw_and1 x).mp z)) h
    · exact z.symm
theorem xw_par2 (x : Int32) : ∃ q : Nat, q < 2 ∧ x &&& 1 = nI q := by
  rcases xw_and1b x with z | z
  · exact ⟨0, by decide, z⟩
  · exact ⟨1, by decide, z⟩
/-! the rows that wait, when they are gone -/
theorem xw_mv {E : Nat} (co : Nat → Int32) (hE : 1 ≤ E) (hE2 : E ≤ 50) : ∀ k, k ≤ 40 → (∀ j, j < k → wt_mv co (nI E) k j &&& 255 = co (40 * E + j) &&& 255) ∧ (∀ j, k ≤ j → wt_mv co (nI E) k j = co j) := by
  intro k
  induction k with
  | zero =>
    intro _
    exact ⟨fun j hj => by omega, fun j _ => by simp only [wt_mv]⟩
  | succ k ih =>
    intro hk
    obtain ⟨i1, i2⟩ := ih (by omega)
    have e1 := xa_by (w := E) (k := k) (wt_mv co (nI E) k) (by omega) (by omega)
    refine ⟨fun j hj => ?_, fun j hj => ?_⟩
    · simp only [wt_mv]
      rw [e1, nI_clamp (by omega)]
      by_cases e : j = k
      · subst e
        simp only [upd, if_true]
        rw [i2 _ (by omega), xb_st]
      · simp only [upd, if_neg e]
        exact i1 j (by omega)
    · simp only [wt_mv]
      rw [nI_clamp (by omega)]
      have e : ¬ j = k := by omega
      simp only [upd, if_neg e]
      exact i2 j (by omega)
theorem xw_len {E Z : Nat} {le : Nat → Int32} (hE : E ≤ 50) (h : le E = nI Z) : wt_len le (nI E) = nI Z := by
  unfold wt_len wt_ok
  have q1 := xb_lt0 (n := E) (by omega)
  have q2 : ¬ (51 : Int32) ≤ nI E := fun z => by
    have z : nI 51 ≤ nI E := z
    rw [xb_le (by omega) (by omega)] at z; omega
  rw [nI_clamp (by omega)]
  simp [q1, q2, h]
theorem xw_rl {E Z : Nat} {le : Nat → Int32} (hE : E ≤ 50) (h : le E = nI Z) : wt_rl le (nI E) 0 = nI Z := by
  unfold wt_rl
  rw [xw_len hE h]
  rfl
theorem xw_rc {E Z : Nat} {co le : Nat → Int32} (hE1 : 1 ≤ E) (hE : E ≤ 50) (hZ : Z ≤ 40) (h : le E = nI Z) : ∀ i, i < Z → wt_rc co le (nI E) i &&& 255 = co (40 * E + i) &&& 255 := by
  intro i hi
  unfold wt_rc
  rw [xw_len hE h]
  have : wt_n (nI Z) = Z := by
    unfold wt_n
    rw [nI_clamp (by omega)]
    omega
  rw [this]
  exact (xw_mv co hE1 hE Z hZ).1 i hi
theorem xw_el (le : Nat → Int32) : wt_el le 0 0 = 0 := by
  unfold wt_el wt_ok
  simp [upd]
