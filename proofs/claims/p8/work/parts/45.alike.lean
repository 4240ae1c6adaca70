/-! ===== class and reference: heads, rows, free sectors, writes ===== -/
def sm_so (K : Nat) (so so' : Nat → Int32) : Prop := ∀ k, k < K → so k = so' k
theorem xa_sec {K k : Nat} (so : Nat → Int32) (hK : K ≤ 50) (hk : k < K) : hd_sec so (nI K) (nI k) = so k := by
  unfold hd_sec
  have h1 := xb_lt0 (n := k) (by omega)
  have h2 : ¬ nI K ≤ nI k := fun z => by rw [xb_le (by omega) (by omega)] at z; omega
  have h3 : ¬ (50 : Int32) ≤ nI k := fun z => by
    have z : nI 50 ≤ nI k := z
    rw [xb_le (by omega) (by omega)] at z; omega
  rw [nI_clamp (by omega)]
  simp [h1, h2, h3]
theorem xa_ff {n : Nat} : ∀ k, n + k ≤ 60 → hd_ff (nI n) k = nI (n + k) := by
  intro k
  induction k with
  | zero => intro _; rw [hd_ff_0]; rfl
  | succ k ih =>
    intro hk
    rw [hd_ff_s, ih (by omega), xs_af (by omega)]
    rfl
theorem xa_byte {s : Nat} (h : s < 256) : nI s = nI s &&& 255 := (xb_256 s h).symm
theorem xa_head {K a : Nat} {so so' : Nat → Int32} (hso : sm_so K so so') (hs : rf_secs so' K a) (ha : a ≤ 64) (hK : K ≤ 50) (ge gr : Int32) (g sh : Nat → Int32) : ∀ j, j < 64 → rf_hd sh ge gr K so' j = hd_fillg so (nI K) ge gr g j &&& 255 := by
  have b1 : xs_P 1 (im_ag g 0 200) (upd (rf_z sh 64) (0 : Int32).toNatClampNeg 200) := xs_begin (by decide)
  have a1 : im_af 0 = nI 1 := xs_af (n := 0) (by omega)
  have a5 : im_f4 (nI 1) = nI 5 := xs_f4 (by omega)
  have a9 : im_f4 (nI 5) = nI 9 := xs_f4 (by omega)
  have a10 : im_af (nI 9) = nI 10 := xs_af (by omega)
  have b2 := xs_put b1 (by omega) ge
  have b3 := xs_put b2 (by omega) gr
  have b4 : xs_P 10 (hd_g3 g (nI K) ge gr) (upd (rf_put (rf_put (upd (rf_z sh 64) (0 : Int32).toNatClampNeg 200) 1 ge 4) 5 gr 4) (9 : Int32).toNatClampNeg (nI K)) := by
    unfold hd_g3
    rw [a1, a5, a9]
    exact xs_ag b3 (by omega) (xa_byte (by omega))
  have f3 : hd_f3 = nI 10 := by unfold hd_f3; rw [a1, a5, a9, a10]
  have lp : ∀ k, k ≤ K → xs_P (10 + k) (hd_fg so (nI K) (hd_g3 g (nI K) ge gr) (nI 10) k) (rf_hl (upd (rf_put (rf_put (upd (rf_z sh 64) (0 : Int32).toNatClampNeg 200) 1 ge 4) 5 gr 4) (9 : Int32).toNatClampNeg (nI K)) so' k) := by
    intro k
    induction k with
    | zero => intro _; rw [hd_fg_0, rf_hl_0]; exact b4
    | succ k ih =>
      intro hk
      rw [hd_fg_s, rf_hl_s, xa_ff k (by omega), xa_sec so hK (by omega), show (10 + nI k).toNatClampNeg = 10 + k from by rw [show (10 : Int32) = nI 10 from rfl, nI_add, nI_clamp (by omega)], nI_clamp (n := k) (by omega)]
      refine xs_ag (ih (by omega)) (by omega) ?_
      rw [hso k (by omega)]
      obtain ⟨s, e, -, h2⟩ := hs k (by omega)
      rw [e]
      exact xa_byte (by omega)
  have fin := xs_seal (lp K (Nat.le_refl _)) (by omega)
  unfold rf_hd rf_hs hd_fillg hd_fillf
  rw [f3, nI_clamp (n := K) (by omega), xa_ff K (by omega)]
  exact fin
theorem xa_by {w k : Nat} (co : Nat → Int32) (hw : w < 51) (hk : k < 40) : wt_by co (nI w) (nI k) = co (40 * w + k) := by
  have q1 := xb_lt0 (n := w) (by omega)
  have q2 : ¬ (51 : Int32) ≤ nI w := fun z => by
    have z : nI 51 ≤ nI w := z
    rw [xb_le (by omega) (by omega)] at z; omega
  have q3 := xb_lt0 (n := k) (by omega)
  have q4 : ¬ (40 : Int32) ≤ nI k := fun z => by
    have z : nI 40 ≤ nI k := z
    rw [xb_le (by omega) (by omega)] at z; omega
  have e1 : (nI w * 40 + nI k).toNatClampNeg = 40 * w + k := by rw [show (40 : Int32) = nI 40 from rfl, pk_mul, nI_add, nI_clamp (by omega), Nat.mul_comm]
  have hb : wt_bok (nI w) (nI k) = true := by
    unfold wt_bok
    simp only [q1, q2, q3, q4, decide_false, Bool.not_false, Bool.and_true]
  unfold wt_by
  rw [hb, e1]
  rfl
theorem xa_row {w L : Nat} {co le ma fi nu le' bs : Nat → Int32} {no : Int32} (hw : w < 51) (hL : L ≤ 40) (h1 : le w = nI L) (h2 : le' w = nI L) (h3 : fi w = ma w) (h4 : ∃ c : Nat, c < 256 ∧ ma w = nI c) (h5 : nu w = no) (h6 : ∀ i, i < L → bs (40 * w + i) = co (40 * w + i) &&& 255) (g sh : Nat → Int32) : ∀ j, j < 64 → rf_rw sh fi nu le' bs (nI w) (le' (nI w).toNatClampNeg).toNatClampNeg j = wt_fillg co le ma (nI w) no g j &&& 255 := by
  have hok : wt_ok (nI w) = true := by
    unfold wt_ok
    have q1 := xb_lt0 (n := w) (by omega)
    have q2 : ¬ (51 : Int32) ≤ nI w := fun z => by
      have z : nI 51 ≤ nI w := z
      rw [xb_le (by omega) (by omega)] at z; omega
    simp [q1, q2]
  have a1 : im_af 0 = nI 1 := xs_af (n := 0) (by omega)
  have a5 : im_f4 (nI 1) = nI 5 := xs_f4 (by omega)
  have a6 : im_af (nI 5) = nI 6 := xs_af (by omega)
  have f2 : wt_f2 = nI 6 := by unfold wt_f2; rw [a1, a5, a6]
  obtain ⟨c, hc, ec⟩ := h4
  have b1 : xs_P 1 (im_ag g 0 (ma w)) (upd (rf_z sh 64) (0 : Int32).toNatClampNeg (fi w)) := xs_begin (by rw [h3, ec]; exact xa_byte hc)
  have b2 := xs_put b1 (by omega) no
  have b3 : xs_P 6 (wt_g2 g (ma w) no (le w)) (upd (rf_put (upd (rf_z sh 64) (0 : Int32).toNatClampNeg (fi w)) 1 (nu w) 4) (5 : Int32).toNatClampNeg (le' w)) := by
    unfold wt_g2
    rw [a1, a5, h5]
    exact xs_ag b2 (by omega) (by rw [h1, h2]; exact xa_byte (by omega))
  have lp : ∀ k, k ≤ L → xs_P (6 + k) (wt_fg co (nI w) (wt_g2 g (ma w) no (le w)) (nI 6) k) (rf_fl (upd (rf_put (upd (rf_z sh 64) (0 : Int32).toNatClampNeg (fi w)) 1 (nu w) 4) (5 : Int32).toNatClampNeg (le' w)) bs (nI w) k) := by
    intro k
    induction k with
    | zero => intro _; rw [rf_fl_0]; simp only [wt_fg]; exact b3
    | succ k ih =>
      intro hk
      rw [rf_fl_s]
      simp only [wt_fg]
      rw [xa_ff k (by omega), show (6 + nI k).toNatClampNeg = 6 + k from by rw [show (6 : Int32) = nI 6 from rfl, nI_add, nI_clamp (by omega)], show (40 * nI w + nI k).toNatClampNeg = 40 * w + k from by rw [show (40 : Int32) = nI 40 from rfl, pk_mul, nI_add, nI_clamp (by omega)], xa_by co hw (by omega)]
      exact xs_ag (ih (by omega)) (by omega) (by rw [xb_b8]; exact h6 k (by omega))
  have fin := xs_seal (lp L (Nat.le_refl _)) (by omega)
  unfold rf_rw rf_rs wt_fillg
  rw [hok, nI_clamp (n := w) (by omega), h2, nI_clamp (n := L) (by omega)]
  rw [h2] at fin
  have en : (le w).toNatClampNeg = L := by
    rw [h1, nI_clamp (by omega)]
  rw [en, f2, xa_ff L (by omega)]
  exact fin
/-! free sectors -/
theorem xa_clr (us : Nat → Int32) : ∀ m, m ≤ 64 → ∀ j, j < m → hd_clr us m j = 0 := by
  intro m
  induction m with
  | zero => intro _ j hj; omega
  | succ m ih =>
    intro hm j hj
    rw [hd_clr_s, nI_clamp (by omega)]
    by_cases e : j = m
    · subst e; simp [upd]; rfl
    · simp only [upd, if_neg e]
      exact ih (by omega) j (by omega)
theorem xa_mk {K a : Nat} {so so' : Nat → Int32} (hso : sm_so K so so') (hs : rf_secs so' K a) (ha : a ≤ 64) (hK : K ≤ 50) (us : Nat → Int32) : ∀ m, m ≤ K → ∀ s, s < 64 → (hd_mk so (nI K) (hd_clr us 64) m s = 0 ↔ ∀ k, k < m → so' k ≠ nI s) := by
  intro m
  induction m with
  | zero =>
    intro _ s hs64
    rw [hd_mk_0]
    exact ⟨fun _ k hk => by omega, fun _ => xa_clr us 64 (Nat.le_refl _) s hs64⟩
  | succ m ih =>
    intro hm s hs64
    rw [hd_mk_s, xa_sec so hK (by omega), hso m (by omega)]
    obtain ⟨r, e, h1, h2⟩ := hs m (by omega)
    unfold hd_m1
    rw [e]
    have q1 := xb_lt0 (n := r) (by omega)
    have q2 : ¬ (64 : Int32) ≤ nI r := fun z => by
      have z : nI 64 ≤ nI r := z
      rw [xb_le (by omega) (by omega)] at z; omega
    simp only [q1, q2, decide_false, Bool.not_false, Bool.and_self, cond_true]
    rw [nI_clamp (by omega)]
    by_cases er : s = r
    · subst er
      simp only [upd, if_true]
      refine ⟨fun z => absurd z (by decide), fun z => absurd e (z m (by omega))⟩
    · simp only [upd, if_neg er]
      rw [ih (by omega) s hs64]
      refine ⟨fun z k hk => ?_, fun z k hk => z k (by omega)⟩
      by_cases ek : k = m
      · subst ek
        rw [e]
        exact fun z2 => er (nI_inj (by omega) (by omega) z2).symm
      · exact z k (by omega)
theorem xa_us {K a : Nat} {so so' : Nat → Int32} (hso : sm_so K so so') (hs : rf_secs so' K a) (ha : a ≤ 64) (hK : K ≤ 50) (us : Nat → Int32) {s : Nat} (hs64 : s < 64) : (hd_us so (nI K) us s = 0 ↔ rf_kept so' (nI s) K 0 = false) := by
  unfold hd_us
  rw [nI_clamp (by omega), xa_mk hso hs ha hK us K (Nat.le_refl _) s hs64]
  constructor
  · intro z
    cases hb : rf_kept so' (nI s) K 0 with
    | false => rfl
    | true =>
      obtain ⟨j, -, hj, e⟩ := (rf_kept_iff K 0 (by omega)).mp hb
      exact absurd e (z j (by omega))
  · intro z k hk e
    have := (rf_kept_iff (so := so') (s := nI s) K 0 (by omega)).mpr ⟨k, Nat.zero_le _, by omega, e⟩
    rw [z] at this
    cases this
theorem xa_lf1 {us : Nat → Int32} {B s : Nat} (hB : B ≤ 64) (hsB : s < B) (h0 : us s = 0) : ∀ m j, j + m = 64 → j ≤ s → (∀ i, j ≤ i → i < s → ¬ us i = 0) → hd_lf us (nI B) m j = nI s := by
  intro m
  induction m with
  | zero => intro j hj hjs; omega
  | succ m ih =>
    intro j hj hjs h
    simp only [hd_lf]
    rw [decide_eq_false (p := nI B ≤ nI j) (fun z => by rw [xb_le (by omega) (by omega)] at z; omega), nI_clamp (by omega)]
    by_cases e : j = s
    · subst e
      rw [decide_eq_true h0]
      rfl
    · rw [decide_eq_false (h j (Nat.le_refl _) (by omega))]
      exact ih (j + 1) (by omega) (by omega) (fun i h1 h2 => h i (by omega) h2)
theorem xa_lf2 {us : Nat → Int32} {B : Nat} (hB : B ≤ 64) : ∀ m j, j + m = 64 → (∀ i, j ≤ i → i < B → ¬ us i = 0) → hd_lf us (nI B) m j = -1 := by
  intro m
  induction m with
  | zero => intro j _ _; simp only [hd_lf]
  | succ m ih =>
    intro j hj h
    simp only [hd_lf]
    by_cases hb : B ≤ j
    · rw [decide_eq_true (p := nI B ≤ nI j) ((xb_le (by omega) (by omega)).mpr hb)]
      rfl
    · rw [decide_eq_false (p := nI B ≤ nI j) (fun z => by rw [xb_le (by omega) (by omega)] at z; omega), nI_clamp (by omega), decide_eq_false (h j (Nat.le_refl _) (by omega))]
      exact ih (j + 1) (by omega) (fun i h1 h2 => h i (by omega) h2)
theorem xa_free {K a B : Nat} {so so' : Nat → Int32} (hso : sm_so K so so') (hs : rf_secs so' K a) (ha : a ≤ 64) (ha2 : 2 ≤ a) (hK : K ≤ 50) (us : Nat → Int32) (hB : B ≤ a) {s : Nat} (h1 : 2 ≤ s) (h3 : rf_kept so' (nI s) K 0 = false) (h4 : ∀ j, 2 ≤ j → j < s → rf_kept so' (nI j) K 0 = true) : hd_lf (hd_us so (nI K) us) (nI B) 62 2 = if s < B then nI s else -1 := by
  have key : ∀ i, 2 ≤ i → i < s → i < 64 → ¬ hd_us so (nI K) us i = 0 := fun i q1 q2 q3 z => by
    rw [xa_us hso hs ha hK us q3, h4 i q1 q2] at z
    cases z
  by_cases h : s < B
  · rw [if_pos h]
    exact xa_lf1 (by omega) h ((xa_us hso hs ha hK us (by omega)).mpr h3) 62 2 rfl h1 (fun i q1 q2 => key i q1 q2 (by omega))
  · rw [if_neg h]
    exact xa_lf2 (by omega) 62 2 rfl (fun i q1 q2 => key i q1 (by omega) (by omega))
/-! the last by its sector -/
theorem xa_sec1 (so : Nat → Int32) (ke : Int32) : hd_sec so ke (-1) = -1 := by
  unfold hd_sec
  rw [show decide ((-1 : Int32) < 0) = true from by decide]
  rfl
theorem xa_lb {K a : Nat} {so so' : Nat → Int32} (hso : sm_so K so so') (hs : rf_secs so' K a) (ha : a ≤ 64) (hK : K ≤ 50) : ∀ m k, k + m = K → (hd_lb so (nI K) k = -1 ∨ ∃ j, j < K ∧ hd_lb so (nI K) k = nI j) → rf_lb so' m k (hd_lb so (nI K) k) = hd_lb so (nI K) K := by
  intro m
  induction m with
  | zero =>
    intro k hk _
    have : k = K := by omega
    subst this
    rw [rf_lb_0]
  | succ m ih =>
    intro k hk hx
    rw [rf_lb_s]
    obtain ⟨r, er, hr1, hr2⟩ := hs k (by omega)
    have e : (if hd_lb so (nI K) k = -1 then nI k else if so' (nI k).toNatClampNeg ≤ so' (hd_lb so (nI K) k).toNatClampNeg then hd_lb so (nI K) k else nI k) = hd_lb so (nI K) (k + 1) := by
      rw [hd_lb_s, xa_sec so hK (by omega), hso k (by omega), nI_clamp (n := k) (by omega)]
      rcases hx with h1 | ⟨j, hj, h1⟩
      · rw [if_pos h1, h1, xa_sec1, er, decide_eq_false]
        · rfl
        · intro z
          rw [Int32.le_iff_toInt_le, nI_toInt (by omega), show (-1 : Int32).toInt = -1 from rfl] at z
          omega
      · have hne : ¬ hd_lb so (nI K) k = -1 := by
          rw [h1]
          intro z
          have := congrArg Int32.toInt z
          rw [nI_toInt (by omega), show (-1 : Int32).toInt = -1 from rfl] at this
          omega
        rw [if_neg hne, h1, nI_clamp (by omega), xa_sec so hK hj, hso j hj]
        by_cases h2 : so' k ≤ so' j
        · rw [if_pos h2, decide_eq_true h2]; rfl
        · rw [if_neg h2, decide_eq_false h2]; rfl
    rw [e]
    refine ih (k + 1) (by omega) ?_
    rw [← e]
    split
    · exact Or.inr ⟨k, by omega, rfl⟩
    · split
      · exact hx
      · exact Or.inr ⟨k, by omega, rfl⟩
theorem xa_last {K a : Nat} {so so' : Nat → Int32} (hso : sm_so K so so') (hs : rf_secs so' K a) (ha : a ≤ 64) (hK : K ≤ 50) : rf_lb so' K 0 (-1) = hd_lb so (nI K) K := by
  have := xa_lb hso hs ha hK K 0 (Nat.zero_add _) (Or.inl (hd_lb_0 _ _))
  rw [hd_lb_0] at this
  exact this
