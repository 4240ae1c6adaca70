/-! ===== printed by wip/pd_refg.py: the reference, drop, sync, merge ===== -/
theorem rf_hole : ∀ (m : Nat) (so : Nat → Nat) (K : Nat), K < m → ∃ s, s < m ∧ ∀ k, k < K → so k ≠ s := by
  intro m
  induction m with
  | zero => intro so K h; omega
  | succ m ih =>
    intro so K h
    by_cases hm : ∃ j, j < K ∧ so j = m
    · obtain ⟨j, hj, hjm⟩ := hm
      obtain ⟨s, hs, hk⟩ := ih (fun k => if k < j then so k else so (k + 1)) (K - 1) (by omega)
      refine ⟨s, by omega, fun k hkK => ?_⟩
      by_cases h1 : k < j
      · have := hk k (by omega)
        simpa [h1] using this
      · by_cases h2 : k = j
        · subst h2; omega
        · have := hk (k - 1) (by omega)
          rw [if_neg (by omega), show k - 1 + 1 = k by omega] at this
          exact this
    · exact ⟨m, by omega, fun k hk q => hm ⟨k, hk, q⟩⟩
/-- the kept rows' sectors -/
def rf_secs (so : Nat → Int32) (K a : Nat) : Prop := ∀ j, j < K → ∃ s : Nat, so j = nI s ∧ 2 ≤ s ∧ s < a
theorem rf_secs.ok {so : Nat → Int32} {K a : Nat} (h : rf_secs so K a) (ha : a ≤ 64) : ∀ j, j < K → rf_ok (so j) := fun j hj => by
  obtain ⟨s, e, -, h2⟩ := h j hj
  exact ⟨s, e, by omega⟩
theorem nI_inj {a b : Nat} (ha : a < 2 ^ 31) (hb : b < 2 ^ 31) (h : nI a = nI b) : a = b := by
  have := congrArg Int32.toNatClampNeg h
  rwa [nI_clamp ha, nI_clamp hb] at this
theorem rf_kept_iff {so : Nat → Int32} {s : Int32} : ∀ (m k : Nat), k + m ≤ 50 → (rf_kept so s m k = true ↔ ∃ j, k ≤ j ∧ j < k + m ∧ so j = s) := by
  intro m
  induction m with
  | zero =>
    intro k _
    rw [rf_kept_0]
    constructor
    · intro h; cases h
    · rintro ⟨j, h1, h2, -⟩; omega
  | succ m ih =>
    intro k hk
    rw [rf_kept_s, nI_clamp (by omega)]
    by_cases h : so k = s
    · simp only [h, decide_true, cond_true, true_iff]
      exact ⟨k, Nat.le_refl _, by omega, h⟩
    · simp only [h, decide_false, cond_false]
      rw [ih (k + 1) (by omega)]
      constructor
      · rintro ⟨j, h1, h2, h3⟩; exact ⟨j, by omega, by omega, h3⟩
      · rintro ⟨j, h1, h2, h3⟩
        refine ⟨j, ?_, by omega, h3⟩
        rcases Nat.lt_or_ge k j with q | q
        · exact q
        · have : j = k := by omega
          subst this
          exact absurd h3 h
theorem rf_kept_no {so : Nat → Int32} {K a : Nat} (h : rf_secs so K a) (hK : K ≤ 50) (ha : a ≤ 64) {s : Nat} (hs : a ≤ s) (hs2 : s < 2 ^ 31) : rf_kept so (nI s) K 0 = false := by
  cases hb : rf_kept so (nI s) K 0 with
  | false => rfl
  | true =>
    obtain ⟨j, -, hj, e⟩ := (rf_kept_iff K 0 (by omega)).mp hb
    obtain ⟨s', e', h1, h2⟩ := h j (by omega)
    have := nI_inj (by omega) hs2 (e'.symm.trans e)
    omega
/-- the free sector that is found: the least that is not kept -/
theorem rf_free_is {so : Nat → Int32} {K : Nat} : ∀ (m k g : Nat), k ≤ g → g ≤ k + m → rf_kept so (nI g) K 0 = false → ∃ s, rf_free so K m k = nI s ∧ k ≤ s ∧ s ≤ g ∧ rf_kept so (nI s) K 0 = false ∧ ∀ j, k ≤ j → j < s → rf_kept so (nI j) K 0 = true := by
  intro m
  induction m with
  | zero =>
    intro k g h1 h2 h3
    have : g = k := by omega
    subst this
    exact ⟨g, rf_free_0 so K g, Nat.le_refl _, Nat.le_refl _, h3, fun j h4 h5 => by omega⟩
  | succ m ih =>
    intro k g h1 h2 h3
    rw [rf_free_s]
    cases hb : rf_kept so (nI k) K 0 with
    | false => exact ⟨k, rfl, Nat.le_refl _, h1, hb, fun j h4 h5 => by omega⟩
    | true =>
      have hkg : k ≠ g := fun q => by subst q; rw [h3] at hb; cases hb
      obtain ⟨s, e, q1, q2, q3, q4⟩ := ih (k + 1) g (by omega) (by omega) h3
      refine ⟨s, e, by omega, q2, q3, fun j h4 h5 => ?_⟩
      rcases Nat.lt_or_ge k j with q | q
      · exact q4 j q h5
      · have : j = k := by omega
        subst this
        exact hb
theorem rf_free_lt {so : Nat → Int32} {K a : Nat} (h : rf_secs so K a) (hK : K ≤ 50) (ha : a ≤ 64) (ha2 : 2 ≤ a) : ∃ s, rf_free so K 62 2 = nI s ∧ 2 ≤ s ∧ s ≤ a ∧ rf_kept so (nI s) K 0 = false ∧ ∀ j, 2 ≤ j → j < s → rf_kept so (nI j) K 0 = true :=
  rf_free_is 62 2 a ha2 (by omega) (rf_kept_no h hK ha (Nat.le_refl _) (by omega))
theorem rf_free_room {so : Nat → Int32} {K a : Nat} (h : rf_secs so K a) (hK : K ≤ 50) (ha : a ≤ 64) (hr : K + 2 < a) : ∃ s, rf_free so K 62 2 = nI s ∧ 2 ≤ s ∧ s < a ∧ rf_kept so (nI s) K 0 = false ∧ ∀ j, 2 ≤ j → j < s → rf_kept so (nI j) K 0 = true := by
  obtain ⟨g, hg, hne⟩ := rf_hole (a - 2) (fun k => (so k).toNatClampNeg - 2) K (by omega)
  have hk : rf_kept so (nI (g + 2)) K 0 = false := by
    cases hb : rf_kept so (nI (g + 2)) K 0 with
    | false => rfl
    | true =>
      obtain ⟨j, -, hj, e⟩ := (rf_kept_iff K 0 (by omega)).mp hb
      refine absurd ?_ (hne j (by omega))
      show (so j).toNatClampNeg - 2 = g
      rw [e, nI_clamp (by omega)]
      omega
  obtain ⟨s, e, q1, q2, q3, q4⟩ := rf_free_is (so := so) (K := K) 62 2 (g + 2) (by omega) (by omega) hk
  exact ⟨s, e, q1, by omega, q3, q4⟩
theorem rf_secs.put {so : Nat → Int32} {K a s : Nat} (h : rf_secs so K a) (hK : K < 50) (hs : 2 ≤ s) (hs2 : s < a) : rf_secs (upd so (nI K).toNatClampNeg (nI s)) (K + 1) a := by
  intro j hj
  rw [nI_clamp (by omega)]
  by_cases hjK : j = K
  · subst hjK
    exact ⟨s, by simp [upd], hs, hs2⟩
  · obtain ⟨s', e, h1, h2⟩ := h j (by omega)
    exact ⟨s', by simp [upd, hjK, e], h1, h2⟩
theorem rf_secs.set {so : Nat → Int32} {K a s i : Nat} (h : rf_secs so K a) (hs : 2 ≤ s) (hs2 : s < a) : rf_secs (upd so i (nI s)) K a := by
  intro j hj
  by_cases hji : j = i
  · subst hji
    exact ⟨s, by simp [upd], hs, hs2⟩
  · obtain ⟨s', e, h1, h2⟩ := h j hj
    exact ⟨s', by simp [upd, hji, e], h1, h2⟩
theorem rf_secs.cop {so : Nat → Int32} {K a i k : Nat} (h : rf_secs so K a) (hk : k < K) : rf_secs (upd so i (so k)) K a := by
  obtain ⟨s, e, h1, h2⟩ := h k hk
  rw [e]
  exact h.set h1 h2
def rf_out (f : Nat → Int32) (bf s : Int32) : Bool := !rf_wrong f s && !decide (16 ≤ f (64 * s).toNatClampNeg) && !decide (bf ≤ rf_four f (64 * s + 1))
def rdP (c0 c1 c2 c3 c4 c5 c6 c7 c8 c9 c10 c11 : am_E) (rest : am_W) (S wr go ga ge gr nx wt sz : Int32) (f fi nu le bs ma sh : Nat → Int32) (bf : Int32) (K t : Nat) : Nat → Nat → (Nat → Int32) → Nat → Option Value → am_W → Prop
  | 0, _, so, L => fun v w => (nI L = nI K ∧ am_is (some (.int 0)) (c0 :: c1 :: c2 :: c3 :: c4 :: c5 :: c6 :: c7 :: c8 :: c9 :: c10 :: c11 :: .inr (5, [.int 0, .int S, .ref 13, .int wr, .int 0, .int go, .int ga, .int (nI t), .int ge, .int gr, .int (nI L), .ref 14, .int nx, .int wt, .ref 15, .ref 16, .ref 17, .ref 18, .int sz, .ref 19, .ref 20]) :: .inl (1, 4096, .inl f) :: .inl (1, 50, .inl so) :: .inl (1, 50, .inl fi) :: .inl (1, 50, .inl nu) :: .inl (1, 50, .inl le) :: .inl (1, 2000, .inl bs) :: .inl (1, 40, .inl ma) :: .inl (1, 64, .inl sh) :: rest) v w) ∨ (¬ nI L = nI K ∧ rf_now go ga = true ∧ am_is (some (.int (-34))) (c0 :: c1 :: c2 :: c3 :: c4 :: c5 :: c6 :: c7 :: c8 :: c9 :: c10 :: c11 :: .inr (5, [.int 0, .int S, .ref 13, .int (wr + 1), .int 1, .int 0, .int ga, .int (nI t), .int (ge + 1), .int gr, .int (nI L), .ref 14, .int nx, .int 0, .ref 15, .ref 16, .ref 17, .ref 18, .int 0, .ref 19, .ref 20]) :: .inl (1, 4096, .inl (rf_wr f (rf_par (ge + 1)) (rf_hd sh (ge + 1) gr L so) t)) :: .inl (1, 50, .inl so) :: .inl (1, 50, .inl fi) :: .inl (1, 50, .inl nu) :: .inl (1, 50, .inl le) :: .inl (1, 2000, .inl bs) :: .inl (1, 40, .inl ma) :: .inl (1, 64, .inl (rf_hd sh (ge + 1) gr L so)) :: rest) v w) ∨ (¬ nI L = nI K ∧ rf_now go ga = false ∧ am_is (some (.int (nI K - nI L))) (c0 :: c1 :: c2 :: c3 :: c4 :: c5 :: c6 :: c7 :: c8 :: c9 :: c10 :: c11 :: .inr (5, [.int 0, .int S, .ref 13, .int (wr + 1), .int 0, .int go, .int (rf_ga go ga), .int (nI t), .int (ge + 1), .int gr, .int (nI L), .ref 14, .int nx, .int wt, .ref 15, .ref 16, .ref 17, .ref 18, .int sz, .ref 19, .ref 20]) :: .inl (1, 4096, .inl (rf_wr f (rf_par (ge + 1)) (rf_hd sh (ge + 1) gr L so) 64)) :: .inl (1, 50, .inl so) :: .inl (1, 50, .inl fi) :: .inl (1, 50, .inl nu) :: .inl (1, 50, .inl le) :: .inl (1, 2000, .inl bs) :: .inl (1, 40, .inl ma) :: .inl (1, 64, .inl (rf_hd sh (ge + 1) gr L so)) :: rest) v w)
  | m + 1, k, so, L => fun v w => (rf_out f bf (so (nI k).toNatClampNeg) = true ∧ rdP c0 c1 c2 c3 c4 c5 c6 c7 c8 c9 c10 c11 rest S wr go ga ge gr nx wt sz f fi nu le bs ma sh bf K t m (k + 1) so L v w) ∨ (rf_out f bf (so (nI k).toNatClampNeg) = false ∧ rdP c0 c1 c2 c3 c4 c5 c6 c7 c8 c9 c10 c11 rest S wr go ga ge gr nx wt sz f fi nu le bs ma sh bf K t m (k + 1) (upd so (nI L).toNatClampNeg (so (nI k).toNatClampNeg)) (L + 1) v w)
section PD
variable (l : Launch) (D : va_G) (tc : Nat → ClassId) (b : Nat)
set_option maxHeartbeats 4000000 in
set_option maxRecDepth 100000 in
theorem r_drop_l (c0 c1 c2 c3 c4 c5 c6 c7 c8 c9 c10 c11 : am_E) (rest : am_W) (S wr go ga ge gr nx wt sz : Int32) (f fi nu le bs ma sh : Nat → Int32) (bf : Int32) (K t a : Nat) (hK : K ≤ 50) (ha : a ≤ 64) (ht : t ≤ 64) (m : Nat) : ∀ (k : Nat) (so : Nat → Int32) (L : Nat) (z5 z6 : Option Value) (hL : L ≤ k) (hso : rf_secs so K a), k + m = K → am_R lw_tbl vwCl l D tc b RX5 cX5_drop 7 (some .int) (false, []) (am_rm 6 0 0) 0 0 (rdP c0 c1 c2 c3 c4 c5 c6 c7 c8 c9 c10 c11 rest S wr go ga ge gr nx wt sz f fi nu le bs ma sh bf K t m k so L) 0 0 25 [some (.ref 12), some (.int bf), some (.int (nI L)), some (.int (nI K)), some (.int (nI k)), z5, z6] [] (c0 :: c1 :: c2 :: c3 :: c4 :: c5 :: c6 :: c7 :: c8 :: c9 :: c10 :: c11 :: .inr (5, [.int 0, .int S, .ref 13, .int wr, .int 0, .int go, .int ga, .int (nI t), .int ge, .int gr, .int (nI K), .ref 14, .int nx, .int wt, .ref 15, .ref 16, .ref 17, .ref 18, .int sz, .ref 19, .ref 20]) :: .inl (1, 4096, .inl f) :: .inl (1, 50, .inl so) :: .inl (1, 50, .inl fi) :: .inl (1, 50, .inl nu) :: .inl (1, 50, .inl le) :: .inl (1, 2000, .inl bs) :: .inl (1, 40, .inl ma) :: .inl (1, 64, .inl sh) :: rest) := by
  induction m with
  | zero =>
    intro k so L z5 z6 hL hso hk
    have hk : k = K := by omega
    subst hk
    iterate 2 refine am_s am_cls okX5_drop rfl ?_
    refine am_b okX5_drop rfl (fun h28 => ?_) (fun h28 => ?_)
    · skip
      iterate 5 refine am_s am_cls okX5_drop rfl ?_
      refine am_b okX5_drop rfl (fun h117 => ?_) (fun h117 => ?_)
      · skip
        refine am_s am_cls okX5_drop rfl ?_
        refine am_ri okX5_drop rfl rfl rfl (Nat.le_refl _) (Nat.le_refl _) ?_
        simp only [rdP]
        exact Or.inl ⟨h117, rfl, rfl⟩
      · skip
        refine am_s am_cls okX5_drop rfl ?_
        refine am_cV okX5_drop rfl (r_wh l D tc b _ _ _ _ _ _ _ _ _ _ _ _ _ _ _ _ _ _ _ _ _ _ _ _ _ _ _ _ _ _ _ _ _ _ (by omega) ht) cv_X5_119 coX5_writeHead rfl rfl rfl ⟨rfl, rfl, rfl⟩ ⟨Nat.le_refl _, Nat.le_refl _⟩ ?_
        rintro _ _ (⟨hw, rfl, rfl⟩ | ⟨hw, rfl, rfl⟩)
        · skip
          refine am_b okX5_drop rfl (fun h126 => ?_) (fun h126 => ?_)
          · try replace h126 := pd_b0 h126
            refine am_s am_cls okX5_drop rfl ?_
            refine am_ri okX5_drop rfl rfl rfl (Nat.le_refl _) (Nat.le_refl _) ?_
            simp only [rdP]
            exact Or.inr (Or.inl ⟨h117, hw, rfl, rfl⟩)
          · exact absurd rfl h126
        · skip
          refine am_b okX5_drop rfl (fun h126 => ?_) (fun h126 => ?_)
          · exact absurd h126 (by decide)
          · try replace h126 := pd_b1 h126
            iterate 4 refine am_s am_cls okX5_drop rfl ?_
            refine am_ri okX5_drop rfl rfl rfl (Nat.le_refl _) (Nat.le_refl _) ?_
            simp only [rdP]
            exact Or.inr (Or.inr ⟨h117, hw, rfl, rfl⟩)
    · exact absurd (nI_le (a := k) (b := k) (Nat.le_refl _) (by omega)) h28
  | succ m ih =>
    intro k so L z5 z6 hL hso hk
    iterate 2 refine am_s am_cls okX5_drop rfl ?_
    refine am_b okX5_drop rfl (fun h28 => ?_) (fun h28 => ?_)
    · exact absurd h28 (nI_ge (a := k) (b := K) (by omega) (by omega))
    · skip
      iterate 4 refine am_s am_cls okX5_drop rfl ?_
      refine am_al okX5_drop rfl (vp_in_nI (n := k) (N := 50) (by omega) (by decide)) ?_
      iterate 4 refine am_s am_cls okX5_drop rfl ?_
      refine am_cV okX5_drop rfl (r_isWrong l D tc b _ _ _ _ _ _ _ _ _ _ _ _ _ _ _ _ _ _ _ _ _ _ _ _ _ _ _ _ _ _ _ _ _ _ _ (vp_in_nI (n := k) (N := 50) (by omega) (by decide)) (hso.ok ha _ (by rw [nI_clamp (by omega)]; omega))) cv_X5_126 coX5_isWrong rfl rfl rfl ⟨rfl, rfl, rfl⟩ ⟨Nat.le_refl _, Nat.le_refl _⟩ ?_
      rintro _ _ ⟨rfl, rfl⟩
      refine am_b okX5_drop rfl (fun h49 => ?_) (fun h49 => ?_)
      · try replace h49 := pd_b0 h49
        iterate 3 refine am_s am_cls okX5_drop rfl ?_
        refine am_al okX5_drop rfl (rf_v0 (hso.ok ha _ (by rw [nI_clamp (by omega)]; omega))) ?_
        refine am_s am_cls okX5_drop rfl ?_
        refine am_b okX5_drop rfl (fun h61 => ?_) (fun h61 => ?_)
        · skip
          iterate 3 refine am_s am_cls okX5_drop rfl ?_
          refine am_b okX5_drop rfl (fun h85 => ?_) (fun h85 => ?_)
          · try replace h85 := pd_b0 h85
            iterate 6 refine am_s am_cls okX5_drop rfl ?_
            refine am_al okX5_drop rfl (vp_in_nI (n := k) (N := 50) (by omega) (by decide)) ?_
            refine am_as okX5_drop rfl (vp_in_nI (n := L) (N := 50) (by omega) (by decide)) ?_
            iterate 3 refine am_s am_cls okX5_drop rfl ?_
            refine am_po (fun v w z => ?_) (by
              have q := ih (k + 1) (upd so (nI L).toNatClampNeg (so (nI k).toNatClampNeg)) (L + 1) (some (.int (64 * so (nI k).toNatClampNeg))) (some (.int 0)) (by omega) (by rw [nI_clamp (n := k) (by omega)]; exact hso.cop (by omega)) (by omega)
              rw [nI_succ k, nI_succ L] at q
              exact q)
            simp only [rdP]
            exact Or.inr ⟨by simp [rf_out, h49, h61], z⟩
          · exact absurd rfl h85
        · skip
          iterate 4 refine am_s am_cls okX5_drop rfl ?_
          refine am_cV okX5_drop rfl (r_four l D tc b _ _ _ _ _ _ _ _ _ _ _ _ _ _ _ _ _ _ _ _ _ _ _ _ _ _ _ _ _ _ _ _ _ _ (64 * so (nI k).toNatClampNeg + 1) (rf_pa (rf_64 (hso.ok ha _ (by rw [nI_clamp (by omega)]; omega))) 1 3 (by decide))) cv_X5_49 coX5_fourAt rfl rfl rfl ⟨rfl, rfl, rfl⟩ ⟨Nat.le_refl _, Nat.le_refl _⟩ ?_
          rintro _ _ ⟨rfl, rfl⟩
          refine am_s am_cls okX5_drop rfl ?_
          refine am_b okX5_drop rfl (fun h73 => ?_) (fun h73 => ?_)
          · skip
            iterate 3 refine am_s am_cls okX5_drop rfl ?_
            refine am_b okX5_drop rfl (fun h85 => ?_) (fun h85 => ?_)
            · try replace h85 := pd_b0 h85
              iterate 6 refine am_s am_cls okX5_drop rfl ?_
              refine am_al okX5_drop rfl (vp_in_nI (n := k) (N := 50) (by omega) (by decide)) ?_
              refine am_as okX5_drop rfl (vp_in_nI (n := L) (N := 50) (by omega) (by decide)) ?_
              iterate 3 refine am_s am_cls okX5_drop rfl ?_
              refine am_po (fun v w z => ?_) (by
                have q := ih (k + 1) (upd so (nI L).toNatClampNeg (so (nI k).toNatClampNeg)) (L + 1) (some (.int (64 * so (nI k).toNatClampNeg))) (some (.int 0)) (by omega) (by rw [nI_clamp (n := k) (by omega)]; exact hso.cop (by omega)) (by omega)
                rw [nI_succ k, nI_succ L] at q
                exact q)
              simp only [rdP]
              exact Or.inr ⟨by simp [rf_out, h49, h61, h73], z⟩
            · exact absurd rfl h85
          · skip
            iterate 4 refine am_s am_cls okX5_drop rfl ?_
            refine am_b okX5_drop rfl (fun h85 => ?_) (fun h85 => ?_)
            · exact absurd h85 (by decide)
            · try replace h85 := pd_b1 h85
              iterate 2 refine am_s am_cls okX5_drop rfl ?_
              refine am_po (fun v w z => ?_) (by
                have q := ih (k + 1) so L (some (.int (64 * so (nI k).toNatClampNeg))) (some (.int 1)) (by omega) hso (by omega)
                rw [nI_succ k] at q
                exact q)
              simp only [rdP]
              exact Or.inl ⟨by simp [rf_out, h49, h61, h73], z⟩
      · try replace h49 := pd_b1 h49
        iterate 3 refine am_s am_cls okX5_drop rfl ?_
        refine am_b okX5_drop rfl (fun h85 => ?_) (fun h85 => ?_)
        · try replace h85 := pd_b0 h85
          iterate 6 refine am_s am_cls okX5_drop rfl ?_
          refine am_al okX5_drop rfl (vp_in_nI (n := k) (N := 50) (by omega) (by decide)) ?_
          refine am_as okX5_drop rfl (vp_in_nI (n := L) (N := 50) (by omega) (by decide)) ?_
          iterate 3 refine am_s am_cls okX5_drop rfl ?_
          refine am_po (fun v w z => ?_) (by
            have q := ih (k + 1) (upd so (nI L).toNatClampNeg (so (nI k).toNatClampNeg)) (L + 1) (some (.int (64 * so (nI k).toNatClampNeg))) (some (.int 0)) (by omega) (by rw [nI_clamp (n := k) (by omega)]; exact hso.cop (by omega)) (by omega)
            rw [nI_succ k, nI_succ L] at q
            exact q)
          simp only [rdP]
          exact Or.inr ⟨by simp [rf_out, h49], z⟩
        · exact absurd rfl h85
set_option maxHeartbeats 4000000 in
set_option maxRecDepth 100000 in
theorem r_drop_u (c0 c1 c2 c3 c4 c5 c6 c7 c8 c9 c10 c11 : am_E) (rest : am_W) (th S wr go ga ge gr nx wt sz : Int32) (f so fi nu le bs ma sh : Nat → Int32) (bf : Int32) (K t a : Nat) (hK : K ≤ 50) (ha : a ≤ 64) (ht : t ≤ 64) (hso : rf_secs so K a) : cM l D tc b yX5_drop cX5_drop 7 (some .int) 6 0 0 [.ref 12, .int bf] (c0 :: c1 :: c2 :: c3 :: c4 :: c5 :: c6 :: c7 :: c8 :: c9 :: c10 :: c11 :: .inr (5, [.int th, .int S, .ref 13, .int wr, .int 0, .int go, .int ga, .int (nI t), .int ge, .int gr, .int (nI K), .ref 14, .int nx, .int wt, .ref 15, .ref 16, .ref 17, .ref 18, .int sz, .ref 19, .ref 20]) :: .inl (1, 4096, .inl f) :: .inl (1, 50, .inl so) :: .inl (1, 50, .inl fi) :: .inl (1, 50, .inl nu) :: .inl (1, 50, .inl le) :: .inl (1, 2000, .inl bs) :: .inl (1, 40, .inl ma) :: .inl (1, 64, .inl sh) :: rest)
    (rdP c0 c1 c2 c3 c4 c5 c6 c7 c8 c9 c10 c11 rest S wr go ga ge gr nx wt sz f fi nu le bs ma sh bf K t K 0 so 0) := by
  refine am_m (own := RX5) (ini := (false, [])) (L := [some (.ref 12), some (.int bf), none, none, none, none, none]) rfl (by decide) (fun h => absurd h (by decide)) rfl (Nat.le_of_ble_eq_true rfl) rfl rfl ?_
  iterate 5 refine am_s am_cls okX5_drop rfl ?_
  refine am_b okX5_drop rfl (fun h9 => ?_) (fun h9 => ?_)
  · try replace h9 := pd_b0 h9
    iterate 7 refine am_s am_cls okX5_drop rfl ?_
    have q := r_drop_l l D tc b c0 c1 c2 c3 c4 c5 c6 c7 c8 c9 c10 c11 rest S wr go ga ge gr nx wt sz f fi nu le bs ma sh bf K t a hK ha ht K 0 so 0 none none (Nat.le_refl _) hso (Nat.zero_add _)
    rw [nI_0] at q
    exact q
  · exact absurd rfl h9
end PD
