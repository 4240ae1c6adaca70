/-! ===== printed by wip/pd_refg.py: the reference, merge ===== -/
def rf_lb (so : Nat → Int32) : Nat → Nat → Int32 → Int32
  | 0, _, x => x
  | m + 1, k, x => rf_lb so m (k + 1) (if x = -1 then nI k else if so (nI k).toNatClampNeg ≤ so x.toNatClampNeg then x else nI k)
theorem rf_lb_0 (so : Nat → Int32) (k : Nat) (x : Int32) : rf_lb so 0 k x = x := by simp only [rf_lb]
theorem rf_lb_s (so : Nat → Int32) (m k : Nat) (x : Int32) : rf_lb so (m + 1) k x = rf_lb so m (k + 1) (if x = -1 then nI k else if so (nI k).toNatClampNeg ≤ so x.toNatClampNeg then x else nI k) := by simp only [rf_lb]
theorem rf_lb_is {so : Nat → Int32} {K : Nat} : ∀ (m k : Nat) (x : Int32), k + m = K → (x = -1 ∨ ∃ j, j < K ∧ x = nI j) → (rf_lb so m k x = -1 ∨ ∃ j, j < K ∧ rf_lb so m k x = nI j) := by
  intro m
  induction m with
  | zero => intro k x _ h; rw [rf_lb_0]; exact h
  | succ m ih =>
    intro k x hk h
    rw [rf_lb_s]
    refine ih (k + 1) _ (by omega) ?_
    by_cases h1 : x = -1
    · rw [if_pos h1]; exact Or.inr ⟨k, by omega, rfl⟩
    · rw [if_neg h1]
      by_cases h2 : so (nI k).toNatClampNeg ≤ so x.toNatClampNeg
      · rw [if_pos h2]; exact h
      · rw [if_neg h2]; exact Or.inr ⟨k, by omega, rfl⟩
def rf_cp (sh f : Nat → Int32) (s : Int32) : Nat → (Nat → Int32)
  | 0 => sh
  | k + 1 => upd (rf_cp sh f s k) (nI k).toNatClampNeg (f (64 * s + nI k).toNatClampNeg)
theorem rf_cp_0 (sh f : Nat → Int32) (s : Int32) : rf_cp sh f s 0 = sh := by simp only [rf_cp]
theorem rf_cp_s (sh f : Nat → Int32) (s : Int32) (k : Nat) : rf_cp sh f s (k + 1) = upd (rf_cp sh f s k) (nI k).toNatClampNeg (f (64 * s + nI k).toNatClampNeg) := by simp only [rf_cp]
def mrP (c0 c1 c2 c3 c4 c5 c6 c7 c8 c9 c10 c11 : am_E) (rest : am_W) (S go gr nx wt sz : Int32) (fi nu le bs ma : Nat → Int32) (K t : Nat) : Nat → Nat → (Nat → Int32) → Int32 → (Nat → Int32) → (Nat → Int32) → Int32 → Int32 → Option Value → am_W → Prop
  | 0, n, so, ge, f, sh, wr, ga => am_is (some (.int (nI n))) (c0 :: c1 :: c2 :: c3 :: c4 :: c5 :: c6 :: c7 :: c8 :: c9 :: c10 :: c11 :: .inr (5, [.int 0, .int S, .ref 13, .int wr, .int 0, .int go, .int ga, .int (nI t), .int ge, .int gr, .int (nI K), .ref 14, .int nx, .int wt, .ref 15, .ref 16, .ref 17, .ref 18, .int sz, .ref 19, .ref 20]) :: .inl (1, 4096, .inl f) :: .inl (1, 50, .inl so) :: .inl (1, 50, .inl fi) :: .inl (1, 50, .inl nu) :: .inl (1, 50, .inl le) :: .inl (1, 2000, .inl bs) :: .inl (1, 40, .inl ma) :: .inl (1, 64, .inl sh) :: rest)
  | m + 1, n, so, ge, f, sh, wr, ga => fun v w => (((rf_lb so K 0 (-1)) = -1 ∨ ¬ (rf_free so K 62 2) ≤ (so (rf_lb so K 0 (-1)).toNatClampNeg)) ∧ am_is (some (.int (nI n))) (c0 :: c1 :: c2 :: c3 :: c4 :: c5 :: c6 :: c7 :: c8 :: c9 :: c10 :: c11 :: .inr (5, [.int 0, .int S, .ref 13, .int wr, .int 0, .int go, .int ga, .int (nI t), .int ge, .int gr, .int (nI K), .ref 14, .int nx, .int wt, .ref 15, .ref 16, .ref 17, .ref 18, .int sz, .ref 19, .ref 20]) :: .inl (1, 4096, .inl f) :: .inl (1, 50, .inl so) :: .inl (1, 50, .inl fi) :: .inl (1, 50, .inl nu) :: .inl (1, 50, .inl le) :: .inl (1, 2000, .inl bs) :: .inl (1, 40, .inl ma) :: .inl (1, 64, .inl sh) :: rest) v w) ∨ ((¬ (rf_lb so K 0 (-1)) = -1 ∧ (rf_free so K 62 2) ≤ (so (rf_lb so K 0 (-1)).toNatClampNeg)) ∧ rf_now go ga = true ∧ am_is (some (.int (-34))) (c0 :: c1 :: c2 :: c3 :: c4 :: c5 :: c6 :: c7 :: c8 :: c9 :: c10 :: c11 :: .inr (5, [.int 0, .int S, .ref 13, .int (wr + 1), .int 1, .int 0, .int ga, .int (nI t), .int ge, .int gr, .int (nI K), .ref 14, .int nx, .int 0, .ref 15, .ref 16, .ref 17, .ref 18, .int 0, .ref 19, .ref 20]) :: .inl (1, 4096, .inl (rf_wr f (rf_free so K 62 2) (rf_cp sh f (so (rf_lb so K 0 (-1)).toNatClampNeg) 64) t)) :: .inl (1, 50, .inl so) :: .inl (1, 50, .inl fi) :: .inl (1, 50, .inl nu) :: .inl (1, 50, .inl le) :: .inl (1, 2000, .inl bs) :: .inl (1, 40, .inl ma) :: .inl (1, 64, .inl (rf_cp sh f (so (rf_lb so K 0 (-1)).toNatClampNeg) 64)) :: rest) v w) ∨ ((¬ (rf_lb so K 0 (-1)) = -1 ∧ (rf_free so K 62 2) ≤ (so (rf_lb so K 0 (-1)).toNatClampNeg)) ∧ rf_now go ga = false ∧ rf_now go (rf_ga go ga) = true ∧ am_is (some (.int (-34))) (c0 :: c1 :: c2 :: c3 :: c4 :: c5 :: c6 :: c7 :: c8 :: c9 :: c10 :: c11 :: .inr (5, [.int 0, .int S, .ref 13, .int ((wr + 1) + 1), .int 1, .int 0, .int (rf_ga go ga), .int (nI t), .int (ge + 1), .int gr, .int (nI K), .ref 14, .int nx, .int 0, .ref 15, .ref 16, .ref 17, .ref 18, .int 0, .ref 19, .ref 20]) :: .inl (1, 4096, .inl (rf_wr (rf_wr f (rf_free so K 62 2) (rf_cp sh f (so (rf_lb so K 0 (-1)).toNatClampNeg) 64) 64) (rf_par (ge + 1)) (rf_hd (rf_cp sh f (so (rf_lb so K 0 (-1)).toNatClampNeg) 64) (ge + 1) gr K (upd so (rf_lb so K 0 (-1)).toNatClampNeg (rf_free so K 62 2))) t)) :: .inl (1, 50, .inl (upd so (rf_lb so K 0 (-1)).toNatClampNeg (rf_free so K 62 2))) :: .inl (1, 50, .inl fi) :: .inl (1, 50, .inl nu) :: .inl (1, 50, .inl le) :: .inl (1, 2000, .inl bs) :: .inl (1, 40, .inl ma) :: .inl (1, 64, .inl (rf_hd (rf_cp sh f (so (rf_lb so K 0 (-1)).toNatClampNeg) 64) (ge + 1) gr K (upd so (rf_lb so K 0 (-1)).toNatClampNeg (rf_free so K 62 2)))) :: rest) v w) ∨ ((¬ (rf_lb so K 0 (-1)) = -1 ∧ (rf_free so K 62 2) ≤ (so (rf_lb so K 0 (-1)).toNatClampNeg)) ∧ rf_now go ga = false ∧ rf_now go (rf_ga go ga) = false ∧ mrP c0 c1 c2 c3 c4 c5 c6 c7 c8 c9 c10 c11 rest S go gr nx wt sz fi nu le bs ma K t m (n + 1) (upd so (rf_lb so K 0 (-1)).toNatClampNeg (rf_free so K 62 2)) (ge + 1) (rf_wr (rf_wr f (rf_free so K 62 2) (rf_cp sh f (so (rf_lb so K 0 (-1)).toNatClampNeg) 64) 64) (rf_par (ge + 1)) (rf_hd (rf_cp sh f (so (rf_lb so K 0 (-1)).toNatClampNeg) 64) (ge + 1) gr K (upd so (rf_lb so K 0 (-1)).toNatClampNeg (rf_free so K 62 2))) 64) (rf_hd (rf_cp sh f (so (rf_lb so K 0 (-1)).toNatClampNeg) 64) (ge + 1) gr K (upd so (rf_lb so K 0 (-1)).toNatClampNeg (rf_free so K 62 2))) ((wr + 1) + 1) (rf_ga go (rf_ga go ga)) v w)
theorem rf_mv {so : Nat → Int32} {K a : Nat} (h : rf_secs so K a) (hK : K ≤ 50) (ha : a ≤ 64) (h1 : ¬ (rf_lb so K 0 (-1)) = -1) (hl : (rf_lb so K 0 (-1)) = -1 ∨ ∃ j, j < K ∧ (rf_lb so K 0 (-1)) = nI j) (h2 : (rf_free so K 62 2) ≤ (so (rf_lb so K 0 (-1)).toNatClampNeg)) : rf_ok (so (rf_lb so K 0 (-1)).toNatClampNeg) ∧ rf_ok (rf_free so K 62 2) ∧ rf_secs (upd so (rf_lb so K 0 (-1)).toNatClampNeg (rf_free so K 62 2)) K a := by
  obtain ⟨j, hj, e⟩ := hl.resolve_left h1
  obtain ⟨s, es, hs1, hs2⟩ := h j hj
  rw [e, nI_clamp (by omega)] at h2 ⊢
  obtain ⟨g, eg, hg1, hg2, -⟩ := rf_free_lt h hK ha (by omega)
  rw [es, eg] at h2
  have hg3 : g ≤ s := by
    rw [Int32.le_iff_toInt_le, nI_toInt (by omega), nI_toInt (by omega)] at h2
    omega
  refine ⟨⟨s, es, by omega⟩, ⟨g, eg, by omega⟩, ?_⟩
  rw [eg]
  exact h.set hg1 (by omega)
section PD
variable (l : Launch) (D : va_G) (tc : Nat → ClassId) (b : Nat)
set_option maxHeartbeats 4000000 in
set_option maxRecDepth 100000 in
theorem r_last_l (c0 c1 c2 c3 c4 c5 c6 c7 c8 c9 c10 c11 : am_E) (rest : am_W) (S wr go ga ge gr nx wt sz : Int32) (f so fi nu le bs ma sh : Nat → Int32) (x F : Int32) (n K t : Nat) (z5 : Option Value) (post : Option Value → am_W → Prop) (hK : K ≤ 50) (kk : am_R lw_tbl vwCl l D tc b RX5 cX5_merge 6 (some .int) (false, []) (am_rm 6 0 0) 0 0 (post) 0 0 93 [some (.ref 12), some (.int x), some (.int (nI n)), some (.int F), some (.int (nI K)), z5] [] (c0 :: c1 :: c2 :: c3 :: c4 :: c5 :: c6 :: c7 :: c8 :: c9 :: c10 :: c11 :: .inr (5, [.int 0, .int S, .ref 13, .int wr, .int 0, .int go, .int ga, .int (nI t), .int ge, .int gr, .int (nI K), .ref 14, .int nx, .int wt, .ref 15, .ref 16, .ref 17, .ref 18, .int sz, .ref 19, .ref 20]) :: .inl (1, 4096, .inl f) :: .inl (1, 50, .inl so) :: .inl (1, 50, .inl fi) :: .inl (1, 50, .inl nu) :: .inl (1, 50, .inl le) :: .inl (1, 2000, .inl bs) :: .inl (1, 40, .inl ma) :: .inl (1, 64, .inl sh) :: rest)) (m : Nat) : ∀ (k : Nat) (y : Int32), k + m = K → rf_lb so m k y = F → (y = -1 ∨ ∃ j, j < K ∧ y = nI j) → am_R lw_tbl vwCl l D tc b RX5 cX5_merge 6 (some .int) (false, []) (am_rm 6 0 0) 0 0 (post) 0 0 50 [some (.ref 12), some (.int x), some (.int (nI n)), some (.int y), some (.int (nI k)), z5] [] (c0 :: c1 :: c2 :: c3 :: c4 :: c5 :: c6 :: c7 :: c8 :: c9 :: c10 :: c11 :: .inr (5, [.int 0, .int S, .ref 13, .int wr, .int 0, .int go, .int ga, .int (nI t), .int ge, .int gr, .int (nI K), .ref 14, .int nx, .int wt, .ref 15, .ref 16, .ref 17, .ref 18, .int sz, .ref 19, .ref 20]) :: .inl (1, 4096, .inl f) :: .inl (1, 50, .inl so) :: .inl (1, 50, .inl fi) :: .inl (1, 50, .inl nu) :: .inl (1, 50, .inl le) :: .inl (1, 2000, .inl bs) :: .inl (1, 40, .inl ma) :: .inl (1, 64, .inl sh) :: rest) := by
  induction m with
  | zero =>
    intro k y hk hF hy
    have hk : k = K := by omega
    subst hk
    iterate 3 refine am_s am_cls okX5_merge rfl ?_
    refine am_b okX5_merge rfl (fun h56 => ?_) (fun h56 => ?_)
    · skip
      rw [rf_lb_0] at hF
      subst hF
      exact kk
    · exact absurd (nI_le (a := k) (b := k) (Nat.le_refl _) (by omega)) h56
  | succ m ih =>
    intro k y hk hF hy
    iterate 3 refine am_s am_cls okX5_merge rfl ?_
    refine am_b okX5_merge rfl (fun h56 => ?_) (fun h56 => ?_)
    · exact absurd h56 (nI_ge (a := k) (b := K) (by omega) (by omega))
    · skip
      iterate 2 refine am_s am_cls okX5_merge rfl ?_
      refine am_b okX5_merge rfl (fun h61 => ?_) (fun h61 => ?_)
      · skip
        iterate 5 refine am_s am_cls okX5_merge rfl ?_
        have q := ih (k + 1) (nI k) (by omega) (by rw [rf_lb_s, if_pos h61] at hF; exact hF) (Or.inr ⟨k, by omega, rfl⟩)
        rw [nI_succ k] at q
        exact q
      · skip
        iterate 3 refine am_s am_cls okX5_merge rfl ?_
        refine am_al okX5_merge rfl (vp_in_nI (n := k) (N := 50) (by omega) (by decide)) ?_
        iterate 3 refine am_s am_cls okX5_merge rfl ?_
        refine am_al okX5_merge rfl (by obtain ⟨j, hj, rfl⟩ := hy.resolve_left h61; exact vp_in_nI (by omega) (by decide)) ?_
        refine am_b okX5_merge rfl (fun h77 => ?_) (fun h77 => ?_)
        · skip
          iterate 4 refine am_s am_cls okX5_merge rfl ?_
          have q := ih (k + 1) y (by omega) (by rw [rf_lb_s, if_neg h61, if_pos h77] at hF; exact hF) hy
          rw [nI_succ k] at q
          exact q
        · skip
          iterate 5 refine am_s am_cls okX5_merge rfl ?_
          have q := ih (k + 1) (nI k) (by omega) (by rw [rf_lb_s, if_neg h61, if_neg h77] at hF; exact hF) (Or.inr ⟨k, by omega, rfl⟩)
          rw [nI_succ k] at q
          exact q
set_option maxHeartbeats 4000000 in
set_option maxRecDepth 100000 in
theorem r_cp_l (c0 c1 c2 c3 c4 c5 c6 c7 c8 c9 c10 c11 : am_E) (rest : am_W) (S wr go ga ge gr nx wt sz : Int32) (f so fi nu le bs ma sh : Nat → Int32) (x y z4 : Int32) (n K t : Nat) (post : Option Value → am_W → Prop) (hy : vp_in y 50) (hs : rf_ok (so y.toNatClampNeg)) (kk : am_R lw_tbl vwCl l D tc b RX5 cX5_merge 6 (some .int) (false, []) (am_rm 6 0 0) 0 0 (post) 0 0 157 [some (.ref 12), some (.int x), some (.int (nI n)), some (.int y), some (.int z4), some (.int (nI 64))] [] (c0 :: c1 :: c2 :: c3 :: c4 :: c5 :: c6 :: c7 :: c8 :: c9 :: c10 :: c11 :: .inr (5, [.int 0, .int S, .ref 13, .int wr, .int 0, .int go, .int ga, .int (nI t), .int ge, .int gr, .int (nI K), .ref 14, .int nx, .int wt, .ref 15, .ref 16, .ref 17, .ref 18, .int sz, .ref 19, .ref 20]) :: .inl (1, 4096, .inl f) :: .inl (1, 50, .inl so) :: .inl (1, 50, .inl fi) :: .inl (1, 50, .inl nu) :: .inl (1, 50, .inl le) :: .inl (1, 2000, .inl bs) :: .inl (1, 40, .inl ma) :: .inl (1, 64, .inl (rf_cp sh f (so y.toNatClampNeg) 64)) :: rest)) (m : Nat) : ∀ (k : Nat), k + m = 64 → am_R lw_tbl vwCl l D tc b RX5 cX5_merge 6 (some .int) (false, []) (am_rm 6 0 0) 0 0 (post) 0 0 120 [some (.ref 12), some (.int x), some (.int (nI n)), some (.int y), some (.int z4), some (.int (nI k))] [] (c0 :: c1 :: c2 :: c3 :: c4 :: c5 :: c6 :: c7 :: c8 :: c9 :: c10 :: c11 :: .inr (5, [.int 0, .int S, .ref 13, .int wr, .int 0, .int go, .int ga, .int (nI t), .int ge, .int gr, .int (nI K), .ref 14, .int nx, .int wt, .ref 15, .ref 16, .ref 17, .ref 18, .int sz, .ref 19, .ref 20]) :: .inl (1, 4096, .inl f) :: .inl (1, 50, .inl so) :: .inl (1, 50, .inl fi) :: .inl (1, 50, .inl nu) :: .inl (1, 50, .inl le) :: .inl (1, 2000, .inl bs) :: .inl (1, 40, .inl ma) :: .inl (1, 64, .inl (rf_cp sh f (so y.toNatClampNeg) k)) :: rest) := by
  induction m with
  | zero =>
    intro k hk
    have hk : k = 64 := by omega
    subst hk
    iterate 2 refine am_s am_cls okX5_merge rfl ?_
    refine am_b okX5_merge rfl (fun h124 => ?_) (fun h124 => ?_)
    · skip
      exact kk
    · exact absurd (nI_le (a := 64) (b := 64) (Nat.le_refl _) (by decide)) h124
  | succ m ih =>
    intro k hk
    iterate 2 refine am_s am_cls okX5_merge rfl ?_
    refine am_b okX5_merge rfl (fun h124 => ?_) (fun h124 => ?_)
    · exact absurd h124 (nI_ge (a := k) (b := 64) (by omega) (by decide))
    · skip
      iterate 9 refine am_s am_cls okX5_merge rfl ?_
      refine am_al okX5_merge rfl hy ?_
      iterate 3 refine am_s am_cls okX5_merge rfl ?_
      refine am_al okX5_merge rfl (rf_vk hs (by omega)) ?_
      refine am_as okX5_merge rfl (vp_in_nI (n := k) (N := 64) (by omega) (by decide)) ?_
      iterate 2 refine am_s am_cls okX5_merge rfl ?_
      have q := ih (k + 1) (by omega)
      rw [rf_cp_s sh f (so y.toNatClampNeg) k, nI_succ k] at q
      exact q
set_option maxHeartbeats 4000000 in
set_option maxRecDepth 100000 in
theorem r_merge_l (c0 c1 c2 c3 c4 c5 c6 c7 c8 c9 c10 c11 : am_E) (rest : am_W) (S go gr nx wt sz : Int32) (fi nu le bs ma : Nat → Int32) (x : Int32) (K t a : Nat) (hK : K ≤ 50) (ha : a ≤ 64) (ha2 : 2 ≤ a) (ht : t ≤ 64) (m : Nat) : ∀ (n : Nat) (so : Nat → Int32) (ge : Int32) (f sh : Nat → Int32) (wr ga : Int32) (z3 z4 z5 : Option Value) (hso : rf_secs so K a), n + m = x.toNatClampNeg → am_R lw_tbl vwCl l D tc b RX5 cX5_merge 6 (some .int) (false, []) (am_rm 6 0 0) 0 0 (mrP c0 c1 c2 c3 c4 c5 c6 c7 c8 c9 c10 c11 rest S go gr nx wt sz fi nu le bs ma K t m n so ge f sh wr ga) 0 0 40 [some (.ref 12), some (.int x), some (.int (nI n)), z3, z4, z5] [] (c0 :: c1 :: c2 :: c3 :: c4 :: c5 :: c6 :: c7 :: c8 :: c9 :: c10 :: c11 :: .inr (5, [.int 0, .int S, .ref 13, .int wr, .int 0, .int go, .int ga, .int (nI t), .int ge, .int gr, .int (nI K), .ref 14, .int nx, .int wt, .ref 15, .ref 16, .ref 17, .ref 18, .int sz, .ref 19, .ref 20]) :: .inl (1, 4096, .inl f) :: .inl (1, 50, .inl so) :: .inl (1, 50, .inl fi) :: .inl (1, 50, .inl nu) :: .inl (1, 50, .inl le) :: .inl (1, 2000, .inl bs) :: .inl (1, 40, .inl ma) :: .inl (1, 64, .inl sh) :: rest) := by
  induction m with
  | zero =>
    intro n so ge f sh wr ga z3 z4 z5 hso hk
    have hk : n = x.toNatClampNeg := by omega
    subst hk
    iterate 2 refine am_s am_cls okX5_merge rfl ?_
    refine am_b okX5_merge rfl (fun h42 => ?_) (fun h42 => ?_)
    · skip
      refine am_s am_cls okX5_merge rfl ?_
      refine am_ri okX5_merge rfl rfl rfl (Nat.le_refl _) (Nat.le_refl _) ?_
      simp only [mrP]
      exact ⟨rfl, rfl⟩
    · exact absurd (cl_ge (Nat.le_refl _) (cl_b _)) h42
  | succ m ih =>
    intro n so ge f sh wr ga z3 z4 z5 hso hk
    have hlb := rf_lb_is (so := so) (K := K) K 0 (-1) (Nat.zero_add _) (Or.inl rfl)
    iterate 2 refine am_s am_cls okX5_merge rfl ?_
    refine am_b okX5_merge rfl (fun h42 => ?_) (fun h42 => ?_)
    · exact absurd h42 (cl_lt (by omega))
    · skip
      iterate 4 refine am_s am_cls okX5_merge rfl ?_
      rw [← nI_0]
      refine r_last_l l D tc b c0 c1 c2 c3 c4 c5 c6 c7 c8 c9 c10 c11 rest S wr go ga ge gr nx wt sz f so fi nu le bs ma sh x (rf_lb so K 0 (-1)) n K t z5 _ hK ?_ K 0 (-1) (Nat.zero_add _) rfl (Or.inl rfl)
      refine am_s am_cls okX5_merge rfl ?_
      refine am_cV okX5_merge rfl (r_free l D tc b _ _ _ _ _ _ _ _ _ _ _ _ _ _ _ _ _ _ _ _ _ _ _ _ _ _ _ _ _ _ _ _ _ _ hK (rf_kept_no hso hK ha ha (by decide))) cv_X5_111 coX5_free rfl rfl rfl ⟨rfl, rfl, rfl⟩ ⟨Nat.le_refl _, Nat.le_refl _⟩ ?_
      rintro _ _ ⟨rfl, rfl⟩
      iterate 3 refine am_s am_cls okX5_merge rfl ?_
      refine am_b okX5_merge rfl (fun h101 => ?_) (fun h101 => ?_)
      · skip
        refine am_s am_cls okX5_merge rfl ?_
        refine am_ri okX5_merge rfl rfl rfl (Nat.le_refl _) (Nat.le_refl _) ?_
        simp only [mrP]
        exact Or.inl ⟨Or.inl h101, rfl, rfl⟩
      · skip
        have hi : vp_in (rf_lb so K 0 (-1)) 50 := by obtain ⟨j, hj, e⟩ := hlb.resolve_left h101; rw [e]; exact vp_in_nI (by omega) (by decide)
        iterate 4 refine am_s am_cls okX5_merge rfl ?_
        refine am_al okX5_merge rfl hi ?_
        refine am_b okX5_merge rfl (fun h112 => ?_) (fun h112 => ?_)
        · skip
          iterate 2 refine am_s am_cls okX5_merge rfl ?_
          have hc : ¬ (rf_lb so K 0 (-1)) = -1 ∧ (rf_free so K 62 2) ≤ (so (rf_lb so K 0 (-1)).toNatClampNeg) := ⟨h101, h112⟩
          obtain ⟨hs1, hfo, hso2⟩ := rf_mv hso hK ha h101 hlb h112
          rw [← rf_cp_0 sh f (so (rf_lb so K 0 (-1)).toNatClampNeg), ← nI_0]
          refine r_cp_l l D tc b c0 c1 c2 c3 c4 c5 c6 c7 c8 c9 c10 c11 rest S wr go ga ge gr nx wt sz f so fi nu le bs ma sh x (rf_lb so K 0 (-1)) (rf_free so K 62 2) n K t _ hi hs1 ?_ 64 0 rfl
          iterate 2 refine am_s am_cls okX5_merge rfl ?_
          refine am_cV okX5_merge rfl (r_write l D tc b _ _ _ _ _ _ _ _ _ _ _ _ _ _ _ _ _ _ _ _ _ _ _ _ _ _ _ _ _ _ _ _ _ _ _ hfo ht) cv_X5_100 coX5_write rfl rfl rfl ⟨rfl, rfl, rfl⟩ ⟨Nat.le_refl _, Nat.le_refl _⟩ ?_
          rintro _ _ (⟨hw, rfl, rfl⟩ | ⟨hw, rfl, rfl⟩)
          · skip
            refine am_b okX5_merge rfl (fun h163 => ?_) (fun h163 => ?_)
            · try replace h163 := pd_b0 h163
              refine am_s am_cls okX5_merge rfl ?_
              refine am_ri okX5_merge rfl rfl rfl (Nat.le_refl _) (Nat.le_refl _) ?_
              simp only [mrP]
              exact Or.inr (Or.inl ⟨hc, hw, rfl, rfl⟩)
            · exact absurd rfl h163
          · skip
            refine am_b okX5_merge rfl (fun h163 => ?_) (fun h163 => ?_)
            · exact absurd h163 (by decide)
            · try replace h163 := pd_b1 h163
              iterate 4 refine am_s am_cls okX5_merge rfl ?_
              refine am_as okX5_merge rfl hi ?_
              refine am_s am_cls okX5_merge rfl ?_
              refine am_cV okX5_merge rfl (r_wh l D tc b _ _ _ _ _ _ _ _ _ _ _ _ _ _ _ _ _ _ _ _ _ _ _ _ _ _ _ _ _ _ _ _ _ _ (by omega) ht) cv_X5_119 coX5_writeHead rfl rfl rfl ⟨rfl, rfl, rfl⟩ ⟨Nat.le_refl _, Nat.le_refl _⟩ ?_
              rintro _ _ (⟨hv, rfl, rfl⟩ | ⟨hv, rfl, rfl⟩)
              · skip
                refine am_b okX5_merge rfl (fun h181 => ?_) (fun h181 => ?_)
                · try replace h181 := pd_b0 h181
                  refine am_s am_cls okX5_merge rfl ?_
                  refine am_ri okX5_merge rfl rfl rfl (Nat.le_refl _) (Nat.le_refl _) ?_
                  simp only [mrP]
                  exact Or.inr (Or.inr (Or.inl ⟨hc, hw, hv, rfl, rfl⟩))
                · exact absurd rfl h181
              · skip
                refine am_b okX5_merge rfl (fun h181 => ?_) (fun h181 => ?_)
                · exact absurd h181 (by decide)
                · try replace h181 := pd_b1 h181
                  iterate 2 refine am_s am_cls okX5_merge rfl ?_
                  refine am_po (fun v w z => ?_) (by
                    have q := ih (n + 1) (upd so (rf_lb so K 0 (-1)).toNatClampNeg (rf_free so K 62 2)) (ge + 1) (rf_wr (rf_wr f (rf_free so K 62 2) (rf_cp sh f (so (rf_lb so K 0 (-1)).toNatClampNeg) 64) 64) (rf_par (ge + 1)) (rf_hd (rf_cp sh f (so (rf_lb so K 0 (-1)).toNatClampNeg) 64) (ge + 1) gr K (upd so (rf_lb so K 0 (-1)).toNatClampNeg (rf_free so K 62 2))) 64) (rf_hd (rf_cp sh f (so (rf_lb so K 0 (-1)).toNatClampNeg) 64) (ge + 1) gr K (upd so (rf_lb so K 0 (-1)).toNatClampNeg (rf_free so K 62 2))) ((wr + 1) + 1) (rf_ga go (rf_ga go ga)) (some (.int (rf_lb so K 0 (-1)))) (some (.int (rf_free so K 62 2))) (some (.int (nI 64))) hso2 (by omega)
                    rw [nI_succ n] at q
                    exact q)
                  simp only [mrP]
                  exact Or.inr (Or.inr (Or.inr ⟨hc, hw, hv, z⟩))
        · skip
          refine am_s am_cls okX5_merge rfl ?_
          refine am_ri okX5_merge rfl rfl rfl (Nat.le_refl _) (Nat.le_refl _) ?_
          simp only [mrP]
          exact Or.inl ⟨Or.inr h112, rfl, rfl⟩
set_option maxHeartbeats 4000000 in
set_option maxRecDepth 100000 in
theorem r_merge_u (c0 c1 c2 c3 c4 c5 c6 c7 c8 c9 c10 c11 : am_E) (rest : am_W) (th S wr go ga ge gr nx wt sz : Int32) (f so fi nu le bs ma sh : Nat → Int32) (x : Int32) (K t a : Nat) (hK : K ≤ 50) (ha : a ≤ 64) (ha2 : 2 ≤ a) (ht : t ≤ 64) (hso : rf_secs so K a) : cM l D tc b yX5_merge cX5_merge 6 (some .int) 6 0 0 [.ref 12, .int x] (c0 :: c1 :: c2 :: c3 :: c4 :: c5 :: c6 :: c7 :: c8 :: c9 :: c10 :: c11 :: .inr (5, [.int th, .int S, .ref 13, .int wr, .int 0, .int go, .int ga, .int (nI t), .int ge, .int gr, .int (nI K), .ref 14, .int nx, .int wt, .ref 15, .ref 16, .ref 17, .ref 18, .int sz, .ref 19, .ref 20]) :: .inl (1, 4096, .inl f) :: .inl (1, 50, .inl so) :: .inl (1, 50, .inl fi) :: .inl (1, 50, .inl nu) :: .inl (1, 50, .inl le) :: .inl (1, 2000, .inl bs) :: .inl (1, 40, .inl ma) :: .inl (1, 64, .inl sh) :: rest)
    (fun v w => ((x < 0 ∨ ¬ x ≤ 100) ∧ am_is (some (.int (-12))) (c0 :: c1 :: c2 :: c3 :: c4 :: c5 :: c6 :: c7 :: c8 :: c9 :: c10 :: c11 :: .inr (5, [.int 0, .int S, .ref 13, .int wr, .int 0, .int go, .int ga, .int (nI t), .int ge, .int gr, .int (nI K), .ref 14, .int nx, .int wt, .ref 15, .ref 16, .ref 17, .ref 18, .int sz, .ref 19, .ref 20]) :: .inl (1, 4096, .inl f) :: .inl (1, 50, .inl so) :: .inl (1, 50, .inl fi) :: .inl (1, 50, .inl nu) :: .inl (1, 50, .inl le) :: .inl (1, 2000, .inl bs) :: .inl (1, 40, .inl ma) :: .inl (1, 64, .inl sh) :: rest) v w) ∨ ((¬ x < 0 ∧ x ≤ 100 ∧ ¬ wt ≤ 0) ∧ am_is (some (.int (-13))) (c0 :: c1 :: c2 :: c3 :: c4 :: c5 :: c6 :: c7 :: c8 :: c9 :: c10 :: c11 :: .inr (5, [.int 0, .int S, .ref 13, .int wr, .int 0, .int go, .int ga, .int (nI t), .int ge, .int gr, .int (nI K), .ref 14, .int nx, .int wt, .ref 15, .ref 16, .ref 17, .ref 18, .int sz, .ref 19, .ref 20]) :: .inl (1, 4096, .inl f) :: .inl (1, 50, .inl so) :: .inl (1, 50, .inl fi) :: .inl (1, 50, .inl nu) :: .inl (1, 50, .inl le) :: .inl (1, 2000, .inl bs) :: .inl (1, 40, .inl ma) :: .inl (1, 64, .inl sh) :: rest) v w) ∨ ((¬ x < 0 ∧ x ≤ 100 ∧ wt ≤ 0) ∧ mrP c0 c1 c2 c3 c4 c5 c6 c7 c8 c9 c10 c11 rest S go gr nx wt sz fi nu le bs ma K t x.toNatClampNeg 0 so ge f sh wr ga v w)) := by
  refine am_m (own := RX5) (ini := (false, [])) (L := [some (.ref 12), some (.int x), none, none, none, none]) rfl (by decide) (fun h => absurd h (by decide)) rfl (Nat.le_of_ble_eq_true rfl) rfl rfl ?_
  iterate 5 refine am_s am_cls okX5_merge rfl ?_
  refine am_b okX5_merge rfl (fun h9 => ?_) (fun h9 => ?_)
  · try replace h9 := pd_b0 h9
    refine am_s am_cls okX5_merge rfl ?_
    refine am_b okX5_merge rfl (fun h16 => ?_) (fun h16 => ?_)
    · skip
      refine am_s am_cls okX5_merge rfl ?_
      refine am_ri okX5_merge rfl rfl rfl (Nat.le_refl _) (Nat.le_refl _) ?_
      exact Or.inl ⟨Or.inl h16, rfl, rfl⟩
    · skip
      iterate 2 refine am_s am_cls okX5_merge rfl ?_
      refine am_b okX5_merge rfl (fun h22 => ?_) (fun h22 => ?_)
      · skip
        iterate 2 refine am_s am_cls okX5_merge rfl ?_
        refine am_b okX5_merge rfl (fun h32 => ?_) (fun h32 => ?_)
        · skip
          iterate 2 refine am_s am_cls okX5_merge rfl ?_
          have q := r_merge_l l D tc b c0 c1 c2 c3 c4 c5 c6 c7 c8 c9 c10 c11 rest S go gr nx wt sz fi nu le bs ma x K t a hK ha ha2 ht x.toNatClampNeg 0 so ge f sh wr ga none none none hso (Nat.zero_add _)
          rw [nI_0] at q
          exact am_po (fun v w z => Or.inr (Or.inr ⟨⟨h16, h22, h32⟩, z⟩)) q
        · skip
          refine am_s am_cls okX5_merge rfl ?_
          refine am_ri okX5_merge rfl rfl rfl (Nat.le_refl _) (Nat.le_refl _) ?_
          exact Or.inr (Or.inl ⟨⟨h16, h22, h32⟩, rfl, rfl⟩)
      · skip
        refine am_s am_cls okX5_merge rfl ?_
        refine am_ri okX5_merge rfl rfl rfl (Nat.le_refl _) (Nat.le_refl _) ?_
        exact Or.inl ⟨Or.inr h22, rfl, rfl⟩
  · exact absurd rfl h9
end PD
