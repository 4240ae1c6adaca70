/-! ===== printed by wip/pd_refg.py: the reference, sync ===== -/
theorem rf_lele {x : Int32} (h : ∃ L : Nat, x = nI L ∧ L ≤ 40) : x = nI x.toNatClampNeg ∧ x.toNatClampNeg ≤ 40 := by
  obtain ⟨L, rfl, hL⟩ := h
  rw [nI_clamp (by omega)]
  exact ⟨rfl, hL⟩
theorem rf_free_ok {so : Nat → Int32} {K a : Nat} (h : rf_secs so K a) (hK : K ≤ 50) (ha : a ≤ 64) (hr : K + 2 < a) : rf_ok (rf_free so K 62 2) := by
  obtain ⟨s, e, -, h2, -⟩ := rf_free_room h hK ha hr
  exact ⟨s, e, by omega⟩
theorem rf_free_put {so : Nat → Int32} {K a : Nat} (h : rf_secs so K a) (hK : K < 50) (ha : a ≤ 64) (hr : K + 2 < a) : rf_secs (upd so (nI K).toNatClampNeg (rf_free so K 62 2)) (K + 1) a := by
  obtain ⟨s, e, h1, h2, -⟩ := rf_free_room h (by omega) ha hr
  rw [e]
  exact h.put hK h1 h2
def srP (c0 c1 c2 c3 c4 c5 c6 c7 c8 c9 c10 c11 : am_E) (rest : am_W) (S go ge nx sz : Int32) (fi nu le bs ma : Nat → Int32) (E t : Nat) : Nat → Nat → (Nat → Int32) → Nat → Int32 → (Nat → Int32) → (Nat → Int32) → Int32 → Int32 → Option Value → am_W → Prop
  | 0, _, so, K, gr, f, sh, wr, ga => fun v w => (rf_now go ga = true ∧ am_is (some (.int (-34))) (c0 :: c1 :: c2 :: c3 :: c4 :: c5 :: c6 :: c7 :: c8 :: c9 :: c10 :: c11 :: .inr (5, [.int 0, .int S, .ref 13, .int (wr + 1), .int 1, .int 0, .int ga, .int (nI t), .int (ge + 1), .int gr, .int (nI K), .ref 14, .int nx, .int 0, .ref 15, .ref 16, .ref 17, .ref 18, .int 0, .ref 19, .ref 20]) :: .inl (1, 4096, .inl (rf_wr f (rf_par (ge + 1)) (rf_hd sh (ge + 1) gr K so) t)) :: .inl (1, 50, .inl so) :: .inl (1, 50, .inl fi) :: .inl (1, 50, .inl nu) :: .inl (1, 50, .inl le) :: .inl (1, 2000, .inl bs) :: .inl (1, 40, .inl ma) :: .inl (1, 64, .inl (rf_hd sh (ge + 1) gr K so)) :: rest) v w) ∨ (rf_now go ga = false ∧ am_is (some (.int (nI E))) (c0 :: c1 :: c2 :: c3 :: c4 :: c5 :: c6 :: c7 :: c8 :: c9 :: c10 :: c11 :: .inr (5, [.int 0, .int S, .ref 13, .int (wr + 1), .int 0, .int go, .int (rf_ga go ga), .int (nI t), .int (ge + 1), .int gr, .int (nI K), .ref 14, .int nx, .int 0, .ref 15, .ref 16, .ref 17, .ref 18, .int sz, .ref 19, .ref 20]) :: .inl (1, 4096, .inl (rf_wr f (rf_par (ge + 1)) (rf_hd sh (ge + 1) gr K so) 64)) :: .inl (1, 50, .inl so) :: .inl (1, 50, .inl fi) :: .inl (1, 50, .inl nu) :: .inl (1, 50, .inl le) :: .inl (1, 2000, .inl bs) :: .inl (1, 40, .inl ma) :: .inl (1, 64, .inl (rf_hd sh (ge + 1) gr K so)) :: rest) v w)
  | m + 1, k, so, K, gr, f, sh, wr, ga => fun v w => (rf_now go ga = true ∧ am_is (some (.int (-34))) (c0 :: c1 :: c2 :: c3 :: c4 :: c5 :: c6 :: c7 :: c8 :: c9 :: c10 :: c11 :: .inr (5, [.int 0, .int S, .ref 13, .int (wr + 1), .int 1, .int 0, .int ga, .int (nI t), .int ge, .int gr, .int (nI K), .ref 14, .int nx, .int 0, .ref 15, .ref 16, .ref 17, .ref 18, .int 0, .ref 19, .ref 20]) :: .inl (1, 4096, .inl (rf_wr f (rf_free so K 62 2) (rf_rw sh fi nu le bs (nI k) (le (nI k).toNatClampNeg).toNatClampNeg) t)) :: .inl (1, 50, .inl so) :: .inl (1, 50, .inl fi) :: .inl (1, 50, .inl nu) :: .inl (1, 50, .inl le) :: .inl (1, 2000, .inl bs) :: .inl (1, 40, .inl ma) :: .inl (1, 64, .inl (rf_rw sh fi nu le bs (nI k) (le (nI k).toNatClampNeg).toNatClampNeg)) :: rest) v w) ∨ (rf_now go ga = false ∧ srP c0 c1 c2 c3 c4 c5 c6 c7 c8 c9 c10 c11 rest S go ge nx sz fi nu le bs ma E t m (k + 1) (upd so (nI K).toNatClampNeg (rf_free so K 62 2)) (K + 1) (nu (nI k).toNatClampNeg) (rf_wr f (rf_free so K 62 2) (rf_rw sh fi nu le bs (nI k) (le (nI k).toNatClampNeg).toNatClampNeg) 64) (rf_rw sh fi nu le bs (nI k) (le (nI k).toNatClampNeg).toNatClampNeg) (wr + 1) (rf_ga go ga) v w)
section PD
variable (l : Launch) (D : va_G) (tc : Nat → ClassId) (b : Nat)
set_option maxHeartbeats 4000000 in
set_option maxRecDepth 100000 in
theorem r_sync_l (c0 c1 c2 c3 c4 c5 c6 c7 c8 c9 c10 c11 : am_E) (rest : am_W) (S go ge nx sz : Int32) (fi nu le bs ma : Nat → Int32) (E t a : Nat) (hle : ∀ w, w < E → ∃ L : Nat, le w = nI L ∧ L ≤ 40) (hE : E ≤ 50) (ha : a ≤ 64) (ht : t ≤ 64) (m : Nat) : ∀ (k : Nat) (so : Nat → Int32) (K : Nat) (gr : Int32) (f sh : Nat → Int32) (wr ga : Int32) (z3 : Option Value) (hso : rf_secs so K a) (hKa : K + m + 2 ≤ a) (hK5 : K + m ≤ 50), k + m = E → am_R lw_tbl vwCl l D tc b RX5 cX5_sync 4 (some .int) (false, []) (am_rm 5 0 0) 0 0 (srP c0 c1 c2 c3 c4 c5 c6 c7 c8 c9 c10 c11 rest S go ge nx sz fi nu le bs ma E t m k so K gr f sh wr ga) 0 0 28 [some (.ref 12), some (.int (nI E)), some (.int (nI k)), z3] [] (c0 :: c1 :: c2 :: c3 :: c4 :: c5 :: c6 :: c7 :: c8 :: c9 :: c10 :: c11 :: .inr (5, [.int 0, .int S, .ref 13, .int wr, .int 0, .int go, .int ga, .int (nI t), .int ge, .int gr, .int (nI K), .ref 14, .int nx, .int (nI E), .ref 15, .ref 16, .ref 17, .ref 18, .int sz, .ref 19, .ref 20]) :: .inl (1, 4096, .inl f) :: .inl (1, 50, .inl so) :: .inl (1, 50, .inl fi) :: .inl (1, 50, .inl nu) :: .inl (1, 50, .inl le) :: .inl (1, 2000, .inl bs) :: .inl (1, 40, .inl ma) :: .inl (1, 64, .inl sh) :: rest) := by
  induction m with
  | zero =>
    intro k so K gr f sh wr ga z3 hso hKa hK5 hk
    have hk : k = E := by omega
    subst hk
    iterate 2 refine am_s am_cls okX5_sync rfl ?_
    refine am_b okX5_sync rfl (fun h30 => ?_) (fun h30 => ?_)
    · skip
      refine am_s am_cls okX5_sync rfl ?_
      refine am_cV okX5_sync rfl (r_wh l D tc b _ _ _ _ _ _ _ _ _ _ _ _ _ _ _ _ _ _ _ _ _ _ _ _ _ _ _ _ _ _ _ _ _ _ (by omega) ht) cv_X5_119 coX5_writeHead rfl rfl rfl ⟨rfl, rfl, rfl⟩ ⟨Nat.le_refl _, Nat.le_refl _⟩ ?_
      rintro _ _ (⟨hw, rfl, rfl⟩ | ⟨hw, rfl, rfl⟩)
      · skip
        refine am_b okX5_sync rfl (fun h94 => ?_) (fun h94 => ?_)
        · try replace h94 := pd_b0 h94
          refine am_s am_cls okX5_sync rfl ?_
          refine am_ri okX5_sync rfl rfl rfl (Nat.le_refl _) (Nat.le_refl _) ?_
          simp only [srP]
          exact Or.inl ⟨hw, rfl, rfl⟩
        · exact absurd rfl h94
      · skip
        refine am_b okX5_sync rfl (fun h94 => ?_) (fun h94 => ?_)
        · exact absurd h94 (by decide)
        · try replace h94 := pd_b1 h94
          iterate 4 refine am_s am_cls okX5_sync rfl ?_
          refine am_ri okX5_sync rfl rfl rfl (Nat.le_refl _) (Nat.le_refl _) ?_
          simp only [srP]
          exact Or.inr ⟨hw, rfl, rfl⟩
    · exact absurd (nI_le (a := k) (b := k) (Nat.le_refl _) (by omega)) h30
  | succ m ih =>
    intro k so K gr f sh wr ga z3 hso hKa hK5 hk
    have hx := rf_lele (by rw [nI_clamp (n := k) (by omega)]; exact hle k (by omega) : ∃ L : Nat, le (nI k).toNatClampNeg = nI L ∧ L ≤ 40)
    iterate 2 refine am_s am_cls okX5_sync rfl ?_
    refine am_b okX5_sync rfl (fun h30 => ?_) (fun h30 => ?_)
    · exact absurd h30 (nI_ge (a := k) (b := E) (by omega) (by omega))
    · skip
      refine am_s am_cls okX5_sync rfl ?_
      refine am_cV okX5_sync rfl (r_free l D tc b _ _ _ _ _ _ _ _ _ _ _ _ _ _ _ _ _ _ _ _ _ _ _ _ _ _ _ _ _ _ _ _ _ _ (by omega) (rf_kept_no hso (by omega) ha ha (by decide))) cv_X5_111 coX5_free rfl rfl rfl ⟨rfl, rfl, rfl⟩ ⟨Nat.le_refl _, Nat.le_refl _⟩ ?_
      rintro _ _ ⟨rfl, rfl⟩
      iterate 3 refine am_s am_cls okX5_sync rfl ?_
      refine am_cV okX5_sync rfl (r_fill l D tc b _ _ _ _ _ _ _ _ _ _ _ _ _ _ _ _ _ _ _ _ _ _ _ _ _ _ _ _ _ _ _ _ _ _ _ _ ⟨k, rfl, by omega⟩ hx.1 hx.2) cv_X5_115 coX5_fill rfl rfl rfl ⟨rfl, rfl, rfl⟩ ⟨Nat.le_refl _, Nat.le_refl _⟩ ?_
      rintro _ _ ⟨rfl, rfl⟩
      iterate 2 refine am_s am_cls okX5_sync rfl ?_
      refine am_cV okX5_sync rfl (r_write l D tc b _ _ _ _ _ _ _ _ _ _ _ _ _ _ _ _ _ _ _ _ _ _ _ _ _ _ _ _ _ _ _ _ _ _ _ (rf_free_ok hso (by omega) ha (by omega)) ht) cv_X5_100 coX5_write rfl rfl rfl ⟨rfl, rfl, rfl⟩ ⟨Nat.le_refl _, Nat.le_refl _⟩ ?_
      rintro _ _ (⟨hw, rfl, rfl⟩ | ⟨hw, rfl, rfl⟩)
      · skip
        refine am_b okX5_sync rfl (fun h48 => ?_) (fun h48 => ?_)
        · try replace h48 := pd_b0 h48
          refine am_s am_cls okX5_sync rfl ?_
          refine am_ri okX5_sync rfl rfl rfl (Nat.le_refl _) (Nat.le_refl _) ?_
          simp only [srP]
          exact Or.inl ⟨hw, rfl, rfl⟩
        · exact absurd rfl h48
      · skip
        refine am_b okX5_sync rfl (fun h48 => ?_) (fun h48 => ?_)
        · exact absurd h48 (by decide)
        · try replace h48 := pd_b1 h48
          iterate 5 refine am_s am_cls okX5_sync rfl ?_
          refine am_as okX5_sync rfl (vp_in_nI (n := K) (N := 50) (by omega) (by decide)) ?_
          iterate 10 refine am_s am_cls okX5_sync rfl ?_
          refine am_al okX5_sync rfl (vp_in_nI (n := k) (N := 50) (by omega) (by decide)) ?_
          iterate 3 refine am_s am_cls okX5_sync rfl ?_
          refine am_po (fun v w z => ?_) (by
            have q := ih (k + 1) (upd so (nI K).toNatClampNeg (rf_free so K 62 2)) (K + 1) (nu (nI k).toNatClampNeg) (rf_wr f (rf_free so K 62 2) (rf_rw sh fi nu le bs (nI k) (le (nI k).toNatClampNeg).toNatClampNeg) 64) (rf_rw sh fi nu le bs (nI k) (le (nI k).toNatClampNeg).toNatClampNeg) (wr + 1) (rf_ga go ga) (some (.int (rf_free so K 62 2))) (rf_free_put hso (by omega) ha (by omega)) (by omega) (by omega) (by omega)
            rw [nI_succ k, nI_succ K] at q
            exact q)
          simp only [srP]
          exact Or.inr ⟨hw, z⟩
set_option maxHeartbeats 4000000 in
set_option maxRecDepth 100000 in
theorem r_sync_u (c0 c1 c2 c3 c4 c5 c6 c7 c8 c9 c10 c11 : am_E) (rest : am_W) (th S wr go ga ge gr nx sz : Int32) (f so fi nu le bs ma sh : Nat → Int32) (E K t a : Nat) (hle : ∀ w, w < E → ∃ L : Nat, le w = nI L ∧ L ≤ 40) (hE : E ≤ 50) (ha : a ≤ 64) (ht : t ≤ 64) (hso : rf_secs so K a) (hKa : E = 0 ∨ K + E + 2 ≤ a) (hK5 : E = 0 ∨ K + E ≤ 50) : cM l D tc b yX5_sync cX5_sync 4 (some .int) 5 0 0 [.ref 12] (c0 :: c1 :: c2 :: c3 :: c4 :: c5 :: c6 :: c7 :: c8 :: c9 :: c10 :: c11 :: .inr (5, [.int th, .int S, .ref 13, .int wr, .int 0, .int go, .int ga, .int (nI t), .int ge, .int gr, .int (nI K), .ref 14, .int nx, .int (nI E), .ref 15, .ref 16, .ref 17, .ref 18, .int sz, .ref 19, .ref 20]) :: .inl (1, 4096, .inl f) :: .inl (1, 50, .inl so) :: .inl (1, 50, .inl fi) :: .inl (1, 50, .inl nu) :: .inl (1, 50, .inl le) :: .inl (1, 2000, .inl bs) :: .inl (1, 40, .inl ma) :: .inl (1, 64, .inl sh) :: rest)
    (fun v w => (nI E = 0 ∧ am_is (some (.int 0)) (c0 :: c1 :: c2 :: c3 :: c4 :: c5 :: c6 :: c7 :: c8 :: c9 :: c10 :: c11 :: .inr (5, [.int 0, .int S, .ref 13, .int wr, .int 0, .int go, .int ga, .int (nI t), .int ge, .int gr, .int (nI K), .ref 14, .int nx, .int (nI E), .ref 15, .ref 16, .ref 17, .ref 18, .int sz, .ref 19, .ref 20]) :: .inl (1, 4096, .inl f) :: .inl (1, 50, .inl so) :: .inl (1, 50, .inl fi) :: .inl (1, 50, .inl nu) :: .inl (1, 50, .inl le) :: .inl (1, 2000, .inl bs) :: .inl (1, 40, .inl ma) :: .inl (1, 64, .inl sh) :: rest) v w) ∨ (¬ nI E = 0 ∧ srP c0 c1 c2 c3 c4 c5 c6 c7 c8 c9 c10 c11 rest S go ge nx sz fi nu le bs ma E t E 0 so K gr f sh wr ga v w)) := by
  refine am_m (own := RX5) (ini := (false, [])) (L := [some (.ref 12), none, none, none]) rfl (by decide) (fun h => absurd h (by decide)) rfl (Nat.le_of_ble_eq_true rfl) rfl rfl ?_
  iterate 5 refine am_s am_cls okX5_sync rfl ?_
  refine am_b okX5_sync rfl (fun h9 => ?_) (fun h9 => ?_)
  · try replace h9 := pd_b0 h9
    iterate 4 refine am_s am_cls okX5_sync rfl ?_
    refine am_b okX5_sync rfl (fun h21 => ?_) (fun h21 => ?_)
    · try replace h21 := pd_b0 h21
      refine am_s am_cls okX5_sync rfl ?_
      refine am_ri okX5_sync rfl rfl rfl (Nat.le_refl _) (Nat.le_refl _) ?_
      exact Or.inl ⟨h21, rfl, rfl⟩
    · try replace h21 := pd_b1 h21
      iterate 2 refine am_s am_cls okX5_sync rfl ?_
      have hE0 : ¬ E = 0 := fun q => h21 (by rw [q]; rfl)
      have q := r_sync_l l D tc b c0 c1 c2 c3 c4 c5 c6 c7 c8 c9 c10 c11 rest S go ge nx sz fi nu le bs ma E t a hle hE ha ht E 0 so K gr f sh wr ga none hso (by omega) (by omega) (Nat.zero_add _)
      rw [nI_0] at q
      exact am_po (fun v w z => Or.inr ⟨h21, z⟩) q
  · exact absurd rfl h9
end PD
