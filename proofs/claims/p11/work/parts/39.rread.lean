/-! ===== printed by wip/pd_refg.py: the reference, end, start, the calls that read ===== -/
def rf_mk (kd ev : Int32) : Int32 := kd + 1 + (if ev = 0 then 0 else 16)
theorem rf_kin {k : Int32} {K : Nat} (hK : K ≤ 50) (h1 : ¬ k < 0) (h2 : k < nI K) : vp_in k 50 ∧ k.toNatClampNeg < K := by
  rcases pk_ix k (n := K) (by omega) with q | q | ⟨j, hj, rfl⟩
  · exact absurd q h1
  · exact absurd q (Int32.not_le.mpr h2)
  · exact ⟨vp_in_nI (by omega) (by decide), by rw [nI_clamp (by omega)]; exact hj⟩
def rf_rowv (f so : Nat → Int32) (K : Nat) (k x : Int32) : Int32 := if x < 0 then -12 else if ¬ x ≤ 4 then -12 else if k < 0 then -1 else if ¬ k < nI K then -1 else if x = 4 then so k.toNatClampNeg else if rf_wrong f (so k.toNatClampNeg) = true then -1 else if x = 0 then rf_four f (64 * so k.toNatClampNeg + 1) else if x = 1 then f (64 * so k.toNatClampNeg).toNatClampNeg - f (64 * so k.toNatClampNeg).toNatClampNeg / 16 * 16 - 1 else if x = 2 then f (64 * so k.toNatClampNeg).toNatClampNeg / 16 else f (64 * so k.toNatClampNeg + 5).toNatClampNeg
theorem rf_ai {f : Nat → Int32} {s i : Int32} (hs : rf_ok s) (hw : rf_wrong f s = false) (h1 : ¬ i < 0) (h2 : ¬ f (64 * s + 5).toNatClampNeg ≤ i) : vp_in (64 * s + 6 + i) 4096 := by
  simp only [rf_wrong, Bool.or_eq_false_iff, Bool.not_eq_false', decide_eq_true_eq] at hw
  rcases pk_ix i (n := 40) (by decide) with q | q | ⟨j, hj, rfl⟩
  · exact absurd q h1
  · exact absurd (Int32.le_trans hw.2 q) h2
  · exact rf_pk (rf_pa (rf_64 hs) 6 57 (by decide)) (by decide) j (by omega)
theorem rf_head_9 {f : Nat → Int32} {S s : Int32} (h : rf_head f S s = true) : (f (64 * s + 9).toNatClampNeg).toNatClampNeg ≤ 50 := by
  simp only [rf_head, Bool.and_eq_true, decide_eq_true_eq] at h
  exact rf_le (n := 50) h.1.2 (by decide)
def rf_sl (so f : Nat → Int32) (it : Int32) : Nat → (Nat → Int32)
  | 0 => so
  | k + 1 => upd (rf_sl so f it k) (nI k).toNatClampNeg (f (64 * it + 10 + nI k).toNatClampNeg)
theorem rf_sl_0 (so f : Nat → Int32) (it : Int32) : rf_sl so f it 0 = so := by simp only [rf_sl]
theorem rf_sl_s (so f : Nat → Int32) (it : Int32) (k : Nat) : rf_sl so f it (k + 1) = upd (rf_sl so f it k) (nI k).toNatClampNeg (f (64 * it + 10 + nI k).toNatClampNeg) := by simp only [rf_sl]
def rf_wm (f so : Nat → Int32) : Nat → Nat → Int32 → Int32
  | 0, _, a => a
  | m + 1, k, a => bif rf_wrong f (so (nI k).toNatClampNeg) then rf_wm f so m (k + 1) (a + 1) else rf_wm f so m (k + 1) a
theorem rf_wm_0 (f so : Nat → Int32) (k : Nat) (a : Int32) : rf_wm f so 0 k a = a := by simp only [rf_wm]
theorem rf_wm_s (f so : Nat → Int32) (m k : Nat) (a : Int32) : rf_wm f so (m + 1) k a = bif rf_wrong f (so (nI k).toNatClampNeg) then rf_wm f so m (k + 1) (a + 1) else rf_wm f so m (k + 1) a := by simp only [rf_wm]
def rf_wi (f so : Nat → Int32) : Nat → Nat → Int32 → Int32 → Int32
  | 0, _, _, it => it
  | m + 1, k, a, it => bif rf_wrong f (so (nI k).toNatClampNeg) then rf_wi f so m (k + 1) (a + 1) (if a = 0 then nI k else it) else rf_wi f so m (k + 1) a it
theorem rf_wi_0 (f so : Nat → Int32) (k : Nat) (a it : Int32) : rf_wi f so 0 k a it = it := by simp only [rf_wi]
theorem rf_wi_s (f so : Nat → Int32) (m k : Nat) (a it : Int32) : rf_wi f so (m + 1) k a it = bif rf_wrong f (so (nI k).toNatClampNeg) then rf_wi f so m (k + 1) (a + 1) (if a = 0 then nI k else it) else rf_wi f so m (k + 1) a it := by simp only [rf_wi]
section PD
variable (l : Launch) (D : va_G) (tc : Nat → ClassId) (b : Nat)
set_option maxHeartbeats 4000000 in
set_option maxRecDepth 100000 in
theorem r_end_l (c0 c1 c2 c3 c4 c5 c6 c7 c8 c9 c10 c11 : am_E) (rest : am_W) (S wr go ga te ge gr ke nx : Int32) (f so fi nu le bs ma sh : Nat → Int32) (E Z : Nat) (kd ev : Int32) (hE : E < 50) (hZ : Z ≤ 40) (m : Nat) : ∀ (k : Nat), k + m = Z → am_R lw_tbl vwCl l D tc b RX5 cX5_end 5 (some .int) (false, []) (am_rm 2 0 0) 0 0 (am_is (some (.int (nx + 1 - 1))) (c0 :: c1 :: c2 :: c3 :: c4 :: c5 :: c6 :: c7 :: c8 :: c9 :: c10 :: c11 :: .inr (5, [.int 0, .int S, .ref 13, .int wr, .int 0, .int go, .int ga, .int te, .int ge, .int gr, .int ke, .ref 14, .int (nx + 1), .int (nI E + 1), .ref 15, .ref 16, .ref 17, .ref 18, .int 0, .ref 19, .ref 20]) :: .inl (1, 4096, .inl f) :: .inl (1, 50, .inl so) :: .inl (1, 50, .inl fi) :: .inl (1, 50, .inl nu) :: .inl (1, 50, .inl le) :: .inl (1, 2000, .inl (rf_mb bs ma (nI E) Z)) :: .inl (1, 40, .inl ma) :: .inl (1, 64, .inl sh) :: rest)) 0 0 97 [some (.ref 12), some (.int kd), some (.int ev), some (.int (nI Z)), some (.int (nI k))] [] (c0 :: c1 :: c2 :: c3 :: c4 :: c5 :: c6 :: c7 :: c8 :: c9 :: c10 :: c11 :: .inr (5, [.int 0, .int S, .ref 13, .int wr, .int 0, .int go, .int ga, .int te, .int ge, .int gr, .int ke, .ref 14, .int nx, .int (nI E), .ref 15, .ref 16, .ref 17, .ref 18, .int 0, .ref 19, .ref 20]) :: .inl (1, 4096, .inl f) :: .inl (1, 50, .inl so) :: .inl (1, 50, .inl fi) :: .inl (1, 50, .inl nu) :: .inl (1, 50, .inl le) :: .inl (1, 2000, .inl (rf_mb bs ma (nI E) k)) :: .inl (1, 40, .inl ma) :: .inl (1, 64, .inl sh) :: rest) := by
  induction m with
  | zero =>
    intro k hk
    have hk : k = Z := by omega
    subst hk
    iterate 2 refine am_s am_cls okX5_end rfl ?_
    refine am_b okX5_end rfl (fun h100 => ?_) (fun h100 => ?_)
    · skip
      iterate 16 refine am_s am_cls okX5_end rfl ?_
      refine am_ri okX5_end rfl rfl rfl (Nat.le_refl _) (Nat.le_refl _) ?_
      exact ⟨rfl, rfl⟩
    · exact absurd (nI_le (a := k) (b := k) (Nat.le_refl _) (by omega)) h100
  | succ m ih =>
    intro k hk
    iterate 2 refine am_s am_cls okX5_end rfl ?_
    refine am_b okX5_end rfl (fun h100 => ?_) (fun h100 => ?_)
    · exact absurd h100 (nI_ge (a := k) (b := Z) (by omega) (by omega))
    · skip
      iterate 11 refine am_s am_cls okX5_end rfl ?_
      refine am_al okX5_end rfl (vp_in_nI (n := k) (N := 40) (by omega) (by decide)) ?_
      refine am_as okX5_end rfl (rf_40 ⟨E, rfl, by omega⟩ (by omega)) ?_
      iterate 2 refine am_s am_cls okX5_end rfl ?_
      have q := ih (k + 1) (by omega)
      rw [rf_mb_s bs ma (nI E) k, nI_succ k] at q
      exact q
set_option maxHeartbeats 4000000 in
set_option maxRecDepth 100000 in
theorem r_end_u (c0 c1 c2 c3 c4 c5 c6 c7 c8 c9 c10 c11 : am_E) (rest : am_W) (th S wr go ga te ge gr ke nx : Int32) (f so fi nu le bs ma sh : Nat → Int32) (E Z : Nat) (kd ev : Int32) (hE : rf_room S ke (nI E) ev = true → E < 50) (hZ : Z ≤ 40) : cM l D tc b yX5_end cX5_end 5 (some .int) 2 0 0 [.ref 12, .int kd, .int ev] (c0 :: c1 :: c2 :: c3 :: c4 :: c5 :: c6 :: c7 :: c8 :: c9 :: c10 :: c11 :: .inr (5, [.int th, .int S, .ref 13, .int wr, .int 0, .int go, .int ga, .int te, .int ge, .int gr, .int ke, .ref 14, .int nx, .int (nI E), .ref 15, .ref 16, .ref 17, .ref 18, .int (nI Z), .ref 19, .ref 20]) :: .inl (1, 4096, .inl f) :: .inl (1, 50, .inl so) :: .inl (1, 50, .inl fi) :: .inl (1, 50, .inl nu) :: .inl (1, 50, .inl le) :: .inl (1, 2000, .inl bs) :: .inl (1, 40, .inl ma) :: .inl (1, 64, .inl sh) :: rest)
    (fun v w => ((kd < 0 ∨ ¬ kd ≤ 9) ∧ am_is (some (.int (-12))) (c0 :: c1 :: c2 :: c3 :: c4 :: c5 :: c6 :: c7 :: c8 :: c9 :: c10 :: c11 :: .inr (5, [.int 0, .int S, .ref 13, .int wr, .int 0, .int go, .int ga, .int te, .int ge, .int gr, .int ke, .ref 14, .int nx, .int (nI E), .ref 15, .ref 16, .ref 17, .ref 18, .int (nI Z), .ref 19, .ref 20]) :: .inl (1, 4096, .inl f) :: .inl (1, 50, .inl so) :: .inl (1, 50, .inl fi) :: .inl (1, 50, .inl nu) :: .inl (1, 50, .inl le) :: .inl (1, 2000, .inl bs) :: .inl (1, 40, .inl ma) :: .inl (1, 64, .inl sh) :: rest) v w) ∨ ((¬ kd < 0 ∧ kd ≤ 9 ∧ rf_room S ke (nI E) ev = false) ∧ am_is (some (.int (-14))) (c0 :: c1 :: c2 :: c3 :: c4 :: c5 :: c6 :: c7 :: c8 :: c9 :: c10 :: c11 :: .inr (5, [.int 0, .int S, .ref 13, .int wr, .int 0, .int go, .int ga, .int te, .int ge, .int gr, .int ke, .ref 14, .int nx, .int (nI E), .ref 15, .ref 16, .ref 17, .ref 18, .int 0, .ref 19, .ref 20]) :: .inl (1, 4096, .inl f) :: .inl (1, 50, .inl so) :: .inl (1, 50, .inl fi) :: .inl (1, 50, .inl nu) :: .inl (1, 50, .inl le) :: .inl (1, 2000, .inl bs) :: .inl (1, 40, .inl ma) :: .inl (1, 64, .inl sh) :: rest) v w) ∨ ((¬ kd < 0 ∧ kd ≤ 9 ∧ rf_room S ke (nI E) ev = true) ∧ am_is (some (.int (nx + 1 - 1))) (c0 :: c1 :: c2 :: c3 :: c4 :: c5 :: c6 :: c7 :: c8 :: c9 :: c10 :: c11 :: .inr (5, [.int 0, .int S, .ref 13, .int wr, .int 0, .int go, .int ga, .int te, .int ge, .int gr, .int ke, .ref 14, .int (nx + 1), .int (nI E + 1), .ref 15, .ref 16, .ref 17, .ref 18, .int 0, .ref 19, .ref 20]) :: .inl (1, 4096, .inl f) :: .inl (1, 50, .inl so) :: .inl (1, 50, .inl (upd fi (nI E).toNatClampNeg (rf_mk kd ev))) :: .inl (1, 50, .inl (upd nu (nI E).toNatClampNeg nx)) :: .inl (1, 50, .inl (upd le (nI E).toNatClampNeg (nI Z))) :: .inl (1, 2000, .inl (rf_mb bs ma (nI E) Z)) :: .inl (1, 40, .inl ma) :: .inl (1, 64, .inl sh) :: rest) v w)) := by
  refine am_m (own := RX5) (ini := (false, [])) (L := [some (.ref 12), some (.int kd), some (.int ev), none, none]) rfl (by decide) (fun h => absurd h (by decide)) rfl (Nat.le_of_ble_eq_true rfl) rfl rfl ?_
  iterate 5 refine am_s am_cls okX5_end rfl ?_
  refine am_b okX5_end rfl (fun h9 => ?_) (fun h9 => ?_)
  · try replace h9 := pd_b0 h9
    refine am_s am_cls okX5_end rfl ?_
    refine am_b okX5_end rfl (fun h15 => ?_) (fun h15 => ?_)
    · skip
      refine am_s am_cls okX5_end rfl ?_
      refine am_ri okX5_end rfl rfl rfl (Nat.le_refl _) (Nat.le_refl _) ?_
      exact Or.inl ⟨Or.inl h15, rfl, rfl⟩
    · skip
      iterate 2 refine am_s am_cls okX5_end rfl ?_
      refine am_b okX5_end rfl (fun h21 => ?_) (fun h21 => ?_)
      · skip
        iterate 8 refine am_s am_cls okX5_end rfl ?_
        refine am_cV okX5_end rfl (r_hasRoom l D tc b _ _ _ _ _ _ _ _ _ _ _ _ _ _ _ _ _ _ _ _ _ _ _ _ _ _ _ _ _ _ _ _ _ _ _) cv_X5_107 coX5_hasRoom rfl rfl rfl ⟨rfl, rfl, rfl⟩ ⟨Nat.le_refl _, Nat.le_refl _⟩ ?_
        rintro _ _ ⟨rfl, rfl⟩
        refine am_b okX5_end rfl (fun h42 => ?_) (fun h42 => ?_)
        · try replace h42 := pd_b0 h42
          refine am_s am_cls okX5_end rfl ?_
          refine am_ri okX5_end rfl rfl rfl (Nat.le_refl _) (Nat.le_refl _) ?_
          exact Or.inr (Or.inl ⟨⟨h15, h21, h42⟩, rfl, rfl⟩)
        · try replace h42 := pd_b1 h42
          iterate 8 refine am_s am_cls okX5_end rfl ?_
          refine am_b okX5_end rfl (fun h60 => ?_) (fun h60 => ?_)
          · try replace h60 := pd_b0 h60
            iterate 2 refine am_s am_cls okX5_end rfl ?_
            refine am_as okX5_end rfl (vp_in_nI (n := E) (N := 50) (hE h42) (by decide)) ?_
            iterate 6 refine am_s am_cls okX5_end rfl ?_
            refine am_as okX5_end rfl (vp_in_nI (n := E) (N := 50) (hE h42) (by decide)) ?_
            iterate 5 refine am_s am_cls okX5_end rfl ?_
            refine am_as okX5_end rfl (vp_in_nI (n := E) (N := 50) (hE h42) (by decide)) ?_
            iterate 2 refine am_s am_cls okX5_end rfl ?_
            rw [show rf_mk kd ev = (kd + 1 + 0) from by simp only [rf_mk, if_pos h60]]
            have q := r_end_l l D tc b c0 c1 c2 c3 c4 c5 c6 c7 c8 c9 c10 c11 rest S wr go ga te ge gr ke nx f so (upd fi (nI E).toNatClampNeg (kd + 1 + 0)) (upd nu (nI E).toNatClampNeg nx) (upd le (nI E).toNatClampNeg (nI Z)) bs ma sh E Z kd ev (hE h42) hZ Z 0 (Nat.zero_add _)
            rw [rf_mb_0, nI_0] at q
            exact am_po (fun v w z => Or.inr (Or.inr ⟨⟨h15, h21, h42⟩, z⟩)) q
          · try replace h60 := pd_b1 h60
            iterate 3 refine am_s am_cls okX5_end rfl ?_
            refine am_as okX5_end rfl (vp_in_nI (n := E) (N := 50) (hE h42) (by decide)) ?_
            iterate 6 refine am_s am_cls okX5_end rfl ?_
            refine am_as okX5_end rfl (vp_in_nI (n := E) (N := 50) (hE h42) (by decide)) ?_
            iterate 5 refine am_s am_cls okX5_end rfl ?_
            refine am_as okX5_end rfl (vp_in_nI (n := E) (N := 50) (hE h42) (by decide)) ?_
            iterate 2 refine am_s am_cls okX5_end rfl ?_
            rw [show rf_mk kd ev = (kd + 1 + 16) from by simp only [rf_mk, if_neg h60]]
            have q := r_end_l l D tc b c0 c1 c2 c3 c4 c5 c6 c7 c8 c9 c10 c11 rest S wr go ga te ge gr ke nx f so (upd fi (nI E).toNatClampNeg (kd + 1 + 16)) (upd nu (nI E).toNatClampNeg nx) (upd le (nI E).toNatClampNeg (nI Z)) bs ma sh E Z kd ev (hE h42) hZ Z 0 (Nat.zero_add _)
            rw [rf_mb_0, nI_0] at q
            exact am_po (fun v w z => Or.inr (Or.inr ⟨⟨h15, h21, h42⟩, z⟩)) q
      · skip
        refine am_s am_cls okX5_end rfl ?_
        refine am_ri okX5_end rfl rfl rfl (Nat.le_refl _) (Nat.le_refl _) ?_
        exact Or.inl ⟨Or.inr h21, rfl, rfl⟩
  · exact absurd rfl h9
set_option maxHeartbeats 4000000 in
set_option maxRecDepth 100000 in
theorem r_start_l (c0 c1 c2 c3 c4 c5 c6 c7 c8 c9 c10 c11 : am_E) (rest : am_W) (th S wr go ga te ge gr ke nx wt sz : Int32) (f so fi nu le bs ma sh : Nat → Int32) (it : Int32) (hi : rf_ok it) (hk0 : ke.toNatClampNeg ≤ 50) (m : Nat) : ∀ (k : Nat), k + m = ke.toNatClampNeg → am_R lw_tbl vwCl l D tc b RX5 cX5_start 3 (some .int) (false, []) (am_rm 5 0 0) 0 0 (am_is (some (.int ke)) (c0 :: c1 :: c2 :: c3 :: c4 :: c5 :: c6 :: c7 :: c8 :: c9 :: c10 :: c11 :: .inr (5, [.int th, .int S, .ref 13, .int wr, .int 0, .int go, .int ga, .int te, .int ge, .int gr, .int ke, .ref 14, .int (gr + 1), .int wt, .ref 15, .ref 16, .ref 17, .ref 18, .int sz, .ref 19, .ref 20]) :: .inl (1, 4096, .inl f) :: .inl (1, 50, .inl (rf_sl so f it ke.toNatClampNeg)) :: .inl (1, 50, .inl fi) :: .inl (1, 50, .inl nu) :: .inl (1, 50, .inl le) :: .inl (1, 2000, .inl bs) :: .inl (1, 40, .inl ma) :: .inl (1, 64, .inl sh) :: rest)) 0 0 136 [some (.ref 12), some (.int it), some (.int (nI k))] [] (c0 :: c1 :: c2 :: c3 :: c4 :: c5 :: c6 :: c7 :: c8 :: c9 :: c10 :: c11 :: .inr (5, [.int th, .int S, .ref 13, .int wr, .int 0, .int go, .int ga, .int te, .int ge, .int gr, .int ke, .ref 14, .int nx, .int wt, .ref 15, .ref 16, .ref 17, .ref 18, .int sz, .ref 19, .ref 20]) :: .inl (1, 4096, .inl f) :: .inl (1, 50, .inl (rf_sl so f it k)) :: .inl (1, 50, .inl fi) :: .inl (1, 50, .inl nu) :: .inl (1, 50, .inl le) :: .inl (1, 2000, .inl bs) :: .inl (1, 40, .inl ma) :: .inl (1, 64, .inl sh) :: rest) := by
  induction m with
  | zero =>
    intro k hk
    have hk : k = ke.toNatClampNeg := by omega
    subst hk
    iterate 3 refine am_s am_cls okX5_start rfl ?_
    refine am_b okX5_start rfl (fun h141 => ?_) (fun h141 => ?_)
    · skip
      iterate 8 refine am_s am_cls okX5_start rfl ?_
      refine am_ri okX5_start rfl rfl rfl (Nat.le_refl _) (Nat.le_refl _) ?_
      exact ⟨rfl, rfl⟩
    · exact absurd (cl_ge (Nat.le_refl _) (by omega)) h141
  | succ m ih =>
    intro k hk
    iterate 3 refine am_s am_cls okX5_start rfl ?_
    refine am_b okX5_start rfl (fun h141 => ?_) (fun h141 => ?_)
    · exact absurd h141 (cl_lt (by omega))
    · skip
      iterate 12 refine am_s am_cls okX5_start rfl ?_
      refine am_al okX5_start rfl (rf_pk (rf_pa (rf_64 hi) 10 53 (by decide)) (by decide) k (by omega)) ?_
      refine am_as okX5_start rfl (vp_in_nI (n := k) (N := 50) (by omega) (by decide)) ?_
      iterate 2 refine am_s am_cls okX5_start rfl ?_
      have q := ih (k + 1) (by omega)
      rw [rf_sl_s so f it k, nI_succ k] at q
      exact q
set_option maxHeartbeats 4000000 in
set_option maxRecDepth 100000 in
theorem r_start_d (c0 c1 c2 c3 c4 c5 c6 c7 c8 c9 c10 c11 : am_E) (rest : am_W) (th S wr go ga te ge gr ke nx wt sz : Int32) (f so fi nu le bs ma sh : Nat → Int32)  : cM l D tc b yX5_start cX5_start 3 (some .int) 5 0 0 [.ref 12] (c0 :: c1 :: c2 :: c3 :: c4 :: c5 :: c6 :: c7 :: c8 :: c9 :: c10 :: c11 :: .inr (5, [.int th, .int S, .ref 13, .int wr, .int 1, .int go, .int ga, .int te, .int ge, .int gr, .int ke, .ref 14, .int nx, .int wt, .ref 15, .ref 16, .ref 17, .ref 18, .int sz, .ref 19, .ref 20]) :: .inl (1, 4096, .inl f) :: .inl (1, 50, .inl so) :: .inl (1, 50, .inl fi) :: .inl (1, 50, .inl nu) :: .inl (1, 50, .inl le) :: .inl (1, 2000, .inl bs) :: .inl (1, 40, .inl ma) :: .inl (1, 64, .inl sh) :: rest)
    (fun v w => ((rf_head f S 0 = false ∧ rf_head f S 1 = false) ∧ am_is (some (.int 0)) (c0 :: c1 :: c2 :: c3 :: c4 :: c5 :: c6 :: c7 :: c8 :: c9 :: c10 :: c11 :: .inr (5, [.int 0, .int S, .ref 13, .int wr, .int 0, .int go, .int ga, .int te, .int 0, .int 0, .int 0, .ref 14, .int (0 + 1), .int wt, .ref 15, .ref 16, .ref 17, .ref 18, .int sz, .ref 19, .ref 20]) :: .inl (1, 4096, .inl f) :: .inl (1, 50, .inl so) :: .inl (1, 50, .inl fi) :: .inl (1, 50, .inl nu) :: .inl (1, 50, .inl le) :: .inl (1, 2000, .inl bs) :: .inl (1, 40, .inl ma) :: .inl (1, 64, .inl sh) :: rest) v w) ∨ ((rf_head f S 0 = true ∧ (rf_head f S 1 = false ∨ rf_four f 65 ≤ rf_four f 1)) ∧ am_is (some (.int (f (64 * 0 + 9 : Int32).toNatClampNeg))) (c0 :: c1 :: c2 :: c3 :: c4 :: c5 :: c6 :: c7 :: c8 :: c9 :: c10 :: c11 :: .inr (5, [.int 0, .int S, .ref 13, .int wr, .int 0, .int go, .int ga, .int te, .int (rf_four f (64 * 0 + 1)), .int (rf_four f (64 * 0 + 5)), .int (f (64 * 0 + 9 : Int32).toNatClampNeg), .ref 14, .int (rf_four f (64 * 0 + 5) + 1), .int wt, .ref 15, .ref 16, .ref 17, .ref 18, .int sz, .ref 19, .ref 20]) :: .inl (1, 4096, .inl f) :: .inl (1, 50, .inl (rf_sl so f 0 (f (64 * 0 + 9 : Int32).toNatClampNeg).toNatClampNeg)) :: .inl (1, 50, .inl fi) :: .inl (1, 50, .inl nu) :: .inl (1, 50, .inl le) :: .inl (1, 2000, .inl bs) :: .inl (1, 40, .inl ma) :: .inl (1, 64, .inl sh) :: rest) v w) ∨ ((rf_head f S 1 = true ∧ (rf_head f S 0 = false ∨ ¬ rf_four f 65 ≤ rf_four f 1)) ∧ am_is (some (.int (f (64 * 1 + 9 : Int32).toNatClampNeg))) (c0 :: c1 :: c2 :: c3 :: c4 :: c5 :: c6 :: c7 :: c8 :: c9 :: c10 :: c11 :: .inr (5, [.int 0, .int S, .ref 13, .int wr, .int 0, .int go, .int ga, .int te, .int (rf_four f (64 * 1 + 1)), .int (rf_four f (64 * 1 + 5)), .int (f (64 * 1 + 9 : Int32).toNatClampNeg), .ref 14, .int (rf_four f (64 * 1 + 5) + 1), .int wt, .ref 15, .ref 16, .ref 17, .ref 18, .int sz, .ref 19, .ref 20]) :: .inl (1, 4096, .inl f) :: .inl (1, 50, .inl (rf_sl so f 1 (f (64 * 1 + 9 : Int32).toNatClampNeg).toNatClampNeg)) :: .inl (1, 50, .inl fi) :: .inl (1, 50, .inl nu) :: .inl (1, 50, .inl le) :: .inl (1, 2000, .inl bs) :: .inl (1, 40, .inl ma) :: .inl (1, 64, .inl sh) :: rest) v w)) := by
  refine am_m (own := RX5) (ini := (false, [])) (L := [some (.ref 12), none, none]) rfl (by decide) (fun h => absurd h (by decide)) rfl (Nat.le_of_ble_eq_true rfl) rfl rfl ?_
  iterate 5 refine am_s am_cls okX5_start rfl ?_
  refine am_b okX5_start rfl (fun h9 => ?_) (fun h9 => ?_)
  · exact absurd h9 (by decide)
  · try replace h9 := pd_b1 h9
    iterate 2 refine am_s am_cls okX5_start rfl ?_
    refine am_pz am_cls okX5_start rfl rfl (by decide) rfl rfl ?_
    iterate 2 refine am_s am_cls okX5_start rfl ?_
    refine am_cV okX5_start rfl (r_isHead l D tc b _ _ _ _ _ _ _ _ _ _ _ _ _ _ _ _ _ _ _ _ _ _ _ _ _ _ _ _ _ _ _ _ _ _ _ (by first | exact ⟨0, rfl, by decide⟩ | exact ⟨1, rfl, by decide⟩)) cv_X5_129 coX5_isHead rfl rfl rfl ⟨rfl, rfl, rfl⟩ ⟨Nat.le_refl _, Nat.le_refl _⟩ ?_
    rintro _ _ ⟨rfl, rfl⟩
    refine am_b okX5_start rfl (fun h25 => ?_) (fun h25 => ?_)
    · try replace h25 := pd_b0 h25
      iterate 4 refine am_s am_cls okX5_start rfl ?_
      refine am_cV okX5_start rfl (r_isHead l D tc b _ _ _ _ _ _ _ _ _ _ _ _ _ _ _ _ _ _ _ _ _ _ _ _ _ _ _ _ _ _ _ _ _ _ _ (by first | exact ⟨0, rfl, by decide⟩ | exact ⟨1, rfl, by decide⟩)) cv_X5_129 coX5_isHead rfl rfl rfl ⟨rfl, rfl, rfl⟩ ⟨Nat.le_refl _, Nat.le_refl _⟩ ?_
      rintro _ _ ⟨rfl, rfl⟩
      refine am_b okX5_start rfl (fun h39 => ?_) (fun h39 => ?_)
      · try replace h39 := pd_b0 h39
        iterate 3 refine am_s am_cls okX5_start rfl ?_
        refine am_b okX5_start rfl (fun h66 => ?_) (fun h66 => ?_)
        · skip
          iterate 6 refine am_s am_cls okX5_start rfl ?_
          refine am_b okX5_start rfl (fun h89 => ?_) (fun h89 => ?_)
          · skip
            iterate 6 refine am_s am_cls okX5_start rfl ?_
            refine am_b okX5_start rfl (fun h112 => ?_) (fun h112 => ?_)
            · skip
              iterate 5 refine am_s am_cls okX5_start rfl ?_
              iterate 3 refine am_s am_cls okX5_start rfl ?_
              refine am_b okX5_start rfl (fun h141 => ?_) (fun h141 => ?_)
              · skip
                iterate 8 refine am_s am_cls okX5_start rfl ?_
                refine am_ri okX5_start rfl rfl rfl (Nat.le_refl _) (Nat.le_refl _) ?_
                exact Or.inl ⟨⟨h25, h39⟩, rfl, rfl⟩
              · exact absurd (by decide) h141
            · exact absurd rfl h112
          · exact absurd rfl h89
        · exact absurd rfl h66
      · try replace h39 := pd_b1 h39
        iterate 2 refine am_s am_cls okX5_start rfl ?_
        refine am_b okX5_start rfl (fun h44 => ?_) (fun h44 => ?_)
        · skip
          iterate 5 refine am_s am_cls okX5_start rfl ?_
          refine am_b okX5_start rfl (fun h66 => ?_) (fun h66 => ?_)
          · exact absurd h66 (by decide)
          · skip
            iterate 6 refine am_s am_cls okX5_start rfl ?_
            refine am_cV okX5_start rfl (r_four l D tc b _ _ _ _ _ _ _ _ _ _ _ _ _ _ _ _ _ _ _ _ _ _ _ _ _ _ _ _ _ _ _ _ _ _ _ (by first | exact ⟨1, by decide, by decide⟩ | exact ⟨5, by decide, by decide⟩ | exact ⟨65, by decide, by decide⟩ | exact ⟨69, by decide, by decide⟩)) cv_X5_49 coX5_fourAt rfl rfl rfl ⟨rfl, rfl, rfl⟩ ⟨Nat.le_refl _, Nat.le_refl _⟩ ?_
            rintro _ _ ⟨rfl, rfl⟩
            iterate 4 refine am_s am_cls okX5_start rfl ?_
            refine am_b okX5_start rfl (fun h89 => ?_) (fun h89 => ?_)
            · exact absurd h89 (by decide)
            · skip
              iterate 6 refine am_s am_cls okX5_start rfl ?_
              refine am_cV okX5_start rfl (r_four l D tc b _ _ _ _ _ _ _ _ _ _ _ _ _ _ _ _ _ _ _ _ _ _ _ _ _ _ _ _ _ _ _ _ _ _ _ (by first | exact ⟨1, by decide, by decide⟩ | exact ⟨5, by decide, by decide⟩ | exact ⟨65, by decide, by decide⟩ | exact ⟨69, by decide, by decide⟩)) cv_X5_49 coX5_fourAt rfl rfl rfl ⟨rfl, rfl, rfl⟩ ⟨Nat.le_refl _, Nat.le_refl _⟩ ?_
              rintro _ _ ⟨rfl, rfl⟩
              iterate 4 refine am_s am_cls okX5_start rfl ?_
              refine am_b okX5_start rfl (fun h112 => ?_) (fun h112 => ?_)
              · exact absurd h112 (by decide)
              · skip
                iterate 7 refine am_s am_cls okX5_start rfl ?_
                refine am_al okX5_start rfl (by unfold vp_in; decide) ?_
                iterate 3 refine am_s am_cls okX5_start rfl ?_
                have q := r_start_l l D tc b c0 c1 c2 c3 c4 c5 c6 c7 c8 c9 c10 c11 rest 0 S wr go ga te (rf_four f (64 * 1 + 1)) (rf_four f (64 * 1 + 5)) (f (64 * 1 + 9 : Int32).toNatClampNeg) nx wt sz f so fi nu le bs ma sh 1 ⟨1, rfl, by decide⟩ (rf_head_9 h39) (f (64 * 1 + 9 : Int32).toNatClampNeg).toNatClampNeg 0 (Nat.zero_add _)
                rw [rf_sl_0, nI_0] at q
                exact am_po (fun v w z => Or.inr (Or.inr ⟨⟨h39, Or.inl h25⟩, z⟩)) q
        · exact absurd rfl h44
    · try replace h25 := pd_b1 h25
      iterate 5 refine am_s am_cls okX5_start rfl ?_
      refine am_cV okX5_start rfl (r_isHead l D tc b _ _ _ _ _ _ _ _ _ _ _ _ _ _ _ _ _ _ _ _ _ _ _ _ _ _ _ _ _ _ _ _ _ _ _ (by first | exact ⟨0, rfl, by decide⟩ | exact ⟨1, rfl, by decide⟩)) cv_X5_129 coX5_isHead rfl rfl rfl ⟨rfl, rfl, rfl⟩ ⟨Nat.le_refl _, Nat.le_refl _⟩ ?_
      rintro _ _ ⟨rfl, rfl⟩
      refine am_b okX5_start rfl (fun h39 => ?_) (fun h39 => ?_)
      · try replace h39 := pd_b0 h39
        iterate 3 refine am_s am_cls okX5_start rfl ?_
        refine am_b okX5_start rfl (fun h66 => ?_) (fun h66 => ?_)
        · exact absurd h66 (by decide)
        · skip
          iterate 6 refine am_s am_cls okX5_start rfl ?_
          refine am_cV okX5_start rfl (r_four l D tc b _ _ _ _ _ _ _ _ _ _ _ _ _ _ _ _ _ _ _ _ _ _ _ _ _ _ _ _ _ _ _ _ _ _ _ (by first | exact ⟨1, by decide, by decide⟩ | exact ⟨5, by decide, by decide⟩ | exact ⟨65, by decide, by decide⟩ | exact ⟨69, by decide, by decide⟩)) cv_X5_49 coX5_fourAt rfl rfl rfl ⟨rfl, rfl, rfl⟩ ⟨Nat.le_refl _, Nat.le_refl _⟩ ?_
          rintro _ _ ⟨rfl, rfl⟩
          iterate 4 refine am_s am_cls okX5_start rfl ?_
          refine am_b okX5_start rfl (fun h89 => ?_) (fun h89 => ?_)
          · exact absurd h89 (by decide)
          · skip
            iterate 6 refine am_s am_cls okX5_start rfl ?_
            refine am_cV okX5_start rfl (r_four l D tc b _ _ _ _ _ _ _ _ _ _ _ _ _ _ _ _ _ _ _ _ _ _ _ _ _ _ _ _ _ _ _ _ _ _ _ (by first | exact ⟨1, by decide, by decide⟩ | exact ⟨5, by decide, by decide⟩ | exact ⟨65, by decide, by decide⟩ | exact ⟨69, by decide, by decide⟩)) cv_X5_49 coX5_fourAt rfl rfl rfl ⟨rfl, rfl, rfl⟩ ⟨Nat.le_refl _, Nat.le_refl _⟩ ?_
            rintro _ _ ⟨rfl, rfl⟩
            iterate 4 refine am_s am_cls okX5_start rfl ?_
            refine am_b okX5_start rfl (fun h112 => ?_) (fun h112 => ?_)
            · exact absurd h112 (by decide)
            · skip
              iterate 7 refine am_s am_cls okX5_start rfl ?_
              refine am_al okX5_start rfl (by unfold vp_in; decide) ?_
              iterate 3 refine am_s am_cls okX5_start rfl ?_
              have q := r_start_l l D tc b c0 c1 c2 c3 c4 c5 c6 c7 c8 c9 c10 c11 rest 0 S wr go ga te (rf_four f (64 * 0 + 1)) (rf_four f (64 * 0 + 5)) (f (64 * 0 + 9 : Int32).toNatClampNeg) nx wt sz f so fi nu le bs ma sh 0 ⟨0, rfl, by decide⟩ (rf_head_9 h25) (f (64 * 0 + 9 : Int32).toNatClampNeg).toNatClampNeg 0 (Nat.zero_add _)
              rw [rf_sl_0, nI_0] at q
              exact am_po (fun v w z => Or.inr (Or.inl ⟨⟨h25, Or.inl h39⟩, z⟩)) q
      · try replace h39 := pd_b1 h39
        iterate 2 refine am_s am_cls okX5_start rfl ?_
        refine am_b okX5_start rfl (fun h44 => ?_) (fun h44 => ?_)
        · exact absurd h44 (by decide)
        · skip
          iterate 2 refine am_s am_cls okX5_start rfl ?_
          refine am_cV okX5_start rfl (r_four l D tc b _ _ _ _ _ _ _ _ _ _ _ _ _ _ _ _ _ _ _ _ _ _ _ _ _ _ _ _ _ _ _ _ _ _ _ (by first | exact ⟨1, by decide, by decide⟩ | exact ⟨5, by decide, by decide⟩ | exact ⟨65, by decide, by decide⟩ | exact ⟨69, by decide, by decide⟩)) cv_X5_49 coX5_fourAt rfl rfl rfl ⟨rfl, rfl, rfl⟩ ⟨Nat.le_refl _, Nat.le_refl _⟩ ?_
          rintro _ _ ⟨rfl, rfl⟩
          iterate 2 refine am_s am_cls okX5_start rfl ?_
          refine am_cV okX5_start rfl (r_four l D tc b _ _ _ _ _ _ _ _ _ _ _ _ _ _ _ _ _ _ _ _ _ _ _ _ _ _ _ _ _ _ _ _ _ _ _ (by first | exact ⟨1, by decide, by decide⟩ | exact ⟨5, by decide, by decide⟩ | exact ⟨65, by decide, by decide⟩ | exact ⟨69, by decide, by decide⟩)) cv_X5_49 coX5_fourAt rfl rfl rfl ⟨rfl, rfl, rfl⟩ ⟨Nat.le_refl _, Nat.le_refl _⟩ ?_
          rintro _ _ ⟨rfl, rfl⟩
          refine am_b okX5_start rfl (fun h58 => ?_) (fun h58 => ?_)
          · skip
            iterate 3 refine am_s am_cls okX5_start rfl ?_
            refine am_b okX5_start rfl (fun h66 => ?_) (fun h66 => ?_)
            · exact absurd h66 (by decide)
            · skip
              iterate 6 refine am_s am_cls okX5_start rfl ?_
              refine am_cV okX5_start rfl (r_four l D tc b _ _ _ _ _ _ _ _ _ _ _ _ _ _ _ _ _ _ _ _ _ _ _ _ _ _ _ _ _ _ _ _ _ _ _ (by first | exact ⟨1, by decide, by decide⟩ | exact ⟨5, by decide, by decide⟩ | exact ⟨65, by decide, by decide⟩ | exact ⟨69, by decide, by decide⟩)) cv_X5_49 coX5_fourAt rfl rfl rfl ⟨rfl, rfl, rfl⟩ ⟨Nat.le_refl _, Nat.le_refl _⟩ ?_
              rintro _ _ ⟨rfl, rfl⟩
              iterate 4 refine am_s am_cls okX5_start rfl ?_
              refine am_b okX5_start rfl (fun h89 => ?_) (fun h89 => ?_)
              · exact absurd h89 (by decide)
              · skip
                iterate 6 refine am_s am_cls okX5_start rfl ?_
                refine am_cV okX5_start rfl (r_four l D tc b _ _ _ _ _ _ _ _ _ _ _ _ _ _ _ _ _ _ _ _ _ _ _ _ _ _ _ _ _ _ _ _ _ _ _ (by first | exact ⟨1, by decide, by decide⟩ | exact ⟨5, by decide, by decide⟩ | exact ⟨65, by decide, by decide⟩ | exact ⟨69, by decide, by decide⟩)) cv_X5_49 coX5_fourAt rfl rfl rfl ⟨rfl, rfl, rfl⟩ ⟨Nat.le_refl _, Nat.le_refl _⟩ ?_
                rintro _ _ ⟨rfl, rfl⟩
                iterate 4 refine am_s am_cls okX5_start rfl ?_
                refine am_b okX5_start rfl (fun h112 => ?_) (fun h112 => ?_)
                · exact absurd h112 (by decide)
                · skip
                  iterate 7 refine am_s am_cls okX5_start rfl ?_
                  refine am_al okX5_start rfl (by unfold vp_in; decide) ?_
                  iterate 3 refine am_s am_cls okX5_start rfl ?_
                  have q := r_start_l l D tc b c0 c1 c2 c3 c4 c5 c6 c7 c8 c9 c10 c11 rest 0 S wr go ga te (rf_four f (64 * 0 + 1)) (rf_four f (64 * 0 + 5)) (f (64 * 0 + 9 : Int32).toNatClampNeg) nx wt sz f so fi nu le bs ma sh 0 ⟨0, rfl, by decide⟩ (rf_head_9 h25) (f (64 * 0 + 9 : Int32).toNatClampNeg).toNatClampNeg 0 (Nat.zero_add _)
                  rw [rf_sl_0, nI_0] at q
                  exact am_po (fun v w z => Or.inr (Or.inl ⟨⟨h25, Or.inr h58⟩, z⟩)) q
          · skip
            iterate 5 refine am_s am_cls okX5_start rfl ?_
            refine am_b okX5_start rfl (fun h66 => ?_) (fun h66 => ?_)
            · exact absurd h66 (by decide)
            · skip
              iterate 6 refine am_s am_cls okX5_start rfl ?_
              refine am_cV okX5_start rfl (r_four l D tc b _ _ _ _ _ _ _ _ _ _ _ _ _ _ _ _ _ _ _ _ _ _ _ _ _ _ _ _ _ _ _ _ _ _ _ (by first | exact ⟨1, by decide, by decide⟩ | exact ⟨5, by decide, by decide⟩ | exact ⟨65, by decide, by decide⟩ | exact ⟨69, by decide, by decide⟩)) cv_X5_49 coX5_fourAt rfl rfl rfl ⟨rfl, rfl, rfl⟩ ⟨Nat.le_refl _, Nat.le_refl _⟩ ?_
              rintro _ _ ⟨rfl, rfl⟩
              iterate 4 refine am_s am_cls okX5_start rfl ?_
              refine am_b okX5_start rfl (fun h89 => ?_) (fun h89 => ?_)
              · exact absurd h89 (by decide)
              · skip
                iterate 6 refine am_s am_cls okX5_start rfl ?_
                refine am_cV okX5_start rfl (r_four l D tc b _ _ _ _ _ _ _ _ _ _ _ _ _ _ _ _ _ _ _ _ _ _ _ _ _ _ _ _ _ _ _ _ _ _ _ (by first | exact ⟨1, by decide, by decide⟩ | exact ⟨5, by decide, by decide⟩ | exact ⟨65, by decide, by decide⟩ | exact ⟨69, by decide, by decide⟩)) cv_X5_49 coX5_fourAt rfl rfl rfl ⟨rfl, rfl, rfl⟩ ⟨Nat.le_refl _, Nat.le_refl _⟩ ?_
                rintro _ _ ⟨rfl, rfl⟩
                iterate 4 refine am_s am_cls okX5_start rfl ?_
                refine am_b okX5_start rfl (fun h112 => ?_) (fun h112 => ?_)
                · exact absurd h112 (by decide)
                · skip
                  iterate 7 refine am_s am_cls okX5_start rfl ?_
                  refine am_al okX5_start rfl (by unfold vp_in; decide) ?_
                  iterate 3 refine am_s am_cls okX5_start rfl ?_
                  have q := r_start_l l D tc b c0 c1 c2 c3 c4 c5 c6 c7 c8 c9 c10 c11 rest 0 S wr go ga te (rf_four f (64 * 1 + 1)) (rf_four f (64 * 1 + 5)) (f (64 * 1 + 9 : Int32).toNatClampNeg) nx wt sz f so fi nu le bs ma sh 1 ⟨1, rfl, by decide⟩ (rf_head_9 h39) (f (64 * 1 + 9 : Int32).toNatClampNeg).toNatClampNeg 0 (Nat.zero_add _)
                  rw [rf_sl_0, nI_0] at q
                  exact am_po (fun v w z => Or.inr (Or.inr ⟨⟨h39, Or.inr h58⟩, z⟩)) q
set_option maxHeartbeats 4000000 in
set_option maxRecDepth 100000 in
theorem r_row_u (c0 c1 c2 c3 c4 c5 c6 c7 c8 c9 c10 c11 : am_E) (rest : am_W) (th S wr go ga te ge gr nx wt sz : Int32) (f so fi nu le bs ma sh : Nat → Int32) (K : Nat) (k x : Int32) (hK : K ≤ 50) (hso : ∀ j, j < K → rf_ok (so j)) : cM l D tc b yX5_row cX5_row 4 (some .int) 5 0 0 [.ref 12, .int k, .int x] (c0 :: c1 :: c2 :: c3 :: c4 :: c5 :: c6 :: c7 :: c8 :: c9 :: c10 :: c11 :: .inr (5, [.int th, .int S, .ref 13, .int wr, .int 0, .int go, .int ga, .int te, .int ge, .int gr, .int (nI K), .ref 14, .int nx, .int wt, .ref 15, .ref 16, .ref 17, .ref 18, .int sz, .ref 19, .ref 20]) :: .inl (1, 4096, .inl f) :: .inl (1, 50, .inl so) :: .inl (1, 50, .inl fi) :: .inl (1, 50, .inl nu) :: .inl (1, 50, .inl le) :: .inl (1, 2000, .inl bs) :: .inl (1, 40, .inl ma) :: .inl (1, 64, .inl sh) :: rest)
    (am_is (some (.int (rf_rowv f so K k x))) (c0 :: c1 :: c2 :: c3 :: c4 :: c5 :: c6 :: c7 :: c8 :: c9 :: c10 :: c11 :: .inr (5, [.int 0, .int S, .ref 13, .int wr, .int 0, .int go, .int ga, .int te, .int ge, .int gr, .int (nI K), .ref 14, .int nx, .int wt, .ref 15, .ref 16, .ref 17, .ref 18, .int sz, .ref 19, .ref 20]) :: .inl (1, 4096, .inl f) :: .inl (1, 50, .inl so) :: .inl (1, 50, .inl fi) :: .inl (1, 50, .inl nu) :: .inl (1, 50, .inl le) :: .inl (1, 2000, .inl bs) :: .inl (1, 40, .inl ma) :: .inl (1, 64, .inl sh) :: rest)) := by
  refine am_m (own := RX5) (ini := (false, [])) (L := [some (.ref 12), some (.int k), some (.int x), none]) rfl (by decide) (fun h => absurd h (by decide)) rfl (Nat.le_of_ble_eq_true rfl) rfl rfl ?_
  iterate 5 refine am_s am_cls okX5_row rfl ?_
  refine am_b okX5_row rfl (fun h9 => ?_) (fun h9 => ?_)
  · try replace h9 := pd_b0 h9
    refine am_s am_cls okX5_row rfl ?_
    refine am_b okX5_row rfl (fun h16 => ?_) (fun h16 => ?_)
    · skip
      refine am_s am_cls okX5_row rfl ?_
      refine am_ri okX5_row rfl rfl rfl (Nat.le_refl _) (Nat.le_refl _) ?_
      exact ⟨by simp [rf_rowv, *], rfl⟩
    · skip
      iterate 2 refine am_s am_cls okX5_row rfl ?_
      refine am_b okX5_row rfl (fun h21 => ?_) (fun h21 => ?_)
      · skip
        refine am_s am_cls okX5_row rfl ?_
        refine am_b okX5_row rfl (fun h28 => ?_) (fun h28 => ?_)
        · skip
          refine am_s am_cls okX5_row rfl ?_
          refine am_ri okX5_row rfl rfl rfl (Nat.le_refl _) (Nat.le_refl _) ?_
          exact ⟨by simp [rf_rowv, *], rfl⟩
        · skip
          iterate 3 refine am_s am_cls okX5_row rfl ?_
          refine am_b okX5_row rfl (fun h36 => ?_) (fun h36 => ?_)
          · skip
            have hi := rf_kin hK h28 h36
            iterate 2 refine am_s am_cls okX5_row rfl ?_
            refine am_b okX5_row rfl (fun h43 => ?_) (fun h43 => ?_)
            · skip
              iterate 3 refine am_s am_cls okX5_row rfl ?_
              refine am_al okX5_row rfl hi.1 ?_
              refine am_ri okX5_row rfl rfl rfl (Nat.le_refl _) (Nat.le_refl _) ?_
              exact ⟨by simp [rf_rowv, *], rfl⟩
            · skip
              iterate 2 refine am_s am_cls okX5_row rfl ?_
              refine am_cV okX5_row rfl (r_isWrong l D tc b _ _ _ _ _ _ _ _ _ _ _ _ _ _ _ _ _ _ _ _ _ _ _ _ _ _ _ _ _ _ _ _ _ _ _ hi.1 (hso _ hi.2)) cv_X5_126 coX5_isWrong rfl rfl rfl ⟨rfl, rfl, rfl⟩ ⟨Nat.le_refl _, Nat.le_refl _⟩ ?_
              rintro _ _ ⟨rfl, rfl⟩
              refine am_b okX5_row rfl (fun h58 => ?_) (fun h58 => ?_)
              · try replace h58 := pd_b0 h58
                iterate 4 refine am_s am_cls okX5_row rfl ?_
                refine am_al okX5_row rfl hi.1 ?_
                iterate 3 refine am_s am_cls okX5_row rfl ?_
                refine am_b okX5_row rfl (fun h74 => ?_) (fun h74 => ?_)
                · try replace h74 := pd_b0 h74
                  iterate 4 refine am_s am_cls okX5_row rfl ?_
                  refine am_cV okX5_row rfl (r_four l D tc b _ _ _ _ _ _ _ _ _ _ _ _ _ _ _ _ _ _ _ _ _ _ _ _ _ _ _ _ _ _ _ _ _ _ (64 * so k.toNatClampNeg + 1) (rf_pa (rf_64 (hso _ hi.2)) 1 3 (by decide))) cv_X5_49 coX5_fourAt rfl rfl rfl ⟨rfl, rfl, rfl⟩ ⟨Nat.le_refl _, Nat.le_refl _⟩ ?_
                  rintro _ _ ⟨rfl, rfl⟩
                  refine am_ri okX5_row rfl rfl rfl (Nat.le_refl _) (Nat.le_refl _) ?_
                  exact ⟨by simp [rf_rowv, *], rfl⟩
                · try replace h74 := pd_b1 h74
                  iterate 2 refine am_s am_cls okX5_row rfl ?_
                  refine am_b okX5_row rfl (fun h87 => ?_) (fun h87 => ?_)
                  · skip
                    iterate 3 refine am_s am_cls okX5_row rfl ?_
                    refine am_al okX5_row rfl (rf_v0 (hso _ hi.2)) ?_
                    refine am_s am_cls okX5_row rfl ?_
                    refine am_rem okX5_row rfl rfl (by decide) ?_
                    iterate 2 refine am_s am_cls okX5_row rfl ?_
                    refine am_ri okX5_row rfl rfl rfl (Nat.le_refl _) (Nat.le_refl _) ?_
                    exact ⟨by simp [rf_rowv, *], rfl⟩
                  · skip
                    iterate 2 refine am_s am_cls okX5_row rfl ?_
                    refine am_b okX5_row rfl (fun h104 => ?_) (fun h104 => ?_)
                    · skip
                      iterate 3 refine am_s am_cls okX5_row rfl ?_
                      refine am_al okX5_row rfl (rf_v0 (hso _ hi.2)) ?_
                      refine am_s am_cls okX5_row rfl ?_
                      refine am_dv okX5_row rfl rfl (by decide) ?_
                      refine am_s am_cls okX5_row rfl ?_
                      refine am_ri okX5_row rfl rfl rfl (Nat.le_refl _) (Nat.le_refl _) ?_
                      exact ⟨by simp [rf_rowv, *], rfl⟩
                    · skip
                      iterate 5 refine am_s am_cls okX5_row rfl ?_
                      refine am_al okX5_row rfl (rf_pk (rf_64 (hso _ hi.2)) (by decide) 5 (by decide)) ?_
                      refine am_ri okX5_row rfl rfl rfl (Nat.le_refl _) (Nat.le_refl _) ?_
                      exact ⟨by simp [rf_rowv, *], rfl⟩
              · try replace h58 := pd_b1 h58
                refine am_s am_cls okX5_row rfl ?_
                refine am_ri okX5_row rfl rfl rfl (Nat.le_refl _) (Nat.le_refl _) ?_
                exact ⟨by simp [rf_rowv, *], rfl⟩
          · skip
            refine am_s am_cls okX5_row rfl ?_
            refine am_ri okX5_row rfl rfl rfl (Nat.le_refl _) (Nat.le_refl _) ?_
            exact ⟨by simp [rf_rowv, *], rfl⟩
      · skip
        refine am_s am_cls okX5_row rfl ?_
        refine am_ri okX5_row rfl rfl rfl (Nat.le_refl _) (Nat.le_refl _) ?_
        exact ⟨by simp [rf_rowv, *], rfl⟩
  · exact absurd rfl h9
set_option maxHeartbeats 4000000 in
set_option maxRecDepth 100000 in
theorem r_at_u (c0 c1 c2 c3 c4 c5 c6 c7 c8 c9 c10 c11 : am_E) (rest : am_W) (th S wr go ga te ge gr nx wt sz : Int32) (f so fi nu le bs ma sh : Nat → Int32) (K : Nat) (k i : Int32) (hK : K ≤ 50) (hso : ∀ j, j < K → rf_ok (so j)) : cM l D tc b yX5_at cX5_at 4 (some .int) 5 0 0 [.ref 12, .int k, .int i] (c0 :: c1 :: c2 :: c3 :: c4 :: c5 :: c6 :: c7 :: c8 :: c9 :: c10 :: c11 :: .inr (5, [.int th, .int S, .ref 13, .int wr, .int 0, .int go, .int ga, .int te, .int ge, .int gr, .int (nI K), .ref 14, .int nx, .int wt, .ref 15, .ref 16, .ref 17, .ref 18, .int sz, .ref 19, .ref 20]) :: .inl (1, 4096, .inl f) :: .inl (1, 50, .inl so) :: .inl (1, 50, .inl fi) :: .inl (1, 50, .inl nu) :: .inl (1, 50, .inl le) :: .inl (1, 2000, .inl bs) :: .inl (1, 40, .inl ma) :: .inl (1, 64, .inl sh) :: rest)
    (fun v w => ((¬ k < 0 ∧ ¬ nI K ≤ k ∧ rf_wrong f (so k.toNatClampNeg) = true) ∧ am_is (some (.int (-1))) (c0 :: c1 :: c2 :: c3 :: c4 :: c5 :: c6 :: c7 :: c8 :: c9 :: c10 :: c11 :: .inr (5, [.int 0, .int S, .ref 13, .int wr, .int 0, .int go, .int ga, .int te, .int ge, .int gr, .int (nI K), .ref 14, .int nx, .int wt, .ref 15, .ref 16, .ref 17, .ref 18, .int sz, .ref 19, .ref 20]) :: .inl (1, 4096, .inl f) :: .inl (1, 50, .inl so) :: .inl (1, 50, .inl fi) :: .inl (1, 50, .inl nu) :: .inl (1, 50, .inl le) :: .inl (1, 2000, .inl bs) :: .inl (1, 40, .inl ma) :: .inl (1, 64, .inl sh) :: rest) v w) ∨ ((¬ k < 0 ∧ ¬ nI K ≤ k ∧ rf_wrong f (so k.toNatClampNeg) = false ∧ ¬ i < 0 ∧ ¬ f (64 * so k.toNatClampNeg + 5).toNatClampNeg ≤ i) ∧ am_is (some (.int (f (64 * so k.toNatClampNeg + 6 + i).toNatClampNeg))) (c0 :: c1 :: c2 :: c3 :: c4 :: c5 :: c6 :: c7 :: c8 :: c9 :: c10 :: c11 :: .inr (5, [.int 0, .int S, .ref 13, .int wr, .int 0, .int go, .int ga, .int te, .int ge, .int gr, .int (nI K), .ref 14, .int nx, .int wt, .ref 15, .ref 16, .ref 17, .ref 18, .int sz, .ref 19, .ref 20]) :: .inl (1, 4096, .inl f) :: .inl (1, 50, .inl so) :: .inl (1, 50, .inl fi) :: .inl (1, 50, .inl nu) :: .inl (1, 50, .inl le) :: .inl (1, 2000, .inl bs) :: .inl (1, 40, .inl ma) :: .inl (1, 64, .inl sh) :: rest) v w) ∨ ((k < 0 ∨ nI K ≤ k ∨ (¬ k < 0 ∧ ¬ nI K ≤ k ∧ rf_wrong f (so k.toNatClampNeg) = false ∧ (i < 0 ∨ f (64 * so k.toNatClampNeg + 5).toNatClampNeg ≤ i))) ∧ am_is (some (.int 0)) (c0 :: c1 :: c2 :: c3 :: c4 :: c5 :: c6 :: c7 :: c8 :: c9 :: c10 :: c11 :: .inr (5, [.int 1, .int S, .ref 13, .int wr, .int 0, .int go, .int ga, .int te, .int ge, .int gr, .int (nI K), .ref 14, .int nx, .int wt, .ref 15, .ref 16, .ref 17, .ref 18, .int sz, .ref 19, .ref 20]) :: .inl (1, 4096, .inl f) :: .inl (1, 50, .inl so) :: .inl (1, 50, .inl fi) :: .inl (1, 50, .inl nu) :: .inl (1, 50, .inl le) :: .inl (1, 2000, .inl bs) :: .inl (1, 40, .inl ma) :: .inl (1, 64, .inl sh) :: rest) v w)) := by
  refine am_m (own := RX5) (ini := (false, [])) (L := [some (.ref 12), some (.int k), some (.int i), none]) rfl (by decide) (fun h => absurd h (by decide)) rfl (Nat.le_of_ble_eq_true rfl) rfl rfl ?_
  iterate 5 refine am_s am_cls okX5_at rfl ?_
  refine am_b okX5_at rfl (fun h9 => ?_) (fun h9 => ?_)
  · try replace h9 := pd_b0 h9
    refine am_s am_cls okX5_at rfl ?_
    refine am_b okX5_at rfl (fun h16 => ?_) (fun h16 => ?_)
    · skip
      iterate 3 refine am_s am_cls okX5_at rfl ?_
      refine am_b okX5_at rfl (fun h34 => ?_) (fun h34 => ?_)
      · try replace h34 := pd_b0 h34
        iterate 2 refine am_s am_cls okX5_at rfl ?_
        refine am_b okX5_at rfl (fun h49 => ?_) (fun h49 => ?_)
        · try replace h49 := pd_b0 h49
          iterate 4 refine am_s am_cls okX5_at rfl ?_
          refine am_b okX5_at rfl (fun h88 => ?_) (fun h88 => ?_)
          · exact absurd h88 (by decide)
          · skip
            iterate 2 refine am_s am_cls okX5_at rfl ?_
            refine am_ri okX5_at rfl rfl rfl (Nat.le_refl _) (Nat.le_refl _) ?_
            exact Or.inr (Or.inr ⟨Or.inl h16, rfl, rfl⟩)
        · exact absurd rfl h49
      · exact absurd rfl h34
    · skip
      iterate 3 refine am_s am_cls okX5_at rfl ?_
      refine am_b okX5_at rfl (fun h24 => ?_) (fun h24 => ?_)
      · skip
        iterate 3 refine am_s am_cls okX5_at rfl ?_
        refine am_b okX5_at rfl (fun h34 => ?_) (fun h34 => ?_)
        · try replace h34 := pd_b0 h34
          iterate 2 refine am_s am_cls okX5_at rfl ?_
          refine am_b okX5_at rfl (fun h49 => ?_) (fun h49 => ?_)
          · try replace h49 := pd_b0 h49
            iterate 4 refine am_s am_cls okX5_at rfl ?_
            refine am_b okX5_at rfl (fun h88 => ?_) (fun h88 => ?_)
            · exact absurd h88 (by decide)
            · skip
              iterate 2 refine am_s am_cls okX5_at rfl ?_
              refine am_ri okX5_at rfl rfl rfl (Nat.le_refl _) (Nat.le_refl _) ?_
              exact Or.inr (Or.inr ⟨Or.inr (Or.inl h24), rfl, rfl⟩)
          · exact absurd rfl h49
        · exact absurd rfl h34
      · skip
        have hi := rf_kin hK h16 (Int32.not_le.mp h24)
        iterate 4 refine am_s am_cls okX5_at rfl ?_
        refine am_b okX5_at rfl (fun h34 => ?_) (fun h34 => ?_)
        · exact absurd h34 (by decide)
        · try replace h34 := pd_b1 h34
          iterate 2 refine am_s am_cls okX5_at rfl ?_
          refine am_cV okX5_at rfl (r_isWrong l D tc b _ _ _ _ _ _ _ _ _ _ _ _ _ _ _ _ _ _ _ _ _ _ _ _ _ _ _ _ _ _ _ _ _ _ _ hi.1 (hso _ hi.2)) cv_X5_126 coX5_isWrong rfl rfl rfl ⟨rfl, rfl, rfl⟩ ⟨Nat.le_refl _, Nat.le_refl _⟩ ?_
          rintro _ _ ⟨rfl, rfl⟩
          refine am_b okX5_at rfl (fun h42 => ?_) (fun h42 => ?_)
          · try replace h42 := pd_b0 h42
            iterate 2 refine am_s am_cls okX5_at rfl ?_
            refine am_b okX5_at rfl (fun h49 => ?_) (fun h49 => ?_)
            · exact absurd h49 (by decide)
            · try replace h49 := pd_b1 h49
              refine am_s am_cls okX5_at rfl ?_
              refine am_b okX5_at rfl (fun h53 => ?_) (fun h53 => ?_)
              · skip
                iterate 4 refine am_s am_cls okX5_at rfl ?_
                refine am_b okX5_at rfl (fun h88 => ?_) (fun h88 => ?_)
                · exact absurd h88 (by decide)
                · skip
                  iterate 2 refine am_s am_cls okX5_at rfl ?_
                  refine am_ri okX5_at rfl rfl rfl (Nat.le_refl _) (Nat.le_refl _) ?_
                  exact Or.inr (Or.inr ⟨Or.inr (Or.inr ⟨h16, h24, h42, Or.inl h53⟩), rfl, rfl⟩)
              · skip
                iterate 7 refine am_s am_cls okX5_at rfl ?_
                refine am_al okX5_at rfl hi.1 ?_
                iterate 3 refine am_s am_cls okX5_at rfl ?_
                refine am_al okX5_at rfl (rf_pk (rf_64 (hso _ hi.2)) (by decide) 5 (by decide)) ?_
                refine am_b okX5_at rfl (fun h73 => ?_) (fun h73 => ?_)
                · skip
                  iterate 4 refine am_s am_cls okX5_at rfl ?_
                  refine am_b okX5_at rfl (fun h88 => ?_) (fun h88 => ?_)
                  · exact absurd h88 (by decide)
                  · skip
                    iterate 2 refine am_s am_cls okX5_at rfl ?_
                    refine am_ri okX5_at rfl rfl rfl (Nat.le_refl _) (Nat.le_refl _) ?_
                    exact Or.inr (Or.inr ⟨Or.inr (Or.inr ⟨h16, h24, h42, Or.inr h73⟩), rfl, rfl⟩)
                · skip
                  iterate 5 refine am_s am_cls okX5_at rfl ?_
                  refine am_b okX5_at rfl (fun h88 => ?_) (fun h88 => ?_)
                  · skip
                    iterate 6 refine am_s am_cls okX5_at rfl ?_
                    refine am_al okX5_at rfl hi.1 ?_
                    iterate 5 refine am_s am_cls okX5_at rfl ?_
                    refine am_al okX5_at rfl (rf_ai (hso _ hi.2) h42 h53 h73) ?_
                    refine am_ri okX5_at rfl rfl rfl (Nat.le_refl _) (Nat.le_refl _) ?_
                    exact Or.inr (Or.inl ⟨⟨h16, h24, h42, h53, h73⟩, rfl, rfl⟩)
                  · exact absurd (by decide) h88
          · try replace h42 := pd_b1 h42
            refine am_s am_cls okX5_at rfl ?_
            refine am_ri okX5_at rfl rfl rfl (Nat.le_refl _) (Nat.le_refl _) ?_
            exact Or.inl ⟨⟨h16, h24, h42⟩, rfl, rfl⟩
  · exact absurd rfl h9
set_option maxHeartbeats 4000000 in
set_option maxRecDepth 100000 in
theorem r_wrong_l (c0 c1 c2 c3 c4 c5 c6 c7 c8 c9 c10 c11 : am_E) (rest : am_W) (S wr go ga te ge gr nx wt sz : Int32) (f so fi nu le bs ma sh : Nat → Int32) (K : Nat) (x : Int32) (hK : K ≤ 50) (hso : ∀ j, j < K → rf_ok (so j)) (m : Nat) : ∀ (k : Nat) (a it : Int32), k + m = K → am_R lw_tbl vwCl l D tc b RX5 cX5_wrong 5 (some .int) (false, []) (am_rm 5 0 0) 0 0 (am_is (some (.int (if x = 0 then rf_wm f so m k a else rf_wi f so m k a it))) (c0 :: c1 :: c2 :: c3 :: c4 :: c5 :: c6 :: c7 :: c8 :: c9 :: c10 :: c11 :: .inr (5, [.int 0, .int S, .ref 13, .int wr, .int 0, .int go, .int ga, .int te, .int ge, .int gr, .int (nI K), .ref 14, .int nx, .int wt, .ref 15, .ref 16, .ref 17, .ref 18, .int sz, .ref 19, .ref 20]) :: .inl (1, 4096, .inl f) :: .inl (1, 50, .inl so) :: .inl (1, 50, .inl fi) :: .inl (1, 50, .inl nu) :: .inl (1, 50, .inl le) :: .inl (1, 2000, .inl bs) :: .inl (1, 40, .inl ma) :: .inl (1, 64, .inl sh) :: rest)) 0 0 34 [some (.ref 12), some (.int x), some (.int a), some (.int it), some (.int (nI k))] [] (c0 :: c1 :: c2 :: c3 :: c4 :: c5 :: c6 :: c7 :: c8 :: c9 :: c10 :: c11 :: .inr (5, [.int 0, .int S, .ref 13, .int wr, .int 0, .int go, .int ga, .int te, .int ge, .int gr, .int (nI K), .ref 14, .int nx, .int wt, .ref 15, .ref 16, .ref 17, .ref 18, .int sz, .ref 19, .ref 20]) :: .inl (1, 4096, .inl f) :: .inl (1, 50, .inl so) :: .inl (1, 50, .inl fi) :: .inl (1, 50, .inl nu) :: .inl (1, 50, .inl le) :: .inl (1, 2000, .inl bs) :: .inl (1, 40, .inl ma) :: .inl (1, 64, .inl sh) :: rest) := by
  induction m with
  | zero =>
    intro k a it hk
    have hk : k = K := by omega
    subst hk
    iterate 3 refine am_s am_cls okX5_wrong rfl ?_
    refine am_b okX5_wrong rfl (fun h40 => ?_) (fun h40 => ?_)
    · skip
      refine am_s am_cls okX5_wrong rfl ?_
      refine am_b okX5_wrong rfl (fun h73 => ?_) (fun h73 => ?_)
      · try replace h73 := pd_b0 h73
        iterate 2 refine am_s am_cls okX5_wrong rfl ?_
        refine am_ri okX5_wrong rfl rfl rfl (Nat.le_refl _) (Nat.le_refl _) ?_
        exact ⟨by rw [rf_wm_0, rf_wi_0]; simp [h73], rfl⟩
      · try replace h73 := pd_b1 h73
        refine am_s am_cls okX5_wrong rfl ?_
        refine am_ri okX5_wrong rfl rfl rfl (Nat.le_refl _) (Nat.le_refl _) ?_
        exact ⟨by rw [rf_wm_0, rf_wi_0]; simp [h73], rfl⟩
    · exact absurd (nI_le (a := k) (b := k) (Nat.le_refl _) (by omega)) h40
  | succ m ih =>
    intro k a it hk
    iterate 3 refine am_s am_cls okX5_wrong rfl ?_
    refine am_b okX5_wrong rfl (fun h40 => ?_) (fun h40 => ?_)
    · exact absurd h40 (nI_ge (a := k) (b := K) (by omega) (by omega))
    · skip
      iterate 2 refine am_s am_cls okX5_wrong rfl ?_
      refine am_cV okX5_wrong rfl (r_isWrong l D tc b _ _ _ _ _ _ _ _ _ _ _ _ _ _ _ _ _ _ _ _ _ _ _ _ _ _ _ _ _ _ _ _ _ _ _ (vp_in_nI (n := k) (N := 50) (by omega) (by decide)) (by rw [nI_clamp (by omega)]; exact hso k (by omega))) cv_X5_126 coX5_isWrong rfl rfl rfl ⟨rfl, rfl, rfl⟩ ⟨Nat.le_refl _, Nat.le_refl _⟩ ?_
      rintro _ _ ⟨rfl, rfl⟩
      refine am_b okX5_wrong rfl (fun h49 => ?_) (fun h49 => ?_)
      · try replace h49 := pd_b0 h49
        iterate 2 refine am_s am_cls okX5_wrong rfl ?_
        have q := ih (k + 1) a it (by omega)
        rw [nI_succ k] at q
        rw [rf_wm_s, rf_wi_s, h49]
        exact q
      · try replace h49 := pd_b1 h49
        refine am_s am_cls okX5_wrong rfl ?_
        refine am_b okX5_wrong rfl (fun h53 => ?_) (fun h53 => ?_)
        · try replace h53 := pd_b0 h53
          iterate 6 refine am_s am_cls okX5_wrong rfl ?_
          have q := ih (k + 1) (a + 1) (nI k) (by omega)
          rw [nI_succ k] at q
          rw [rf_wm_s, rf_wi_s, h49, if_pos h53]
          exact q
        · try replace h53 := pd_b1 h53
          iterate 5 refine am_s am_cls okX5_wrong rfl ?_
          have q := ih (k + 1) (a + 1) it (by omega)
          rw [nI_succ k] at q
          rw [rf_wm_s, rf_wi_s, h49, if_neg h53]
          exact q
set_option maxHeartbeats 4000000 in
set_option maxRecDepth 100000 in
theorem r_wrong_u (c0 c1 c2 c3 c4 c5 c6 c7 c8 c9 c10 c11 : am_E) (rest : am_W) (th S wr go ga te ge gr nx wt sz : Int32) (f so fi nu le bs ma sh : Nat → Int32) (K : Nat) (x : Int32) (hK : K ≤ 50) (hso : ∀ j, j < K → rf_ok (so j)) : cM l D tc b yX5_wrong cX5_wrong 5 (some .int) 5 0 0 [.ref 12, .int x] (c0 :: c1 :: c2 :: c3 :: c4 :: c5 :: c6 :: c7 :: c8 :: c9 :: c10 :: c11 :: .inr (5, [.int th, .int S, .ref 13, .int wr, .int 0, .int go, .int ga, .int te, .int ge, .int gr, .int (nI K), .ref 14, .int nx, .int wt, .ref 15, .ref 16, .ref 17, .ref 18, .int sz, .ref 19, .ref 20]) :: .inl (1, 4096, .inl f) :: .inl (1, 50, .inl so) :: .inl (1, 50, .inl fi) :: .inl (1, 50, .inl nu) :: .inl (1, 50, .inl le) :: .inl (1, 2000, .inl bs) :: .inl (1, 40, .inl ma) :: .inl (1, 64, .inl sh) :: rest)
    (am_is (some (.int (if x < 0 then -12 else if ¬ x ≤ 1 then -12 else if x = 0 then rf_wm f so K 0 0 else rf_wi f so K 0 0 (-1)))) (c0 :: c1 :: c2 :: c3 :: c4 :: c5 :: c6 :: c7 :: c8 :: c9 :: c10 :: c11 :: .inr (5, [.int 0, .int S, .ref 13, .int wr, .int 0, .int go, .int ga, .int te, .int ge, .int gr, .int (nI K), .ref 14, .int nx, .int wt, .ref 15, .ref 16, .ref 17, .ref 18, .int sz, .ref 19, .ref 20]) :: .inl (1, 4096, .inl f) :: .inl (1, 50, .inl so) :: .inl (1, 50, .inl fi) :: .inl (1, 50, .inl nu) :: .inl (1, 50, .inl le) :: .inl (1, 2000, .inl bs) :: .inl (1, 40, .inl ma) :: .inl (1, 64, .inl sh) :: rest)) := by
  refine am_m (own := RX5) (ini := (false, [])) (L := [some (.ref 12), some (.int x), none, none, none]) rfl (by decide) (fun h => absurd h (by decide)) rfl (Nat.le_of_ble_eq_true rfl) rfl rfl ?_
  iterate 5 refine am_s am_cls okX5_wrong rfl ?_
  refine am_b okX5_wrong rfl (fun h9 => ?_) (fun h9 => ?_)
  · try replace h9 := pd_b0 h9
    refine am_s am_cls okX5_wrong rfl ?_
    refine am_b okX5_wrong rfl (fun h16 => ?_) (fun h16 => ?_)
    · skip
      refine am_s am_cls okX5_wrong rfl ?_
      refine am_ri okX5_wrong rfl rfl rfl (Nat.le_refl _) (Nat.le_refl _) ?_
      exact ⟨by simp [*], rfl⟩
    · skip
      iterate 2 refine am_s am_cls okX5_wrong rfl ?_
      refine am_b okX5_wrong rfl (fun h21 => ?_) (fun h21 => ?_)
      · skip
        iterate 6 refine am_s am_cls okX5_wrong rfl ?_
        have q := r_wrong_l l D tc b c0 c1 c2 c3 c4 c5 c6 c7 c8 c9 c10 c11 rest S wr go ga te ge gr nx wt sz f so fi nu le bs ma sh K x hK hso K 0 0 (-1) (Nat.zero_add _)
        rw [nI_0] at q
        rw [if_neg h16, if_neg (fun z => z h21)]
        exact q
      · skip
        refine am_s am_cls okX5_wrong rfl ?_
        refine am_ri okX5_wrong rfl rfl rfl (Nat.le_refl _) (Nat.le_refl _) ?_
        exact ⟨by simp [*], rfl⟩
  · exact absurd rfl h9
end PD
