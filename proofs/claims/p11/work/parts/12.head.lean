/-! ===== Head: the sectors of the rows, the marks, how many, the generation, the greatest ===== -/
def hd_sec (so : Nat → Int32) (ke k : Int32) : Int32 := bif !decide (k < 0) && !decide (ke ≤ k) && !decide (50 ≤ k) then so k.toNatClampNeg else -1
def hd_place (so : Nat → Int32) (k x : Int32) : Nat → Int32 := bif !decide (k < 0) && !decide (50 ≤ k) then upd so k.toNatClampNeg x else so
def hd_ks (so : Nat → Int32) (ke x : Int32) : Nat → Int32 := bif decide (50 ≤ ke) then so else hd_place so ke x
def hd_kk (ke : Int32) : Int32 := bif decide (50 ≤ ke) then ke else ke + 1
def hd_clr (us : Nat → Int32) : Nat → (Nat → Int32)
  | 0 => us
  | k + 1 => upd (hd_clr us k) (nI k).toNatClampNeg (vp_nar .boolean 0)
theorem hd_clr_0 (us : Nat → Int32) : hd_clr us 0 = us := by simp only [hd_clr]
theorem hd_clr_s (us : Nat → Int32) (k : Nat) : hd_clr us (k + 1) = upd (hd_clr us k) (nI k).toNatClampNeg (vp_nar .boolean 0) := by simp only [hd_clr]
def hd_m1 (us : Nat → Int32) (x : Int32) : Nat → Int32 := bif !decide (x < 0) && !decide (64 ≤ x) then upd us x.toNatClampNeg (vp_nar .boolean 1) else us
def hd_mk (so : Nat → Int32) (ke : Int32) (us : Nat → Int32) : Nat → (Nat → Int32)
  | 0 => us
  | k + 1 => hd_m1 (hd_mk so ke us k) (hd_sec so ke (nI k))
theorem hd_mk_0 (so : Nat → Int32) (ke : Int32) (us : Nat → Int32) : hd_mk so ke us 0 = us := by simp only [hd_mk]
theorem hd_mk_s (so : Nat → Int32) (ke : Int32) (us : Nat → Int32) (k : Nat) : hd_mk so ke us (k + 1) = hd_m1 (hd_mk so ke us k) (hd_sec so ke (nI k)) := by simp only [hd_mk]
def hd_us (so : Nat → Int32) (ke : Int32) (us : Nat → Int32) : Nat → Int32 := hd_mk so ke (hd_clr us 64) ke.toNatClampNeg
def hd_lf (us : Nat → Int32) (bd : Int32) : Nat → Nat → Int32
  | 0, _ => -1
  | m + 1, j => bif decide (bd ≤ nI j) then -1 else bif decide (us (nI j).toNatClampNeg = 0) then nI j else hd_lf us bd m (j + 1)
def hd_lb (so : Nat → Int32) (ke : Int32) : Nat → Int32
  | 0 => -1
  | k + 1 => bif decide (hd_sec so ke (nI k) ≤ hd_sec so ke (hd_lb so ke k)) then hd_lb so ke k else nI k
theorem hd_lb_0 (so : Nat → Int32) (ke : Int32) : hd_lb so ke 0 = -1 := by simp only [hd_lb]
theorem hd_lb_s (so : Nat → Int32) (ke : Int32) (k : Nat) : hd_lb so ke (k + 1) = bif decide (hd_sec so ke (nI k) ≤ hd_sec so ke (hd_lb so ke k)) then hd_lb so ke k else nI k := by simp only [hd_lb]
def hd_ff (fi : Int32) : Nat → Int32
  | 0 => fi
  | k + 1 => im_af (hd_ff fi k)
theorem hd_ff_0 (fi : Int32) : hd_ff fi 0 = fi := by simp only [hd_ff]
theorem hd_ff_s (fi : Int32) (k : Nat) : hd_ff fi (k + 1) = im_af (hd_ff fi k) := by simp only [hd_ff]
def hd_fg (so : Nat → Int32) (ke : Int32) (g : Nat → Int32) (fi : Int32) : Nat → (Nat → Int32)
  | 0 => g
  | k + 1 => im_ag (hd_fg so ke g fi k) (hd_ff fi k) (hd_sec so ke (nI k))
theorem hd_fg_0 (so : Nat → Int32) (ke : Int32) (g : Nat → Int32) (fi : Int32) : hd_fg so ke g fi 0 = g := by simp only [hd_fg]
theorem hd_fg_s (so : Nat → Int32) (ke : Int32) (g : Nat → Int32) (fi : Int32) (k : Nat) : hd_fg so ke g fi (k + 1) = im_ag (hd_fg so ke g fi k) (hd_ff fi k) (hd_sec so ke (nI k)) := by simp only [hd_fg]
def hd_g3 (g : Nat → Int32) (ke ge gr : Int32) : Nat → Int32 := im_ag (im_g4 (im_g4 (im_ag g 0 200) (im_af 0) ge) (im_f4 (im_af 0)) gr) (im_f4 (im_f4 (im_af 0))) ke
def hd_f3 : Int32 := im_af (im_f4 (im_f4 (im_af 0)))
def hd_fillf (ke : Int32) : Int32 := hd_ff hd_f3 ke.toNatClampNeg
def hd_fillg (so : Nat → Int32) (ke ge gr : Int32) (g : Nat → Int32) : Nat → Int32 := im_seal (hd_fg so ke (hd_g3 g ke ge gr) hd_f3 ke.toNatClampNeg) (hd_fillf ke)
section PD
variable (l : Launch) (D : va_G) (tc : Nat → ClassId) (b : Nat)
set_option maxHeartbeats 4000000 in
set_option maxRecDepth 100000 in
theorem c_sectorOf (c0 c1 c2 c3 c4 : am_E) (rest : am_W) (so us : Nat → Int32) (ke ge gr : Int32) (k : Int32)  : cM l D tc b yX0_sectorOf cX0_sectorOf 2 (some .int) 1 0 0 [.ref 5, .int k] (c0 :: c1 :: c2 :: c3 :: c4 :: .inr (0, [.ref 6, .ref 7, .int ke, .int ge, .int gr]) :: .inl (1, 50, .inl so) :: .inl (2, 64, .inl us) :: rest)
    (am_is (some (.int (hd_sec so ke k))) (c0 :: c1 :: c2 :: c3 :: c4 :: .inr (0, [.ref 6, .ref 7, .int ke, .int ge, .int gr]) :: .inl (1, 50, .inl so) :: .inl (2, 64, .inl us) :: rest)) := by
  refine am_m (own := RX0) (ini := (false, [])) (L := [some (.ref 5), some (.int k)]) rfl (by decide) (fun h => absurd h (by decide)) rfl (Nat.le_of_ble_eq_true rfl) rfl rfl ?_
  refine am_s am_cls okX0_sectorOf rfl ?_
  refine am_b okX0_sectorOf rfl (fun h1 => ?_) (fun h1 => ?_)
  · skip
    refine am_s am_cls okX0_sectorOf rfl ?_
    refine am_ri okX0_sectorOf rfl rfl rfl (Nat.le_refl _) (Nat.le_refl _) ?_
    exact ⟨by simp [hd_sec, *], rfl⟩
  · skip
    iterate 3 refine am_s am_cls okX0_sectorOf rfl ?_
    refine am_b okX0_sectorOf rfl (fun h9 => ?_) (fun h9 => ?_)
    · skip
      refine am_s am_cls okX0_sectorOf rfl ?_
      refine am_ri okX0_sectorOf rfl rfl rfl (Nat.le_refl _) (Nat.le_refl _) ?_
      exact ⟨by simp [hd_sec, *], rfl⟩
    · skip
      iterate 2 refine am_s am_cls okX0_sectorOf rfl ?_
      refine am_b okX0_sectorOf rfl (fun h15 => ?_) (fun h15 => ?_)
      · skip
        refine am_s am_cls okX0_sectorOf rfl ?_
        refine am_ri okX0_sectorOf rfl rfl rfl (Nat.le_refl _) (Nat.le_refl _) ?_
        exact ⟨by simp [hd_sec, *], rfl⟩
      · skip
        iterate 3 refine am_s am_cls okX0_sectorOf rfl ?_
        refine am_al okX0_sectorOf rfl (vp_in2 50 (by decide) h1 h15) ?_
        refine am_s am_cls okX0_sectorOf rfl ?_
        refine am_ri okX0_sectorOf rfl rfl rfl (Nat.le_refl _) (Nat.le_refl _) ?_
        exact ⟨by simp [hd_sec, *], rfl⟩
set_option maxHeartbeats 4000000 in
set_option maxRecDepth 100000 in
theorem c_place (c0 c1 c2 c3 c4 : am_E) (rest : am_W) (so us : Nat → Int32) (ke ge gr : Int32) (k x : Int32)  : cM l D tc b yX0_place cX0_place 3 none 1 0 0 [.ref 5, .int k, .int x] (c0 :: c1 :: c2 :: c3 :: c4 :: .inr (0, [.ref 6, .ref 7, .int ke, .int ge, .int gr]) :: .inl (1, 50, .inl so) :: .inl (2, 64, .inl us) :: rest)
    (am_is none (c0 :: c1 :: c2 :: c3 :: c4 :: .inr (0, [.ref 6, .ref 7, .int ke, .int ge, .int gr]) :: .inl (1, 50, .inl (hd_place so k x)) :: .inl (2, 64, .inl us) :: rest)) := by
  refine am_m (own := RX0) (ini := (false, [])) (L := [some (.ref 5), some (.int k), some (.int x)]) rfl (by decide) (fun h => absurd h (by decide)) rfl (Nat.le_of_ble_eq_true rfl) rfl rfl ?_
  refine am_s am_cls okX0_place rfl ?_
  refine am_b okX0_place rfl (fun h1 => ?_) (fun h1 => ?_)
  · skip
    refine am_rv okX0_place rfl rfl rfl (Nat.le_refl _) (Nat.le_refl _) ?_
    exact ⟨rfl, by simp [hd_place, *]⟩
  · skip
    iterate 2 refine am_s am_cls okX0_place rfl ?_
    refine am_b okX0_place rfl (fun h7 => ?_) (fun h7 => ?_)
    · skip
      refine am_rv okX0_place rfl rfl rfl (Nat.le_refl _) (Nat.le_refl _) ?_
      exact ⟨rfl, by simp [hd_place, *]⟩
    · skip
      iterate 4 refine am_s am_cls okX0_place rfl ?_
      refine am_as okX0_place rfl (vp_in2 50 (by decide) h1 h7) ?_
      refine am_rv okX0_place rfl rfl rfl (Nat.le_refl _) (Nat.le_refl _) ?_
      exact ⟨rfl, by simp [hd_place, *]⟩
set_option maxHeartbeats 4000000 in
set_option maxRecDepth 100000 in
theorem c_keep (c0 c1 c2 c3 c4 : am_E) (rest : am_W) (so us : Nat → Int32) (ke ge gr : Int32) (x : Int32)  : cM l D tc b yX0_keep cX0_keep 2 none 2 0 0 [.ref 5, .int x] (c0 :: c1 :: c2 :: c3 :: c4 :: .inr (0, [.ref 6, .ref 7, .int ke, .int ge, .int gr]) :: .inl (1, 50, .inl so) :: .inl (2, 64, .inl us) :: rest)
    (am_is none (c0 :: c1 :: c2 :: c3 :: c4 :: .inr (0, [.ref 6, .ref 7, .int (hd_kk ke), .int ge, .int gr]) :: .inl (1, 50, .inl (hd_ks so ke x)) :: .inl (2, 64, .inl us) :: rest)) := by
  refine am_m (own := RX0) (ini := (false, [])) (L := [some (.ref 5), some (.int x)]) rfl (by decide) (fun h => absurd h (by decide)) rfl (Nat.le_of_ble_eq_true rfl) rfl rfl ?_
  iterate 3 refine am_s am_cls okX0_keep rfl ?_
  refine am_b okX0_keep rfl (fun h6 => ?_) (fun h6 => ?_)
  · skip
    refine am_rv okX0_keep rfl rfl rfl (Nat.le_refl _) (Nat.le_refl _) ?_
    exact ⟨rfl, by simp [hd_ks, hd_kk, *]⟩
  · skip
    iterate 4 refine am_s am_cls okX0_keep rfl ?_
    refine am_cV okX0_keep rfl (c_place l D tc b _ _ _ _ _ _ _ _ _ _ _ _ _) cv_X0_23 coX0_place rfl rfl rfl ⟨rfl, rfl, rfl⟩ ⟨Nat.le_refl _, Nat.le_refl _⟩ ?_
    rintro _ _ ⟨rfl, rfl⟩
    iterate 6 refine am_s am_cls okX0_keep rfl ?_
    refine am_rv okX0_keep rfl rfl rfl (Nat.le_refl _) (Nat.le_refl _) ?_
    exact ⟨rfl, by simp [hd_ks, hd_kk, *]⟩
set_option maxHeartbeats 4000000 in
set_option maxRecDepth 100000 in
theorem c_mark_2 (c0 c1 c2 c3 c4 : am_E) (rest : am_W) (so us : Nat → Int32) (ke ge gr : Int32)  (m : Nat) : ∀ (k : Nat) (z : Option Value), k + m = ke.toNatClampNeg → am_R lw_tbl vwCl l D tc b RX0 cX0_markUsed 3 none (false, []) (am_rm 2 0 0) 0 0 (am_is none (c0 :: c1 :: c2 :: c3 :: c4 :: .inr (0, [.ref 6, .ref 7, .int ke, .int ge, .int gr]) :: .inl (1, 50, .inl so) :: .inl (2, 64, .inl (hd_mk so ke us ke.toNatClampNeg)) :: rest)) 0 0 23 [some (.ref 5), some (.int (nI k)), z] [] (c0 :: c1 :: c2 :: c3 :: c4 :: .inr (0, [.ref 6, .ref 7, .int ke, .int ge, .int gr]) :: .inl (1, 50, .inl so) :: .inl (2, 64, .inl (hd_mk so ke us k)) :: rest) := by
  induction m with
  | zero =>
    intro k z hk
    have hk : k = ke.toNatClampNeg := by omega
    subst hk
    iterate 3 refine am_s am_cls okX0_markUsed rfl ?_
    refine am_b okX0_markUsed rfl (fun h28 => ?_) (fun h28 => ?_)
    · skip
      refine am_rv okX0_markUsed rfl rfl rfl (Nat.le_refl _) (Nat.le_refl _) ?_
      exact ⟨rfl, rfl⟩
    · exact absurd (cl_ge (Nat.le_refl _) (cl_b _)) h28
  | succ m ih =>
    intro k z hk
    iterate 3 refine am_s am_cls okX0_markUsed rfl ?_
    refine am_b okX0_markUsed rfl (fun h28 => ?_) (fun h28 => ?_)
    · exact absurd h28 (cl_lt (by omega))
    · skip
      iterate 2 refine am_s am_cls okX0_markUsed rfl ?_
      refine am_cV okX0_markUsed rfl (c_sectorOf l D tc b _ _ _ _ _ _ _ _ _ _ _ _) cv_X0_30 coX0_sectorOf rfl rfl rfl ⟨rfl, rfl, rfl⟩ ⟨Nat.le_refl _, Nat.le_refl _⟩ ?_
      rintro _ _ ⟨rfl, rfl⟩
      iterate 2 refine am_s am_cls okX0_markUsed rfl ?_
      refine am_b okX0_markUsed rfl (fun h38 => ?_) (fun h38 => ?_)
      · skip
        iterate 2 refine am_s am_cls okX0_markUsed rfl ?_
        have r := ih (k + 1) (some (.int (hd_sec so ke (nI k)))) (by omega)
        rw [hd_mk_s so ke us k, nI_succ k] at r
        simp only [hd_m1, *, decide_true, decide_false, cond_true, cond_false, Bool.not_true, Bool.not_false, Bool.and_true, Bool.and_false, Bool.false_and, Bool.true_and] at r
        exact r
      · skip
        iterate 2 refine am_s am_cls okX0_markUsed rfl ?_
        refine am_b okX0_markUsed rfl (fun h44 => ?_) (fun h44 => ?_)
        · skip
          iterate 2 refine am_s am_cls okX0_markUsed rfl ?_
          have r := ih (k + 1) (some (.int (hd_sec so ke (nI k)))) (by omega)
          rw [hd_mk_s so ke us k, nI_succ k] at r
          simp only [hd_m1, *, decide_true, decide_false, cond_true, cond_false, Bool.not_true, Bool.not_false, Bool.and_true, Bool.and_false, Bool.false_and, Bool.true_and] at r
          exact r
        · skip
          iterate 4 refine am_s am_cls okX0_markUsed rfl ?_
          refine am_as okX0_markUsed rfl (vp_in2 64 (by decide) h38 h44) ?_
          iterate 2 refine am_s am_cls okX0_markUsed rfl ?_
          have r := ih (k + 1) (some (.int (hd_sec so ke (nI k)))) (by omega)
          rw [hd_mk_s so ke us k, nI_succ k] at r
          simp only [hd_m1, *, decide_true, decide_false, cond_true, cond_false, Bool.not_true, Bool.not_false, Bool.and_true, Bool.and_false, Bool.false_and, Bool.true_and] at r
          exact r
set_option maxHeartbeats 4000000 in
set_option maxRecDepth 100000 in
theorem c_mark_1 (c0 c1 c2 c3 c4 : am_E) (rest : am_W) (so us : Nat → Int32) (ke ge gr : Int32)  (m : Nat) : ∀ (k : Nat), k + m = 64 → am_R lw_tbl vwCl l D tc b RX0 cX0_markUsed 3 none (false, []) (am_rm 2 0 0) 0 0 (am_is none (c0 :: c1 :: c2 :: c3 :: c4 :: .inr (0, [.ref 6, .ref 7, .int ke, .int ge, .int gr]) :: .inl (1, 50, .inl so) :: .inl (2, 64, .inl (hd_us so ke us)) :: rest)) 0 0 2 [some (.ref 5), some (.int (nI k)), none] [] (c0 :: c1 :: c2 :: c3 :: c4 :: .inr (0, [.ref 6, .ref 7, .int ke, .int ge, .int gr]) :: .inl (1, 50, .inl so) :: .inl (2, 64, .inl (hd_clr us k)) :: rest) := by
  induction m with
  | zero =>
    intro k hk
    have hk : k = 64 := by omega
    subst hk
    iterate 2 refine am_s am_cls okX0_markUsed rfl ?_
    refine am_b okX0_markUsed rfl (fun h5 => ?_) (fun h5 => ?_)
    · skip
      iterate 2 refine am_s am_cls okX0_markUsed rfl ?_
      have r := c_mark_2 l D tc b c0 c1 c2 c3 c4 rest so (hd_clr us 64) ke ge gr ke.toNatClampNeg 0 none (Nat.zero_add _)
      rw [hd_mk_0, nI_0] at r
      exact r
    · exact absurd (nI_le (a := 64) (b := 64) (Nat.le_refl _) (by decide)) h5
  | succ m ih =>
    intro k hk
    iterate 2 refine am_s am_cls okX0_markUsed rfl ?_
    refine am_b okX0_markUsed rfl (fun h5 => ?_) (fun h5 => ?_)
    · exact absurd h5 (nI_ge (a := k) (b := 64) (by omega) (by decide))
    · skip
      iterate 4 refine am_s am_cls okX0_markUsed rfl ?_
      refine am_as okX0_markUsed rfl (vp_in_nI (n := k) (N := 64) (by omega) (by decide)) ?_
      iterate 2 refine am_s am_cls okX0_markUsed rfl ?_
      have r := ih (k + 1) (by omega)
      rw [hd_clr_s us k, nI_succ k] at r
      exact r
set_option maxHeartbeats 4000000 in
set_option maxRecDepth 100000 in
theorem c_mark (c0 c1 c2 c3 c4 : am_E) (rest : am_W) (so us : Nat → Int32) (ke ge gr : Int32)  : cM l D tc b yX0_markUsed cX0_markUsed 3 none 2 0 0 [.ref 5] (c0 :: c1 :: c2 :: c3 :: c4 :: .inr (0, [.ref 6, .ref 7, .int ke, .int ge, .int gr]) :: .inl (1, 50, .inl so) :: .inl (2, 64, .inl us) :: rest)
    (am_is none (c0 :: c1 :: c2 :: c3 :: c4 :: .inr (0, [.ref 6, .ref 7, .int ke, .int ge, .int gr]) :: .inl (1, 50, .inl so) :: .inl (2, 64, .inl (hd_us so ke us)) :: rest)) := by
  refine am_m (own := RX0) (ini := (false, [])) (L := [some (.ref 5), none, none]) rfl (by decide) (fun h => absurd h (by decide)) rfl (Nat.le_of_ble_eq_true rfl) rfl rfl ?_
  iterate 2 refine am_s am_cls okX0_markUsed rfl ?_
  have r := c_mark_1 l D tc b c0 c1 c2 c3 c4 rest so us ke ge gr 64 0 rfl
  rw [hd_clr_0, nI_0] at r
  exact r
set_option maxHeartbeats 4000000 in
set_option maxRecDepth 100000 in
theorem c_least_l (c0 c1 c2 c3 c4 : am_E) (rest : am_W) (so us : Nat → Int32) (ke ge gr : Int32) (bd : Int32) (m : Nat) : ∀ (k : Nat), k + m = 64 → am_R lw_tbl vwCl l D tc b RX0 cX0_leastFree 3 (some .int) (false, []) (am_rm 3 0 0) 0 0 (am_is (some (.int (hd_lf us bd m k))) (c0 :: c1 :: c2 :: c3 :: c4 :: .inr (0, [.ref 6, .ref 7, .int ke, .int ge, .int gr]) :: .inl (1, 50, .inl so) :: .inl (2, 64, .inl us) :: rest)) 0 0 6 [some (.ref 5), some (.int bd), some (.int (nI k))] [] (c0 :: c1 :: c2 :: c3 :: c4 :: .inr (0, [.ref 6, .ref 7, .int ke, .int ge, .int gr]) :: .inl (1, 50, .inl so) :: .inl (2, 64, .inl us) :: rest) := by
  induction m with
  | zero =>
    intro k hk
    have hk : k = 64 := by omega
    subst hk
    iterate 2 refine am_s am_cls okX0_leastFree rfl ?_
    refine am_b okX0_leastFree rfl (fun h8 => ?_) (fun h8 => ?_)
    · skip
      refine am_s am_cls okX0_leastFree rfl ?_
      refine am_ri okX0_leastFree rfl rfl rfl (Nat.le_refl _) (Nat.le_refl _) ?_
      exact ⟨by simp [hd_lf], rfl⟩
    · skip
      iterate 2 refine am_s am_cls okX0_leastFree rfl ?_
      refine am_b okX0_leastFree rfl (fun h14 => ?_) (fun h14 => ?_)
      · skip
        refine am_s am_cls okX0_leastFree rfl ?_
        refine am_ri okX0_leastFree rfl rfl rfl (Nat.le_refl _) (Nat.le_refl _) ?_
        exact ⟨by simp [hd_lf], rfl⟩
      · exact absurd (nI_le (a := 64) (b := 64) (Nat.le_refl _) (by decide)) h14
  | succ m ih =>
    intro k hk
    iterate 2 refine am_s am_cls okX0_leastFree rfl ?_
    refine am_b okX0_leastFree rfl (fun h8 => ?_) (fun h8 => ?_)
    · skip
      refine am_s am_cls okX0_leastFree rfl ?_
      refine am_ri okX0_leastFree rfl rfl rfl (Nat.le_refl _) (Nat.le_refl _) ?_
      exact ⟨by simp [hd_lf, *], rfl⟩
    · skip
      iterate 2 refine am_s am_cls okX0_leastFree rfl ?_
      refine am_b okX0_leastFree rfl (fun h14 => ?_) (fun h14 => ?_)
      · exact absurd h14 (nI_ge (a := k) (b := 64) (by omega) (by decide))
      · skip
        iterate 3 refine am_s am_cls okX0_leastFree rfl ?_
        refine am_al okX0_leastFree rfl (vp_in_nI (n := k) (N := 64) (by omega) (by decide)) ?_
        refine am_b okX0_leastFree rfl (fun h23 => ?_) (fun h23 => ?_)
        · try replace h23 := pd_b0 h23
          refine am_s am_cls okX0_leastFree rfl ?_
          refine am_ri okX0_leastFree rfl rfl rfl (Nat.le_refl _) (Nat.le_refl _) ?_
          exact ⟨by simp [hd_lf, *], rfl⟩
        · try replace h23 := pd_b1 h23
          iterate 2 refine am_s am_cls okX0_leastFree rfl ?_
          have r := ih (k + 1) (by omega)
          rw [nI_succ k] at r
          rw [show hd_lf us bd (m + 1) k = hd_lf us bd m (k + 1) from by simp [hd_lf, *]]
          exact r
set_option maxHeartbeats 4000000 in
set_option maxRecDepth 100000 in
theorem c_least (c0 c1 c2 c3 c4 : am_E) (rest : am_W) (so us : Nat → Int32) (ke ge gr : Int32) (bd : Int32)  : cM l D tc b yX0_leastFree cX0_leastFree 3 (some .int) 3 0 0 [.ref 5, .int bd] (c0 :: c1 :: c2 :: c3 :: c4 :: .inr (0, [.ref 6, .ref 7, .int ke, .int ge, .int gr]) :: .inl (1, 50, .inl so) :: .inl (2, 64, .inl us) :: rest)
    (am_is (some (.int (hd_lf (hd_us so ke us) bd 62 2))) (c0 :: c1 :: c2 :: c3 :: c4 :: .inr (0, [.ref 6, .ref 7, .int ke, .int ge, .int gr]) :: .inl (1, 50, .inl so) :: .inl (2, 64, .inl (hd_us so ke us)) :: rest)) := by
  refine am_m (own := RX0) (ini := (false, [])) (L := [some (.ref 5), some (.int bd), none]) rfl (by decide) (fun h => absurd h (by decide)) rfl (Nat.le_of_ble_eq_true rfl) rfl rfl ?_
  refine am_s am_cls okX0_leastFree rfl ?_
  refine am_cV okX0_leastFree rfl (c_mark l D tc b _ _ _ _ _ _ _ _ _ _ _) cv_X0_27 coX0_markUsed rfl rfl rfl ⟨rfl, rfl, rfl⟩ ⟨Nat.le_refl _, Nat.le_refl _⟩ ?_
  rintro _ _ ⟨rfl, rfl⟩
  iterate 2 refine am_s am_cls okX0_leastFree rfl ?_
  exact c_least_l l D tc b c0 c1 c2 c3 c4 rest so (hd_us so ke us) ke ge gr bd 62 2 rfl
set_option maxHeartbeats 4000000 in
set_option maxRecDepth 100000 in
theorem c_last_l (c0 c1 c2 c3 c4 : am_E) (rest : am_W) (so us : Nat → Int32) (ke ge gr : Int32)  (m : Nat) : ∀ (k : Nat), k + m = ke.toNatClampNeg → am_R lw_tbl vwCl l D tc b RX0 cX0_lastBySector 3 (some .int) (false, []) (am_rm 2 0 0) 0 0 (am_is (some (.int (hd_lb so ke ke.toNatClampNeg))) (c0 :: c1 :: c2 :: c3 :: c4 :: .inr (0, [.ref 6, .ref 7, .int ke, .int ge, .int gr]) :: .inl (1, 50, .inl so) :: .inl (2, 64, .inl us) :: rest)) 0 0 4 [some (.ref 5), some (.int (hd_lb so ke k)), some (.int (nI k))] [] (c0 :: c1 :: c2 :: c3 :: c4 :: .inr (0, [.ref 6, .ref 7, .int ke, .int ge, .int gr]) :: .inl (1, 50, .inl so) :: .inl (2, 64, .inl us) :: rest) := by
  induction m with
  | zero =>
    intro k hk
    have hk : k = ke.toNatClampNeg := by omega
    subst hk
    iterate 3 refine am_s am_cls okX0_lastBySector rfl ?_
    refine am_b okX0_lastBySector rfl (fun h9 => ?_) (fun h9 => ?_)
    · skip
      refine am_s am_cls okX0_lastBySector rfl ?_
      refine am_ri okX0_lastBySector rfl rfl rfl (Nat.le_refl _) (Nat.le_refl _) ?_
      exact ⟨rfl, rfl⟩
    · exact absurd (cl_ge (Nat.le_refl _) (cl_b _)) h9
  | succ m ih =>
    intro k hk
    iterate 3 refine am_s am_cls okX0_lastBySector rfl ?_
    refine am_b okX0_lastBySector rfl (fun h9 => ?_) (fun h9 => ?_)
    · exact absurd h9 (cl_lt (by omega))
    · skip
      iterate 2 refine am_s am_cls okX0_lastBySector rfl ?_
      refine am_cV okX0_lastBySector rfl (c_sectorOf l D tc b _ _ _ _ _ _ _ _ _ _ _ _) cv_X0_30 coX0_sectorOf rfl rfl rfl ⟨rfl, rfl, rfl⟩ ⟨Nat.le_refl _, Nat.le_refl _⟩ ?_
      rintro _ _ ⟨rfl, rfl⟩
      iterate 2 refine am_s am_cls okX0_lastBySector rfl ?_
      refine am_cV okX0_lastBySector rfl (c_sectorOf l D tc b _ _ _ _ _ _ _ _ _ _ _ _) cv_X0_30 coX0_sectorOf rfl rfl rfl ⟨rfl, rfl, rfl⟩ ⟨Nat.le_refl _, Nat.le_refl _⟩ ?_
      rintro _ _ ⟨rfl, rfl⟩
      refine am_b okX0_lastBySector rfl (fun h22 => ?_) (fun h22 => ?_)
      · skip
        iterate 2 refine am_s am_cls okX0_lastBySector rfl ?_
        have r := ih (k + 1) (by omega)
        rw [hd_lb_s so ke k, nI_succ k] at r
        simp only [h22, decide_true, decide_false, cond_true, cond_false] at r
        exact r
      · skip
        iterate 4 refine am_s am_cls okX0_lastBySector rfl ?_
        have r := ih (k + 1) (by omega)
        rw [hd_lb_s so ke k, nI_succ k] at r
        simp only [h22, decide_true, decide_false, cond_true, cond_false] at r
        exact r
set_option maxHeartbeats 4000000 in
set_option maxRecDepth 100000 in
theorem c_last (c0 c1 c2 c3 c4 : am_E) (rest : am_W) (so us : Nat → Int32) (ke ge gr : Int32)  : cM l D tc b yX0_lastBySector cX0_lastBySector 3 (some .int) 2 0 0 [.ref 5] (c0 :: c1 :: c2 :: c3 :: c4 :: .inr (0, [.ref 6, .ref 7, .int ke, .int ge, .int gr]) :: .inl (1, 50, .inl so) :: .inl (2, 64, .inl us) :: rest)
    (am_is (some (.int (hd_lb so ke ke.toNatClampNeg))) (c0 :: c1 :: c2 :: c3 :: c4 :: .inr (0, [.ref 6, .ref 7, .int ke, .int ge, .int gr]) :: .inl (1, 50, .inl so) :: .inl (2, 64, .inl us) :: rest)) := by
  refine am_m (own := RX0) (ini := (false, [])) (L := [some (.ref 5), none, none]) rfl (by decide) (fun h => absurd h (by decide)) rfl (Nat.le_of_ble_eq_true rfl) rfl rfl ?_
  iterate 4 refine am_s am_cls okX0_lastBySector rfl ?_
  have r := c_last_l l D tc b c0 c1 c2 c3 c4 rest so us ke ge gr ke.toNatClampNeg 0 (Nat.zero_add _)
  rw [hd_lb_0, nI_0] at r
  exact r
end PD
