/-! ===== heads on the disk, writes ===== -/
def pd_hl (f : Nat → Int32) (S s : Int32) : Nat → Nat → Bool
  | 0, _ => true
  | m + 1, k => bif decide (pd_look f S s (10 + nI k) < 2) then false else bif decide (pd_look f S s (10 + nI k) < S) then pd_hl f S s m (k + 1) else false
def pd_head (f : Nat → Int32) (S s : Int32) : Bool := decide (pd_look f S s 0 = 200) && !decide (50 < pd_look f S s 9) && pd_whole f S s && pd_hl f S s (pd_look f S s 9).toNatClampNeg 0
def pd_wr (f : Nat → Int32) (S s : Int32) (g : Nat → Int32) : Nat → (Nat → Int32)
  | 0 => f
  | k + 1 => pd_set (pd_wr f S s g k) S s (nI k) (im_look g (nI k))
theorem pd_wr_0 (f : Nat → Int32) (S s : Int32) (g : Nat → Int32) : pd_wr f S s g 0 = f := by simp only [pd_wr]
theorem pd_wr_s (f : Nat → Int32) (S s : Int32) (g : Nat → Int32) (k : Nat) : pd_wr f S s g (k + 1) = pd_set (pd_wr f S s g k) S s (nI k) (im_look g (nI k)) := by simp only [pd_wr]
/-- a write: the bytes behind it, and what is left before the cut -/
def pd_wf (f : Nat → Int32) (S s : Int32) (g : Nat → Int32) (cu te : Int32) : Nat → Int32 := pd_wr f S s g (bif decide (cu = 0) then te else 64).toNatClampNeg
def pd_wc (cu : Int32) : Int32 := bif decide (cu = -1) then cu else cu - 1
def hd_rk (ke : Int32) : Nat → Int32
  | 0 => ke
  | k + 1 => hd_kk (hd_rk ke k)
theorem hd_rk_0 (ke : Int32) : hd_rk ke 0 = ke := by simp only [hd_rk]
theorem hd_rk_s (ke : Int32) (k : Nat) : hd_rk ke (k + 1) = hd_kk (hd_rk ke k) := by simp only [hd_rk]
def hd_rs (f : Nat → Int32) (S s : Int32) (so : Nat → Int32) (ke : Int32) : Nat → (Nat → Int32)
  | 0 => so
  | k + 1 => hd_ks (hd_rs f S s so ke k) (hd_rk ke k) (pd_look f S s (10 + nI k))
theorem hd_rs_0 (f : Nat → Int32) (S s : Int32) (so : Nat → Int32) (ke : Int32) : hd_rs f S s so ke 0 = so := by simp only [hd_rs]
theorem hd_rs_s (f : Nat → Int32) (S s : Int32) (so : Nat → Int32) (ke : Int32) (k : Nat) : hd_rs f S s so ke (k + 1) = hd_ks (hd_rs f S s so ke k) (hd_rk ke k) (pd_look f S s (10 + nI k)) := by simp only [hd_rs]
def hd_rows (f : Nat → Int32) (S s : Int32) : Nat := (if 50 < pd_look f S s 9 then 50 else pd_look f S s 9).toNatClampNeg
/-- which head counts: none, or the one in this sector -/
def hd_pick (f : Nat → Int32) (S : Int32) : Option Int32 := bif pd_head f S 0 && pd_head f S 1 then some (bif decide (pd_four f S 1 1 ≤ pd_four f S 0 1) then 0 else 1) else bif pd_head f S 0 then some 0 else bif pd_head f S 1 then some 1 else none
def rd_so (o : Option Int32) (f : Nat → Int32) (S : Int32) (so : Nat → Int32) : Nat → Int32 := match o with
  | some s => hd_rs f S s so 0 (hd_rows f S s)
  | none => so
def rd_ke (o : Option Int32) (f : Nat → Int32) (S : Int32) : Int32 := match o with
  | some s => hd_rk 0 (hd_rows f S s)
  | none => 0
def rd_ge (o : Option Int32) (f : Nat → Int32) (S : Int32) : Int32 := match o with
  | some s => pd_four f S s 1
  | none => 0
def rd_gr (o : Option Int32) (f : Nat → Int32) (S : Int32) : Int32 := match o with
  | some s => pd_four f S s 5
  | none => 0
section PD
variable (l : Launch) (D : va_G) (tc : Nat → ClassId) (b : Nat)
set_option maxHeartbeats 4000000 in
set_option maxRecDepth 100000 in
theorem c_hfill_l (c0 c1 c2 : am_E) (rest : am_W) (g : Nat → Int32) (fi : Int32) (so us : Nat → Int32) (ke ge gr : Int32)  (m : Nat) : ∀ (k : Nat), k + m = ke.toNatClampNeg → am_R lw_tbl vwCl l D tc b RX0 cX0_fill 3 none (false, []) (am_rm 4 0 0) 0 0 (am_is none (c0 :: c1 :: c2 :: .inr (1, [.ref 4, .int (hd_ff fi ke.toNatClampNeg)]) :: .inl (0, 64, .inl (im_seal (hd_fg so ke g fi ke.toNatClampNeg) (hd_ff fi ke.toNatClampNeg))) :: .inr (0, [.ref 6, .ref 7, .int ke, .int ge, .int gr]) :: .inl (1, 50, .inl so) :: .inl (2, 64, .inl us) :: rest)) 0 0 33 [some (.ref 5), some (.ref 3), some (.int (nI k))] [] (c0 :: c1 :: c2 :: .inr (1, [.ref 4, .int (hd_ff fi k)]) :: .inl (0, 64, .inl (hd_fg so ke g fi k)) :: .inr (0, [.ref 6, .ref 7, .int ke, .int ge, .int gr]) :: .inl (1, 50, .inl so) :: .inl (2, 64, .inl us) :: rest) := by
  induction m with
  | zero =>
    intro k hk
    have hk : k = ke.toNatClampNeg := by omega
    subst hk
    iterate 3 refine am_s am_cls okX0_fill rfl ?_
    refine am_b okX0_fill rfl (fun h38 => ?_) (fun h38 => ?_)
    · skip
      refine am_s am_cls okX0_fill rfl ?_
      refine am_cV okX0_fill rfl (c_iseal l D tc b _ _ _ _ _ _) cv_X0_52 coX1_seal rfl rfl rfl ⟨rfl, rfl, rfl⟩ ⟨Nat.le_refl _, Nat.le_refl _⟩ ?_
      rintro _ _ ⟨rfl, rfl⟩
      refine am_rv okX0_fill rfl rfl rfl (Nat.le_refl _) (Nat.le_refl _) ?_
      exact ⟨rfl, rfl⟩
    · exact absurd (cl_ge (Nat.le_refl _) (cl_b _)) h38
  | succ m ih =>
    intro k hk
    iterate 3 refine am_s am_cls okX0_fill rfl ?_
    refine am_b okX0_fill rfl (fun h38 => ?_) (fun h38 => ?_)
    · exact absurd h38 (cl_lt (by omega))
    · skip
      iterate 3 refine am_s am_cls okX0_fill rfl ?_
      refine am_cV okX0_fill rfl (c_sectorOf l D tc b _ _ _ _ _ _ _ _ _ _ _ _) cv_X0_30 coX0_sectorOf rfl rfl rfl ⟨rfl, rfl, rfl⟩ ⟨Nat.le_refl _, Nat.le_refl _⟩ ?_
      rintro _ _ ⟨rfl, rfl⟩
      refine am_cV okX0_fill rfl (c_iapp l D tc b _ _ _ _ _ _ _) cv_X0_49 coX1_append rfl rfl rfl ⟨rfl, rfl, rfl⟩ ⟨Nat.le_refl _, Nat.le_refl _⟩ ?_
      rintro _ _ ⟨rfl, rfl⟩
      iterate 2 refine am_s am_cls okX0_fill rfl ?_
      have r := ih (k + 1) (by omega)
      rw [hd_fg_s so ke g fi k, hd_ff_s fi k, nI_succ k] at r
      exact r
set_option maxHeartbeats 4000000 in
set_option maxRecDepth 100000 in
theorem c_hfill (c0 c1 c2 : am_E) (rest : am_W) (g : Nat → Int32) (fi : Int32) (so us : Nat → Int32) (ke ge gr : Int32)  : cM l D tc b yX0_fill cX0_fill 3 none 4 0 0 [.ref 5, .ref 3] (c0 :: c1 :: c2 :: .inr (1, [.ref 4, .int fi]) :: .inl (0, 64, .inl g) :: .inr (0, [.ref 6, .ref 7, .int ke, .int ge, .int gr]) :: .inl (1, 50, .inl so) :: .inl (2, 64, .inl us) :: rest)
    (am_is none (c0 :: c1 :: c2 :: .inr (1, [.ref 4, .int (hd_fillf ke)]) :: .inl (0, 64, .inl (hd_fillg so ke ge gr g)) :: .inr (0, [.ref 6, .ref 7, .int ke, .int ge, .int gr]) :: .inl (1, 50, .inl so) :: .inl (2, 64, .inl us) :: rest)) := by
  refine am_m (own := RX0) (ini := (false, [])) (L := [some (.ref 5), some (.ref 3), none]) rfl (by decide) (fun h => absurd h (by decide)) rfl (Nat.le_of_ble_eq_true rfl) rfl rfl ?_
  iterate 2 refine am_s am_cls okX0_fill rfl ?_
  refine am_cV okX0_fill rfl (c_ibegin l D tc b _ _ _ _ _ _ _) cv_X0_34 coX1_begin rfl rfl rfl ⟨rfl, rfl, rfl⟩ ⟨Nat.le_refl _, Nat.le_refl _⟩ ?_
  rintro _ _ ⟨rfl, rfl⟩
  iterate 3 refine am_s am_cls okX0_fill rfl ?_
  refine am_cV okX0_fill rfl (c_iapp4 l D tc b _ _ _ _ _ _ _) cv_X0_43 coX1_appendFour rfl rfl rfl ⟨rfl, rfl, rfl⟩ ⟨Nat.le_refl _, Nat.le_refl _⟩ ?_
  rintro _ _ ⟨rfl, rfl⟩
  iterate 3 refine am_s am_cls okX0_fill rfl ?_
  refine am_cV okX0_fill rfl (c_iapp4 l D tc b _ _ _ _ _ _ _) cv_X0_43 coX1_appendFour rfl rfl rfl ⟨rfl, rfl, rfl⟩ ⟨Nat.le_refl _, Nat.le_refl _⟩ ?_
  rintro _ _ ⟨rfl, rfl⟩
  iterate 3 refine am_s am_cls okX0_fill rfl ?_
  refine am_cV okX0_fill rfl (c_iapp l D tc b _ _ _ _ _ _ _) cv_X0_49 coX1_append rfl rfl rfl ⟨rfl, rfl, rfl⟩ ⟨Nat.le_refl _, Nat.le_refl _⟩ ?_
  rintro _ _ ⟨rfl, rfl⟩
  iterate 2 refine am_s am_cls okX0_fill rfl ?_
  have r := c_hfill_l l D tc b c0 c1 c2 rest (hd_g3 g ke ge gr) hd_f3 so us ke ge gr ke.toNatClampNeg 0 (Nat.zero_add _)
  rw [hd_fg_0, hd_ff_0, nI_0] at r
  simp only [hd_fillg, hd_fillf, hd_g3, hd_f3] at r ⊢
  exact r
set_option maxHeartbeats 4000000 in
set_option maxRecDepth 100000 in
theorem c_genIn (c0 : am_E) (rest : am_W) (n : Nat) (f : Nat → Int32) (S wr cu te s : Int32) (hn : pd_sz S n) : cM l D tc b yX0_generationIn cX0_generationIn 2 (some .int) 4 0 0 [.ref 1, .int s] (c0 :: .inr (2, [.int S, .ref 2, .int wr, .int cu, .int te]) :: .inl (0, n, .inl f) :: rest)
    (am_is (some (.int (pd_four f S s 1))) (c0 :: .inr (2, [.int S, .ref 2, .int wr, .int cu, .int te]) :: .inl (0, n, .inl f) :: rest)) := by
  refine am_m (own := RX0) (ini := (false, [])) (L := [some (.ref 1), some (.int s)]) rfl (by decide) (fun h => absurd h (by decide)) rfl (Nat.le_of_ble_eq_true rfl) rfl rfl ?_
  iterate 3 refine am_s am_cls okX0_generationIn rfl ?_
  refine am_cV okX0_generationIn rfl (c_four l D tc b _ _ _ _ _ _ _ _ _ _ hn) cv_X0_69 coX2_fourBytes rfl rfl rfl ⟨rfl, rfl, rfl⟩ ⟨Nat.le_refl _, Nat.le_refl _⟩ ?_
  rintro _ _ ⟨rfl, rfl⟩
  refine am_ri okX0_generationIn rfl rfl rfl (Nat.le_refl _) (Nat.le_refl _) ?_
  exact ⟨rfl, rfl⟩
set_option maxHeartbeats 4000000 in
set_option maxRecDepth 100000 in
theorem c_rfrom_l (c0 c3 c4 : am_E) (rest : am_W) (n : Nat) (f : Nat → Int32) (S wr cu te s : Int32) (so us : Nat → Int32) (ke ge gr : Int32) (hn : pd_sz S n) (m : Nat) : ∀ (k : Nat), k + m = hd_rows f S s → am_R lw_tbl vwCl l D tc b RX0 cX0_readFrom 5 none (false, []) (am_rm 5 0 0) 0 0 (am_is none (c0 :: .inr (2, [.int S, .ref 2, .int wr, .int cu, .int te]) :: .inl (0, n, .inl f) :: c3 :: c4 :: .inr (0, [.ref 6, .ref 7, .int (hd_rk ke (hd_rows f S s)), .int ge, .int gr]) :: .inl (1, 50, .inl (hd_rs f S s so ke (hd_rows f S s))) :: .inl (2, 64, .inl us) :: rest)) 0 0 35 [some (.ref 5), some (.ref 1), some (.int s), some (.int (if 50 < pd_look f S s 9 then 50 else pd_look f S s 9)), some (.int (nI k))] [] (c0 :: .inr (2, [.int S, .ref 2, .int wr, .int cu, .int te]) :: .inl (0, n, .inl f) :: c3 :: c4 :: .inr (0, [.ref 6, .ref 7, .int (hd_rk ke k), .int ge, .int gr]) :: .inl (1, 50, .inl (hd_rs f S s so ke k)) :: .inl (2, 64, .inl us) :: rest) := by
  induction m with
  | zero =>
    intro k hk
    have hk : k = hd_rows f S s := by omega
    subst hk
    iterate 2 refine am_s am_cls okX0_readFrom rfl ?_
    refine am_b okX0_readFrom rfl (fun h38 => ?_) (fun h38 => ?_)
    · skip
      refine am_rv okX0_readFrom rfl rfl rfl (Nat.le_refl _) (Nat.le_refl _) ?_
      exact ⟨rfl, rfl⟩
    · exact absurd (cl_ge (Nat.le_refl _) (cl_b _)) h38
  | succ m ih =>
    intro k hk
    have e0 : hd_rows f S s = (if 50 < pd_look f S s 9 then 50 else pd_look f S s 9).toNatClampNeg := rfl
    iterate 2 refine am_s am_cls okX0_readFrom rfl ?_
    refine am_b okX0_readFrom rfl (fun h38 => ?_) (fun h38 => ?_)
    · exact absurd h38 (cl_lt (by omega))
    · skip
      iterate 6 refine am_s am_cls okX0_readFrom rfl ?_
      refine am_cV okX0_readFrom rfl (c_look l D tc b _ _ _ _ _ _ _ _ _ _ hn) cv_X0_73 coX2_look rfl rfl rfl ⟨rfl, rfl, rfl⟩ ⟨Nat.le_refl _, Nat.le_refl _⟩ ?_
      rintro _ _ ⟨rfl, rfl⟩
      refine am_cV okX0_readFrom rfl (c_keep l D tc b _ _ _ _ _ _ _ _ _ _ _ _) cv_X0_81 coX0_keep rfl rfl rfl ⟨rfl, rfl, rfl⟩ ⟨Nat.le_refl _, Nat.le_refl _⟩ ?_
      rintro _ _ ⟨rfl, rfl⟩
      iterate 2 refine am_s am_cls okX0_readFrom rfl ?_
      have r := ih (k + 1) (by omega)
      rw [hd_rs_s f S s so ke k, hd_rk_s ke k, nI_succ k] at r
      exact r
set_option maxHeartbeats 4000000 in
set_option maxRecDepth 100000 in
theorem c_rfrom (c0 c3 c4 : am_E) (rest : am_W) (n : Nat) (f : Nat → Int32) (S wr cu te s : Int32) (so us : Nat → Int32) (ke ge gr : Int32) (hn : pd_sz S n) : cM l D tc b yX0_readFrom cX0_readFrom 5 none 5 0 0 [.ref 5, .ref 1, .int s] (c0 :: .inr (2, [.int S, .ref 2, .int wr, .int cu, .int te]) :: .inl (0, n, .inl f) :: c3 :: c4 :: .inr (0, [.ref 6, .ref 7, .int ke, .int ge, .int gr]) :: .inl (1, 50, .inl so) :: .inl (2, 64, .inl us) :: rest)
    (am_is none (c0 :: .inr (2, [.int S, .ref 2, .int wr, .int cu, .int te]) :: .inl (0, n, .inl f) :: c3 :: c4 :: .inr (0, [.ref 6, .ref 7, .int (hd_rk ke (hd_rows f S s)), .int (pd_four f S s 1), .int (pd_four f S s 5)]) :: .inl (1, 50, .inl (hd_rs f S s so ke (hd_rows f S s))) :: .inl (2, 64, .inl us) :: rest)) := by
  refine am_m (own := RX0) (ini := (false, [])) (L := [some (.ref 5), some (.ref 1), some (.int s), none, none]) rfl (by decide) (fun h => absurd h (by decide)) rfl (Nat.le_of_ble_eq_true rfl) rfl rfl ?_
  iterate 3 refine am_s am_cls okX0_readFrom rfl ?_
  refine am_cS okX0_readFrom rfl (c_genIn l D tc b _ _ _ _ _ _ _ _ _ hn) cs_X0_61 coX0_generationIn rfl ⟨rfl, rfl, rfl⟩ ⟨Nat.le_refl _, Nat.le_refl _⟩ ?_
  rintro _ _ ⟨rfl, rfl⟩
  iterate 5 refine am_s am_cls okX0_readFrom rfl ?_
  refine am_cV okX0_readFrom rfl (c_four l D tc b _ _ _ _ _ _ _ _ _ _ hn) cv_X0_69 coX2_fourBytes rfl rfl rfl ⟨rfl, rfl, rfl⟩ ⟨Nat.le_refl _, Nat.le_refl _⟩ ?_
  rintro _ _ ⟨rfl, rfl⟩
  iterate 4 refine am_s am_cls okX0_readFrom rfl ?_
  refine am_cV okX0_readFrom rfl (c_look l D tc b _ _ _ _ _ _ _ _ _ _ hn) cv_X0_73 coX2_look rfl rfl rfl ⟨rfl, rfl, rfl⟩ ⟨Nat.le_refl _, Nat.le_refl _⟩ ?_
  rintro _ _ ⟨rfl, rfl⟩
  refine am_s am_cls okX0_readFrom rfl ?_
  refine am_mn okX0_readFrom rfl mm_X0_76 rfl ⟨rfl, rfl⟩ ⟨Nat.zero_le _, Nat.zero_le _⟩ ?_
  iterate 3 refine am_s am_cls okX0_readFrom rfl ?_
  have r := c_rfrom_l l D tc b c0 c3 c4 rest n f S wr cu te s so us ke (pd_four f S s 1) (pd_four f S s 5) hn (hd_rows f S s) 0 (Nat.zero_add _)
  rw [hd_rs_0, hd_rk_0, nI_0] at r
  exact r
set_option maxHeartbeats 4000000 in
set_option maxRecDepth 100000 in
theorem c_isHead_l (c0 : am_E) (rest : am_W) (n : Nat) (f : Nat → Int32) (S wr cu te s : Int32) (hn : pd_sz S n) (m : Nat) : ∀ (k : Nat) (z : Option Value), k + m = (pd_look f S s 9).toNatClampNeg → am_R lw_tbl vwCl l D tc b RX2 cX2_isHead 5 (some .boolean) (false, []) (am_rm 5 0 0) 0 0 (am_is (some (.int (pd_b (pd_hl f S s m k)))) (c0 :: .inr (2, [.int S, .ref 2, .int wr, .int cu, .int te]) :: .inl (0, n, .inl f) :: rest)) 0 0 38 [some (.ref 1), some (.int s), some (.int (pd_look f S s 9)), some (.int (nI k)), z] [] (c0 :: .inr (2, [.int S, .ref 2, .int wr, .int cu, .int te]) :: .inl (0, n, .inl f) :: rest) := by
  induction m with
  | zero =>
    intro k z hk
    have hk : k = (pd_look f S s 9).toNatClampNeg := by omega
    subst hk
    iterate 2 refine am_s am_cls okX2_isHead rfl ?_
    refine am_b okX2_isHead rfl (fun h40 => ?_) (fun h40 => ?_)
    · skip
      refine am_s am_cls okX2_isHead rfl ?_
      refine am_rz okX2_isHead rfl rfl rfl (by decide) (Nat.le_refl _) (Nat.le_refl _) ?_
      exact ⟨by simp [pd_hl, pd_bt], rfl⟩
    · exact absurd (cl_ge (Nat.le_refl _) (cl_b _)) h40
  | succ m ih =>
    intro k z hk
    iterate 2 refine am_s am_cls okX2_isHead rfl ?_
    refine am_b okX2_isHead rfl (fun h40 => ?_) (fun h40 => ?_)
    · exact absurd h40 (cl_lt (by omega))
    · skip
      iterate 5 refine am_s am_cls okX2_isHead rfl ?_
      refine am_cV okX2_isHead rfl (c_look l D tc b _ _ _ _ _ _ _ _ _ _ hn) cv_X2_35 coX2_look rfl rfl rfl ⟨rfl, rfl, rfl⟩ ⟨Nat.le_refl _, Nat.le_refl _⟩ ?_
      rintro _ _ ⟨rfl, rfl⟩
      iterate 3 refine am_s am_cls okX2_isHead rfl ?_
      refine am_b okX2_isHead rfl (fun h57 => ?_) (fun h57 => ?_)
      · skip
        refine am_s am_cls okX2_isHead rfl ?_
        refine am_rz okX2_isHead rfl rfl rfl (by decide) (Nat.le_refl _) (Nat.le_refl _) ?_
        exact ⟨by simp [pd_hl, pd_bf, *], rfl⟩
      · skip
        iterate 3 refine am_s am_cls okX2_isHead rfl ?_
        refine am_b okX2_isHead rfl (fun h66 => ?_) (fun h66 => ?_)
        · skip
          iterate 2 refine am_s am_cls okX2_isHead rfl ?_
          have r := ih (k + 1) (some (.int (pd_look f S s (10 + nI k)))) (by omega)
          rw [nI_succ k] at r
          rw [show pd_hl f S s (m + 1) k = pd_hl f S s m (k + 1) from by simp [pd_hl, *]]
          exact r
        · skip
          refine am_s am_cls okX2_isHead rfl ?_
          refine am_rz okX2_isHead rfl rfl rfl (by decide) (Nat.le_refl _) (Nat.le_refl _) ?_
          exact ⟨by simp [pd_hl, pd_bf, *], rfl⟩
set_option maxHeartbeats 4000000 in
set_option maxRecDepth 100000 in
theorem c_isHead (c0 : am_E) (rest : am_W) (n : Nat) (f : Nat → Int32) (S wr cu te s : Int32) (hn : pd_sz S n) : cM l D tc b yX2_isHead cX2_isHead 5 (some .boolean) 5 0 0 [.ref 1, .int s] (c0 :: .inr (2, [.int S, .ref 2, .int wr, .int cu, .int te]) :: .inl (0, n, .inl f) :: rest)
    (am_is (some (.int (pd_b (pd_head f S s)))) (c0 :: .inr (2, [.int S, .ref 2, .int wr, .int cu, .int te]) :: .inl (0, n, .inl f) :: rest)) := by
  refine am_m (own := RX2) (ini := (false, [])) (L := [some (.ref 1), some (.int s), none, none, none]) rfl (by decide) (fun h => absurd h (by decide)) rfl (Nat.le_of_ble_eq_true rfl) rfl rfl ?_
  iterate 3 refine am_s am_cls okX2_isHead rfl ?_
  refine am_cV okX2_isHead rfl (c_look l D tc b _ _ _ _ _ _ _ _ _ _ hn) cv_X2_35 coX2_look rfl rfl rfl ⟨rfl, rfl, rfl⟩ ⟨Nat.le_refl _, Nat.le_refl _⟩ ?_
  rintro _ _ ⟨rfl, rfl⟩
  iterate 4 refine am_s am_cls okX2_isHead rfl ?_
  refine am_cV okX2_isHead rfl (c_look l D tc b _ _ _ _ _ _ _ _ _ _ hn) cv_X2_35 coX2_look rfl rfl rfl ⟨rfl, rfl, rfl⟩ ⟨Nat.le_refl _, Nat.le_refl _⟩ ?_
  rintro _ _ ⟨rfl, rfl⟩
  refine am_s am_cls okX2_isHead rfl ?_
  refine am_b okX2_isHead rfl (fun h17 => ?_) (fun h17 => ?_)
  · skip
    iterate 2 refine am_s am_cls okX2_isHead rfl ?_
    refine am_b okX2_isHead rfl (fun h23 => ?_) (fun h23 => ?_)
    · skip
      refine am_s am_cls okX2_isHead rfl ?_
      refine am_rz okX2_isHead rfl rfl rfl (by decide) (Nat.le_refl _) (Nat.le_refl _) ?_
      exact ⟨by simp [pd_head, pd_bf, *], rfl⟩
    · skip
      iterate 2 refine am_s am_cls okX2_isHead rfl ?_
      refine am_cV okX2_isHead rfl (c_isWhole l D tc b _ _ _ _ _ _ _ _ _ hn) cv_X2_48 coX2_isWhole rfl rfl rfl ⟨rfl, rfl, rfl⟩ ⟨Nat.le_refl _, Nat.le_refl _⟩ ?_
      rintro _ _ ⟨rfl, rfl⟩
      refine am_b okX2_isHead rfl (fun h31 => ?_) (fun h31 => ?_)
      · try replace h31 := pd_b0 h31
        refine am_s am_cls okX2_isHead rfl ?_
        refine am_rz okX2_isHead rfl rfl rfl (by decide) (Nat.le_refl _) (Nat.le_refl _) ?_
        exact ⟨by simp [pd_head, pd_bf, *], rfl⟩
      · try replace h31 := pd_b1 h31
        iterate 2 refine am_s am_cls okX2_isHead rfl ?_
        rw [show pd_head f S s = pd_hl f S s (pd_look f S s 9).toNatClampNeg 0 from by simp [pd_head, *]]
        have r := c_isHead_l l D tc b c0 rest n f S wr cu te s hn (pd_look f S s 9).toNatClampNeg 0 none (Nat.zero_add _)
        rw [nI_0] at r
        exact r
  · skip
    refine am_s am_cls okX2_isHead rfl ?_
    refine am_rz okX2_isHead rfl rfl rfl (by decide) (Nat.le_refl _) (Nat.le_refl _) ?_
    exact ⟨by simp [pd_head, pd_bf, *], rfl⟩
end PD
