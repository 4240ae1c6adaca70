/-! ===== loops that count up to an int ===== -/
theorem cl_b (x : Int32) : x.toNatClampNeg < 2 ^ 31 := by
  have h1 : x.toNatClampNeg = x.toInt.toNat := rfl
  have h2 := x.toInt_lt
  omega
theorem cl_lt {k : Nat} {x : Int32} (h : k < x.toNatClampNeg) : ¬ x ≤ nI k := by
  have h1 : x.toNatClampNeg = x.toInt.toNat := rfl
  have h2 := x.toInt_lt
  rw [Int32.le_iff_toInt_le, nI_toInt (by omega)]
  omega
theorem cl_ge {k : Nat} {x : Int32} (h : x.toNatClampNeg ≤ k) (hk : k < 2 ^ 31) : x ≤ nI k := by
  have h1 : x.toNatClampNeg = x.toInt.toNat := rfl
  rw [Int32.le_iff_toInt_le, nI_toInt hk]
  omega
theorem cl_nle {k : Nat} {x : Int32} (hk : k < 2 ^ 31) (h : ¬ x ≤ nI k) : k < x.toNatClampNeg := Nat.not_le.mp fun q => h (cl_ge q hk)
theorem vp_in2 {i : Int32} (n : Nat) (hn : n < 2 ^ 31) (h1 : ¬ i < 0) (h2 : ¬ nI n ≤ i) : vp_in i n := by
  rcases pk_ix i hn with q | q | ⟨j, hj, rfl⟩
  · exact absurd q h1
  · exact absurd q h2
  · exact vp_in_nI hj hn
/-! ===== Image: its bytes, and how many are filled ===== -/
def im_ok (i : Int32) : Bool := !decide (i < 0) && !decide (64 ≤ i)
def im_look (g : Nat → Int32) (i : Int32) : Int32 := bif im_ok i then g i.toNatClampNeg &&& 255 else 0
def im_set (g : Nat → Int32) (i x : Int32) : Nat → Int32 := bif im_ok i then upd g i.toNatClampNeg (vp_nar .byte x.toInt8.toInt32) else g
abbrev pd_ush (x k : Int32) : Int32 := (x.toUInt32 >>> (k.toUInt32 &&& Int32.toUInt32 31)).toInt32
def im_four (g : Nat → Int32) (i x : Int32) : Nat → Int32 := im_set (im_set (im_set (im_set g i (pd_ush x 24)) (i + 1) (pd_ush x 16)) (i + 2) (pd_ush x 8)) (i + 3) x
/-- one byte more, if there is room: the bytes, and how many are filled -/
def im_ag (g : Nat → Int32) (fi x : Int32) : Nat → Int32 := bif decide (60 ≤ fi) then g else im_set g fi x
def im_af (fi : Int32) : Int32 := bif decide (60 ≤ fi) then fi else fi + 1
def im_g4 (g : Nat → Int32) (fi x : Int32) : Nat → Int32 := im_ag (im_ag (im_ag (im_ag g fi (pd_ush x 24)) (im_af fi) (pd_ush x 16)) (im_af (im_af fi)) (pd_ush x 8)) (im_af (im_af (im_af fi))) x
def im_f4 (fi : Int32) : Int32 := im_af (im_af (im_af (im_af fi)))
/-- sealing: the bytes and the sum behind k of them -/
def im_s1 (g : Nat → Int32) (fi : Int32) (k : Nat) : Nat → Int32 := bif decide (nI k < fi) then g else im_set g (nI k) 0
def im_sl (g : Nat → Int32) (fi : Int32) : Nat → (Nat → Int32) × Int32
  | 0 => (g, 0)
  | k + 1 => (im_s1 (im_sl g fi k).1 fi k, pd_sw (im_sl g fi k).2 (im_look (im_s1 (im_sl g fi k).1 fi k) (nI k)))
theorem im_sl_0 (g : Nat → Int32) (fi : Int32) : im_sl g fi 0 = (g, 0) := by simp only [im_sl]
theorem im_sl_s (g : Nat → Int32) (fi : Int32) (k : Nat) : im_sl g fi (k + 1) = (im_s1 (im_sl g fi k).1 fi k, pd_sw (im_sl g fi k).2 (im_look (im_s1 (im_sl g fi k).1 fi k) (nI k))) := by simp only [im_sl]
def im_seal (g : Nat → Int32) (fi : Int32) : Nat → Int32 := im_four (im_sl g fi 60).1 60 (im_sl g fi 60).2
def im_cp (f : Nat → Int32) (S s : Int32) (g : Nat → Int32) : Nat → (Nat → Int32)
  | 0 => g
  | k + 1 => im_set (im_cp f S s g k) (nI k) (pd_look f S s (nI k))
theorem im_cp_0 (f : Nat → Int32) (S s : Int32) (g : Nat → Int32) : im_cp f S s g 0 = g := by simp only [im_cp]
theorem im_cp_s (f : Nat → Int32) (S s : Int32) (g : Nat → Int32) (k : Nat) : im_cp f S s g (k + 1) = im_set (im_cp f S s g k) (nI k) (pd_look f S s (nI k)) := by simp only [im_cp]
section PD
variable (l : Launch) (D : va_G) (tc : Nat → ClassId) (b : Nat)
set_option maxHeartbeats 4000000 in
set_option maxRecDepth 100000 in
theorem c_ilook (c0 c1 c2 : am_E) (rest : am_W) (g : Nat → Int32) (fi : Int32) (i : Int32)  : cM l D tc b yX1_look cX1_look 2 (some .int) 1 0 0 [.ref 3, .int i] (c0 :: c1 :: c2 :: .inr (1, [.ref 4, .int fi]) :: .inl (0, 64, .inl g) :: rest)
    (am_is (some (.int (im_look g i))) (c0 :: c1 :: c2 :: .inr (1, [.ref 4, .int fi]) :: .inl (0, 64, .inl g) :: rest)) := by
  refine am_m (own := RX1) (ini := (false, [])) (L := [some (.ref 3), some (.int i)]) rfl (by decide) (fun h => absurd h (by decide)) rfl (Nat.le_of_ble_eq_true rfl) rfl rfl ?_
  refine am_s am_cls okX1_look rfl ?_
  refine am_b okX1_look rfl (fun h1 => ?_) (fun h1 => ?_)
  · skip
    refine am_s am_cls okX1_look rfl ?_
    refine am_ri okX1_look rfl rfl rfl (Nat.le_refl _) (Nat.le_refl _) ?_
    exact ⟨by simp [im_look, im_ok, *], rfl⟩
  · skip
    iterate 2 refine am_s am_cls okX1_look rfl ?_
    refine am_b okX1_look rfl (fun h7 => ?_) (fun h7 => ?_)
    · skip
      refine am_s am_cls okX1_look rfl ?_
      refine am_ri okX1_look rfl rfl rfl (Nat.le_refl _) (Nat.le_refl _) ?_
      exact ⟨by simp [im_look, im_ok, *], rfl⟩
    · skip
      iterate 3 refine am_s am_cls okX1_look rfl ?_
      refine am_al okX1_look rfl (vp_in2 64 (by decide) h1 h7) ?_
      iterate 3 refine am_s am_cls okX1_look rfl ?_
      refine am_ri okX1_look rfl rfl rfl (Nat.le_refl _) (Nat.le_refl _) ?_
      exact ⟨by simp [im_look, im_ok, *], rfl⟩
set_option maxHeartbeats 4000000 in
set_option maxRecDepth 100000 in
theorem c_iset (c0 c1 c2 : am_E) (rest : am_W) (g : Nat → Int32) (fi : Int32) (i x : Int32)  : cM l D tc b yX1_set cX1_set 3 none 1 0 0 [.ref 3, .int i, .int x] (c0 :: c1 :: c2 :: .inr (1, [.ref 4, .int fi]) :: .inl (0, 64, .inl g) :: rest)
    (am_is none (c0 :: c1 :: c2 :: .inr (1, [.ref 4, .int fi]) :: .inl (0, 64, .inl (im_set g i x)) :: rest)) := by
  refine am_m (own := RX1) (ini := (false, [])) (L := [some (.ref 3), some (.int i), some (.int x)]) rfl (by decide) (fun h => absurd h (by decide)) rfl (Nat.le_of_ble_eq_true rfl) rfl rfl ?_
  refine am_s am_cls okX1_set rfl ?_
  refine am_b okX1_set rfl (fun h1 => ?_) (fun h1 => ?_)
  · skip
    refine am_rv okX1_set rfl rfl rfl (Nat.le_refl _) (Nat.le_refl _) ?_
    exact ⟨rfl, by simp [im_set, im_ok, *]⟩
  · skip
    iterate 2 refine am_s am_cls okX1_set rfl ?_
    refine am_b okX1_set rfl (fun h7 => ?_) (fun h7 => ?_)
    · skip
      refine am_rv okX1_set rfl rfl rfl (Nat.le_refl _) (Nat.le_refl _) ?_
      exact ⟨rfl, by simp [im_set, im_ok, *]⟩
    · skip
      iterate 5 refine am_s am_cls okX1_set rfl ?_
      refine am_as okX1_set rfl (vp_in2 64 (by decide) h1 h7) ?_
      refine am_rv okX1_set rfl rfl rfl (Nat.le_refl _) (Nat.le_refl _) ?_
      exact ⟨rfl, by simp [im_set, im_ok, *]⟩
set_option maxHeartbeats 4000000 in
set_option maxRecDepth 100000 in
theorem c_ifour (c0 c1 c2 : am_E) (rest : am_W) (g : Nat → Int32) (fi : Int32) (i x : Int32)  : cM l D tc b yX1_setFour cX1_setFour 3 none 2 0 0 [.ref 3, .int i, .int x] (c0 :: c1 :: c2 :: .inr (1, [.ref 4, .int fi]) :: .inl (0, 64, .inl g) :: rest)
    (am_is none (c0 :: c1 :: c2 :: .inr (1, [.ref 4, .int fi]) :: .inl (0, 64, .inl (im_four g i x)) :: rest)) := by
  refine am_m (own := RX1) (ini := (false, [])) (L := [some (.ref 3), some (.int i), some (.int x)]) rfl (by decide) (fun h => absurd h (by decide)) rfl (Nat.le_of_ble_eq_true rfl) rfl rfl ?_
  iterate 5 refine am_s am_cls okX1_setFour rfl ?_
  refine am_cV okX1_setFour rfl (c_iset l D tc b _ _ _ _ _ _ _ _) cv_X1_15 coX1_set rfl rfl rfl ⟨rfl, rfl, rfl⟩ ⟨Nat.le_refl _, Nat.le_refl _⟩ ?_
  rintro _ _ ⟨rfl, rfl⟩
  iterate 7 refine am_s am_cls okX1_setFour rfl ?_
  refine am_cV okX1_setFour rfl (c_iset l D tc b _ _ _ _ _ _ _ _) cv_X1_15 coX1_set rfl rfl rfl ⟨rfl, rfl, rfl⟩ ⟨Nat.le_refl _, Nat.le_refl _⟩ ?_
  rintro _ _ ⟨rfl, rfl⟩
  iterate 7 refine am_s am_cls okX1_setFour rfl ?_
  refine am_cV okX1_setFour rfl (c_iset l D tc b _ _ _ _ _ _ _ _) cv_X1_15 coX1_set rfl rfl rfl ⟨rfl, rfl, rfl⟩ ⟨Nat.le_refl _, Nat.le_refl _⟩ ?_
  rintro _ _ ⟨rfl, rfl⟩
  iterate 5 refine am_s am_cls okX1_setFour rfl ?_
  refine am_cV okX1_setFour rfl (c_iset l D tc b _ _ _ _ _ _ _ _) cv_X1_15 coX1_set rfl rfl rfl ⟨rfl, rfl, rfl⟩ ⟨Nat.le_refl _, Nat.le_refl _⟩ ?_
  rintro _ _ ⟨rfl, rfl⟩
  refine am_rv okX1_setFour rfl rfl rfl (Nat.le_refl _) (Nat.le_refl _) ?_
  exact ⟨rfl, rfl⟩
set_option maxHeartbeats 4000000 in
set_option maxRecDepth 100000 in
theorem c_iapp (c0 c1 c2 : am_E) (rest : am_W) (g : Nat → Int32) (fi : Int32) (x : Int32)  : cM l D tc b yX1_append cX1_append 2 none 2 0 0 [.ref 3, .int x] (c0 :: c1 :: c2 :: .inr (1, [.ref 4, .int fi]) :: .inl (0, 64, .inl g) :: rest)
    (am_is none (c0 :: c1 :: c2 :: .inr (1, [.ref 4, .int (im_af fi)]) :: .inl (0, 64, .inl (im_ag g fi x)) :: rest)) := by
  refine am_m (own := RX1) (ini := (false, [])) (L := [some (.ref 3), some (.int x)]) rfl (by decide) (fun h => absurd h (by decide)) rfl (Nat.le_of_ble_eq_true rfl) rfl rfl ?_
  iterate 3 refine am_s am_cls okX1_append rfl ?_
  refine am_b okX1_append rfl (fun h6 => ?_) (fun h6 => ?_)
  · skip
    refine am_rv okX1_append rfl rfl rfl (Nat.le_refl _) (Nat.le_refl _) ?_
    exact ⟨rfl, by simp [im_ag, im_af, *]⟩
  · skip
    iterate 4 refine am_s am_cls okX1_append rfl ?_
    refine am_cV okX1_append rfl (c_iset l D tc b _ _ _ _ _ _ _ _) cv_X1_15 coX1_set rfl rfl rfl ⟨rfl, rfl, rfl⟩ ⟨Nat.le_refl _, Nat.le_refl _⟩ ?_
    rintro _ _ ⟨rfl, rfl⟩
    iterate 6 refine am_s am_cls okX1_append rfl ?_
    refine am_rv okX1_append rfl rfl rfl (Nat.le_refl _) (Nat.le_refl _) ?_
    exact ⟨rfl, by simp [im_ag, im_af, *]⟩
set_option maxHeartbeats 4000000 in
set_option maxRecDepth 100000 in
theorem c_iapp4 (c0 c1 c2 : am_E) (rest : am_W) (g : Nat → Int32) (fi : Int32) (x : Int32)  : cM l D tc b yX1_appendFour cX1_appendFour 2 none 3 0 0 [.ref 3, .int x] (c0 :: c1 :: c2 :: .inr (1, [.ref 4, .int fi]) :: .inl (0, 64, .inl g) :: rest)
    (am_is none (c0 :: c1 :: c2 :: .inr (1, [.ref 4, .int (im_f4 fi)]) :: .inl (0, 64, .inl (im_g4 g fi x)) :: rest)) := by
  refine am_m (own := RX1) (ini := (false, [])) (L := [some (.ref 3), some (.int x)]) rfl (by decide) (fun h => absurd h (by decide)) rfl (Nat.le_of_ble_eq_true rfl) rfl rfl ?_
  iterate 4 refine am_s am_cls okX1_appendFour rfl ?_
  refine am_cV okX1_appendFour rfl (c_iapp l D tc b _ _ _ _ _ _ _) cv_X1_23 coX1_append rfl rfl rfl ⟨rfl, rfl, rfl⟩ ⟨Nat.le_refl _, Nat.le_refl _⟩ ?_
  rintro _ _ ⟨rfl, rfl⟩
  iterate 4 refine am_s am_cls okX1_appendFour rfl ?_
  refine am_cV okX1_appendFour rfl (c_iapp l D tc b _ _ _ _ _ _ _) cv_X1_23 coX1_append rfl rfl rfl ⟨rfl, rfl, rfl⟩ ⟨Nat.le_refl _, Nat.le_refl _⟩ ?_
  rintro _ _ ⟨rfl, rfl⟩
  iterate 4 refine am_s am_cls okX1_appendFour rfl ?_
  refine am_cV okX1_appendFour rfl (c_iapp l D tc b _ _ _ _ _ _ _) cv_X1_23 coX1_append rfl rfl rfl ⟨rfl, rfl, rfl⟩ ⟨Nat.le_refl _, Nat.le_refl _⟩ ?_
  rintro _ _ ⟨rfl, rfl⟩
  iterate 2 refine am_s am_cls okX1_appendFour rfl ?_
  refine am_cV okX1_appendFour rfl (c_iapp l D tc b _ _ _ _ _ _ _) cv_X1_23 coX1_append rfl rfl rfl ⟨rfl, rfl, rfl⟩ ⟨Nat.le_refl _, Nat.le_refl _⟩ ?_
  rintro _ _ ⟨rfl, rfl⟩
  refine am_rv okX1_appendFour rfl rfl rfl (Nat.le_refl _) (Nat.le_refl _) ?_
  exact ⟨rfl, rfl⟩
set_option maxHeartbeats 4000000 in
set_option maxRecDepth 100000 in
theorem c_ibegin (c0 c1 c2 : am_E) (rest : am_W) (g : Nat → Int32) (fi : Int32) (x : Int32)  : cM l D tc b yX1_begin cX1_begin 2 none 3 0 0 [.ref 3, .int x] (c0 :: c1 :: c2 :: .inr (1, [.ref 4, .int fi]) :: .inl (0, 64, .inl g) :: rest)
    (am_is none (c0 :: c1 :: c2 :: .inr (1, [.ref 4, .int (im_af 0)]) :: .inl (0, 64, .inl (im_ag g 0 x)) :: rest)) := by
  refine am_m (own := RX1) (ini := (false, [])) (L := [some (.ref 3), some (.int x)]) rfl (by decide) (fun h => absurd h (by decide)) rfl (Nat.le_of_ble_eq_true rfl) rfl rfl ?_
  iterate 5 refine am_s am_cls okX1_begin rfl ?_
  refine am_cV okX1_begin rfl (c_iapp l D tc b _ _ _ _ _ _ _) cv_X1_23 coX1_append rfl rfl rfl ⟨rfl, rfl, rfl⟩ ⟨Nat.le_refl _, Nat.le_refl _⟩ ?_
  rintro _ _ ⟨rfl, rfl⟩
  refine am_rv okX1_begin rfl rfl rfl (Nat.le_refl _) (Nat.le_refl _) ?_
  exact ⟨rfl, rfl⟩
set_option maxHeartbeats 4000000 in
set_option maxRecDepth 100000 in
theorem c_iseal_l (c0 c1 c2 : am_E) (rest : am_W) (g : Nat → Int32) (fi : Int32)  (m : Nat) : ∀ (k : Nat), k + m = 60 → am_R lw_tbl vwCl l D tc b RX1 cX1_seal 3 none (false, []) (am_rm 3 0 0) 0 0 (am_is none (c0 :: c1 :: c2 :: .inr (1, [.ref 4, .int fi]) :: .inl (0, 64, .inl (im_seal g fi)) :: rest)) 0 0 4 [some (.ref 3), some (.int (im_sl g fi k).2), some (.int (nI k))] [] (c0 :: c1 :: c2 :: .inr (1, [.ref 4, .int fi]) :: .inl (0, 64, .inl (im_sl g fi k).1) :: rest) := by
  induction m with
  | zero =>
    intro k hk
    have hk : k = 60 := by omega
    subst hk
    iterate 2 refine am_s am_cls okX1_seal rfl ?_
    refine am_b okX1_seal rfl (fun h7 => ?_) (fun h7 => ?_)
    · skip
      iterate 3 refine am_s am_cls okX1_seal rfl ?_
      refine am_cV okX1_seal rfl (c_ifour l D tc b _ _ _ _ _ _ _ _) cv_X1_35 coX1_setFour rfl rfl rfl ⟨rfl, rfl, rfl⟩ ⟨Nat.le_refl _, Nat.le_refl _⟩ ?_
      rintro _ _ ⟨rfl, rfl⟩
      refine am_rv okX1_seal rfl rfl rfl (Nat.le_refl _) (Nat.le_refl _) ?_
      exact ⟨rfl, rfl⟩
    · exact absurd (nI_le (a := 60) (b := 60) (Nat.le_refl _) (by decide)) h7
  | succ m ih =>
    intro k hk
    iterate 2 refine am_s am_cls okX1_seal rfl ?_
    refine am_b okX1_seal rfl (fun h7 => ?_) (fun h7 => ?_)
    · exact absurd h7 (nI_ge (a := k) (b := 60) (by omega) (by decide))
    · skip
      iterate 3 refine am_s am_cls okX1_seal rfl ?_
      refine am_b okX1_seal rfl (fun h15 => ?_) (fun h15 => ?_)
      · skip
        iterate 3 refine am_s am_cls okX1_seal rfl ?_
        refine am_cV okX1_seal rfl (c_ilook l D tc b _ _ _ _ _ _ _) cv_X1_27 coX1_look rfl rfl rfl ⟨rfl, rfl, rfl⟩ ⟨Nat.le_refl _, Nat.le_refl _⟩ ?_
        rintro _ _ ⟨rfl, rfl⟩
        refine am_cS okX1_seal rfl (c_sumWith l D tc b _ _ _) cs_X1_31 coX4_sumWith rfl ⟨rfl, rfl, rfl⟩ ⟨Nat.le_refl _, Nat.le_refl _⟩ ?_
        rintro _ _ ⟨rfl, rfl⟩
        iterate 3 refine am_s am_cls okX1_seal rfl ?_
        have r := ih (k + 1) (by omega)
        rw [im_sl_s g fi k, nI_succ k] at r
        simp only [im_s1, h15, decide_true, decide_false, cond_true, cond_false] at r
        exact r
      · skip
        iterate 3 refine am_s am_cls okX1_seal rfl ?_
        refine am_cV okX1_seal rfl (c_iset l D tc b _ _ _ _ _ _ _ _) cv_X1_15 coX1_set rfl rfl rfl ⟨rfl, rfl, rfl⟩ ⟨Nat.le_refl _, Nat.le_refl _⟩ ?_
        rintro _ _ ⟨rfl, rfl⟩
        iterate 3 refine am_s am_cls okX1_seal rfl ?_
        refine am_cV okX1_seal rfl (c_ilook l D tc b _ _ _ _ _ _ _) cv_X1_27 coX1_look rfl rfl rfl ⟨rfl, rfl, rfl⟩ ⟨Nat.le_refl _, Nat.le_refl _⟩ ?_
        rintro _ _ ⟨rfl, rfl⟩
        refine am_cS okX1_seal rfl (c_sumWith l D tc b _ _ _) cs_X1_31 coX4_sumWith rfl ⟨rfl, rfl, rfl⟩ ⟨Nat.le_refl _, Nat.le_refl _⟩ ?_
        rintro _ _ ⟨rfl, rfl⟩
        iterate 3 refine am_s am_cls okX1_seal rfl ?_
        have r := ih (k + 1) (by omega)
        rw [im_sl_s g fi k, nI_succ k] at r
        simp only [im_s1, h15, decide_true, decide_false, cond_true, cond_false] at r
        exact r
set_option maxHeartbeats 4000000 in
set_option maxRecDepth 100000 in
theorem c_iseal (c0 c1 c2 : am_E) (rest : am_W) (g : Nat → Int32) (fi : Int32)  : cM l D tc b yX1_seal cX1_seal 3 none 3 0 0 [.ref 3] (c0 :: c1 :: c2 :: .inr (1, [.ref 4, .int fi]) :: .inl (0, 64, .inl g) :: rest)
    (am_is none (c0 :: c1 :: c2 :: .inr (1, [.ref 4, .int fi]) :: .inl (0, 64, .inl (im_seal g fi)) :: rest)) := by
  refine am_m (own := RX1) (ini := (false, [])) (L := [some (.ref 3), none, none]) rfl (by decide) (fun h => absurd h (by decide)) rfl (Nat.le_of_ble_eq_true rfl) rfl rfl ?_
  iterate 4 refine am_s am_cls okX1_seal rfl ?_
  have r := c_iseal_l l D tc b c0 c1 c2 rest g fi 60 0 rfl
  rw [im_sl_0, nI_0] at r
  exact r
set_option maxHeartbeats 4000000 in
set_option maxRecDepth 100000 in
theorem c_icopy_l (c0 : am_E) (rest : am_W) (n : Nat) (f : Nat → Int32) (S wr cu te s : Int32) (g : Nat → Int32) (fi : Int32) (hn : pd_sz S n) (m : Nat) : ∀ (k : Nat), k + m = 64 → am_R lw_tbl vwCl l D tc b RX1 cX1_copy 4 none (false, []) (am_rm 3 0 0) 0 0 (am_is none (c0 :: .inr (2, [.int S, .ref 2, .int wr, .int cu, .int te]) :: .inl (0, n, .inl f) :: .inr (1, [.ref 4, .int fi]) :: .inl (0, 64, .inl (im_cp f S s g 64)) :: rest)) 0 0 2 [some (.ref 3), some (.ref 1), some (.int s), some (.int (nI k))] [] (c0 :: .inr (2, [.int S, .ref 2, .int wr, .int cu, .int te]) :: .inl (0, n, .inl f) :: .inr (1, [.ref 4, .int fi]) :: .inl (0, 64, .inl (im_cp f S s g k)) :: rest) := by
  induction m with
  | zero =>
    intro k hk
    have hk : k = 64 := by omega
    subst hk
    iterate 2 refine am_s am_cls okX1_copy rfl ?_
    refine am_b okX1_copy rfl (fun h5 => ?_) (fun h5 => ?_)
    · skip
      refine am_rv okX1_copy rfl rfl rfl (Nat.le_refl _) (Nat.le_refl _) ?_
      exact ⟨rfl, rfl⟩
    · exact absurd (nI_le (a := 64) (b := 64) (Nat.le_refl _) (by decide)) h5
  | succ m ih =>
    intro k hk
    iterate 2 refine am_s am_cls okX1_copy rfl ?_
    refine am_b okX1_copy rfl (fun h5 => ?_) (fun h5 => ?_)
    · exact absurd h5 (nI_ge (a := k) (b := 64) (by omega) (by decide))
    · skip
      iterate 5 refine am_s am_cls okX1_copy rfl ?_
      refine am_cV okX1_copy rfl (c_look l D tc b _ _ _ _ _ _ _ _ _ _ hn) cv_X1_38 coX2_look rfl rfl rfl ⟨rfl, rfl, rfl⟩ ⟨Nat.le_refl _, Nat.le_refl _⟩ ?_
      rintro _ _ ⟨rfl, rfl⟩
      refine am_cV okX1_copy rfl (c_iset l D tc b _ _ _ _ _ _ _ _) cv_X1_15 coX1_set rfl rfl rfl ⟨rfl, rfl, rfl⟩ ⟨Nat.le_refl _, Nat.le_refl _⟩ ?_
      rintro _ _ ⟨rfl, rfl⟩
      iterate 2 refine am_s am_cls okX1_copy rfl ?_
      have r := ih (k + 1) (by omega)
      rw [im_cp_s f S s g k, nI_succ k] at r
      exact r
set_option maxHeartbeats 4000000 in
set_option maxRecDepth 100000 in
theorem c_icopy (c0 : am_E) (rest : am_W) (n : Nat) (f : Nat → Int32) (S wr cu te s : Int32) (g : Nat → Int32) (fi : Int32) (hn : pd_sz S n) : cM l D tc b yX1_copy cX1_copy 4 none 3 0 0 [.ref 3, .ref 1, .int s] (c0 :: .inr (2, [.int S, .ref 2, .int wr, .int cu, .int te]) :: .inl (0, n, .inl f) :: .inr (1, [.ref 4, .int fi]) :: .inl (0, 64, .inl g) :: rest)
    (am_is none (c0 :: .inr (2, [.int S, .ref 2, .int wr, .int cu, .int te]) :: .inl (0, n, .inl f) :: .inr (1, [.ref 4, .int fi]) :: .inl (0, 64, .inl (im_cp f S s g 64)) :: rest)) := by
  refine am_m (own := RX1) (ini := (false, [])) (L := [some (.ref 3), some (.ref 1), some (.int s), none]) rfl (by decide) (fun h => absurd h (by decide)) rfl (Nat.le_of_ble_eq_true rfl) rfl rfl ?_
  iterate 2 refine am_s am_cls okX1_copy rfl ?_
  have r := c_icopy_l l D tc b c0 rest n f S wr cu te s g fi hn 64 0 rfl
  rw [im_cp_0, nI_0] at r
  exact r
end PD
