/-! ===== Waiting: the bytes, the lengths and the marks of the rows that wait, and how many there are ===== -/
def wt_ok (e : Int32) : Bool := !decide (e < 0) && !decide (51 ≤ e)
def wt_len (le : Nat → Int32) (e : Int32) : Int32 := bif wt_ok e then le e.toNatClampNeg else 0
def wt_can (le : Nat → Int32) (e : Int32) : Bool := !decide (e < 0) && !decide (51 ≤ e) && !decide (wt_len le e < 0) && decide (wt_len le e < 40)
def wt_ac (co le : Nat → Int32) (e x : Int32) : Nat → Int32 := bif wt_can le e then upd co (e * 40 + wt_len le e).toNatClampNeg (vp_nar .byte x.toInt8.toInt32) else co
def wt_al (le : Nat → Int32) (e : Int32) : Nat → Int32 := bif wt_can le e then upd le e.toNatClampNeg (wt_len le e + 1) else le
def wt_el (le : Nat → Int32) (e : Int32) : Nat → Int32 := bif wt_ok e then upd le e.toNatClampNeg 0 else le
def wt_cl (e : Int32) : Bool := !decide (e < 0) && !decide (50 ≤ e)
def wt_cm (ma : Nat → Int32) (e x : Int32) : Nat → Int32 := bif wt_cl e then upd ma e.toNatClampNeg x else ma
def wt_ce (e : Int32) : Int32 := bif wt_cl e then e + 1 else e
def wt_cle (le : Nat → Int32) (e : Int32) : Nat → Int32 := bif wt_cl e then wt_el le (e + 1) else le
theorem wt_in {e i : Int32} (h1 : ¬ e < 0) (h2 : ¬ 51 ≤ e) (h3 : ¬ i < 0) (h4 : ¬ 40 ≤ i) : vp_in (e * 40 + i) 2040 := by
  rcases pk_ix e (n := 51) (by decide) with q | q | ⟨a, ha, rfl⟩
  · exact absurd q h1
  · exact absurd q h2
  rcases pk_ix i (n := 40) (by decide) with q | q | ⟨c, hc, rfl⟩
  · exact absurd q h3
  · exact absurd q h4
  rw [show (40 : Int32) = nI 40 from rfl, pk_mul, nI_add]
  exact vp_in_nI (by omega) (by decide)
theorem i_nle {x y : Int32} (h : x < y) : ¬ y ≤ x := by
  rw [Int32.lt_iff_toInt_lt] at h
  rw [Int32.le_iff_toInt_le]
  omega
/-- how many bytes are moved: the length, at most 40 -/
def wt_n (x : Int32) : Nat := min x.toNatClampNeg 40
theorem wt_n_lt {k : Nat} {x : Int32} (h : k < wt_n x) : ¬ x ≤ nI k ∧ ¬ 40 ≤ nI k := ⟨cl_lt (by unfold wt_n at h; omega), nI_ge (a := k) (b := 40) (by unfold wt_n at h; omega) (by decide)⟩
theorem wt_n_eq {x : Int32} (h1 : ¬ x ≤ nI (wt_n x)) (h2 : ¬ 40 ≤ nI (wt_n x)) : False := by
  have h3 := cl_nle (k := wt_n x) (by unfold wt_n; omega) h1
  have h4 : wt_n x < 40 := Nat.not_le.mp fun q => h2 (nI_le (a := 40) (b := wt_n x) q (by unfold wt_n; omega))
  unfold wt_n at h3 h4
  omega
theorem wt_len_ok {le : Nat → Int32} {e : Int32} {k : Nat} (h : k < wt_n (wt_len le e)) : ¬ e < 0 ∧ ¬ 51 ≤ e := by
  cases hk : wt_ok e with
  | true =>
    simp only [wt_ok, Bool.and_eq_true, Bool.not_eq_true', decide_eq_false_iff_not] at hk
    exact hk
  | false =>
    exfalso
    unfold wt_n wt_len at h
    rw [hk] at h
    have : (0 : Int32).toNatClampNeg = 0 := rfl
    simp only [cond_false] at h
    omega
/-- a row's byte, if there is such a row and such a byte -/
def wt_bok (x i : Int32) : Bool := !decide (x < 0) && !decide (51 ≤ x) && !decide (i < 0) && !decide (40 ≤ i)
def wt_by (co : Nat → Int32) (x i : Int32) : Int32 := bif wt_bok x i then co (x * 40 + i).toNatClampNeg else 0
def wt_mv (co : Nat → Int32) (e : Int32) : Nat → (Nat → Int32)
  | 0 => co
  | k + 1 => upd (wt_mv co e k) (nI k).toNatClampNeg (vp_nar .byte (wt_by (wt_mv co e k) e (nI k)).toInt8.toInt32)
theorem wt_mv_0 (co : Nat → Int32) (e : Int32) : wt_mv co e 0 = co := by simp only [wt_mv]
theorem wt_mv_s (co : Nat → Int32) (e : Int32) (k : Nat) : wt_mv co e (k + 1) = upd (wt_mv co e k) (nI k).toNatClampNeg (vp_nar .byte (wt_by (wt_mv co e k) e (nI k)).toInt8.toInt32) := by simp only [wt_mv]
def wt_rc (co le : Nat → Int32) (e : Int32) : Nat → Int32 := wt_mv co e (wt_n (wt_len le e))
def wt_rl (le : Nat → Int32) (e : Int32) : Nat → Int32 := upd le (0 : Int32).toNatClampNeg (wt_len le e)
/-- a row's bytes go into the image -/
def wt_fg (co : Nat → Int32) (x : Int32) (g : Nat → Int32) (fi : Int32) : Nat → (Nat → Int32)
  | 0 => g
  | k + 1 => im_ag (wt_fg co x g fi k) (hd_ff fi k) (wt_by co x (nI k)).toInt8.toInt32
theorem wt_fg_0 (co : Nat → Int32) (x : Int32) (g : Nat → Int32) (fi : Int32) : wt_fg co x g fi 0 = g := by simp only [wt_fg]
theorem wt_fg_s (co : Nat → Int32) (x : Int32) (g : Nat → Int32) (fi : Int32) (k : Nat) : wt_fg co x g fi (k + 1) = im_ag (wt_fg co x g fi k) (hd_ff fi k) (wt_by co x (nI k)).toInt8.toInt32 := by simp only [wt_fg]
def wt_f2 : Int32 := im_af (im_f4 (im_af 0))
def wt_g2 (g : Nat → Int32) (mk no ln : Int32) : Nat → Int32 := im_ag (im_g4 (im_ag g 0 mk) (im_af 0) no) (im_f4 (im_af 0)) ln
def wt_fillf (le : Nat → Int32) (x fi : Int32) : Int32 := bif wt_ok x then hd_ff wt_f2 (le x.toNatClampNeg).toNatClampNeg else fi
def wt_fillg (co le ma : Nat → Int32) (x no : Int32) (g : Nat → Int32) : Nat → Int32 := bif wt_ok x then im_seal (wt_fg co x (wt_g2 g (ma x.toNatClampNeg) no (le x.toNatClampNeg)) wt_f2 (le x.toNatClampNeg).toNatClampNeg) (hd_ff wt_f2 (le x.toNatClampNeg).toNatClampNeg) else g
section PD
variable (l : Launch) (D : va_G) (tc : Nat → ClassId) (b : Nat)
set_option maxHeartbeats 4000000 in
set_option maxRecDepth 100000 in
theorem c_lengthOf (c0 c1 c2 c3 c4 c5 c6 c7 : am_E) (rest : am_W) (co le ma : Nat → Int32) (en : Int32) (x : Int32)  : cM l D tc b yX3_lengthOf cX3_lengthOf 2 (some .int) 1 0 0 [.ref 8, .int x] (c0 :: c1 :: c2 :: c3 :: c4 :: c5 :: c6 :: c7 :: .inr (3, [.ref 9, .ref 10, .ref 11, .int en]) :: .inl (0, 2040, .inl co) :: .inl (1, 51, .inl le) :: .inl (1, 51, .inl ma) :: rest)
    (am_is (some (.int (wt_len le x))) (c0 :: c1 :: c2 :: c3 :: c4 :: c5 :: c6 :: c7 :: .inr (3, [.ref 9, .ref 10, .ref 11, .int en]) :: .inl (0, 2040, .inl co) :: .inl (1, 51, .inl le) :: .inl (1, 51, .inl ma) :: rest)) := by
  refine am_m (own := RX3) (ini := (false, [])) (L := [some (.ref 8), some (.int x)]) rfl (by decide) (fun h => absurd h (by decide)) rfl (Nat.le_of_ble_eq_true rfl) rfl rfl ?_
  refine am_s am_cls okX3_lengthOf rfl ?_
  refine am_b okX3_lengthOf rfl (fun h1 => ?_) (fun h1 => ?_)
  · skip
    refine am_s am_cls okX3_lengthOf rfl ?_
    refine am_ri okX3_lengthOf rfl rfl rfl (Nat.le_refl _) (Nat.le_refl _) ?_
    exact ⟨by simp [wt_len, wt_ok, *], rfl⟩
  · skip
    iterate 2 refine am_s am_cls okX3_lengthOf rfl ?_
    refine am_b okX3_lengthOf rfl (fun h7 => ?_) (fun h7 => ?_)
    · skip
      refine am_s am_cls okX3_lengthOf rfl ?_
      refine am_ri okX3_lengthOf rfl rfl rfl (Nat.le_refl _) (Nat.le_refl _) ?_
      exact ⟨by simp [wt_len, wt_ok, *], rfl⟩
    · skip
      iterate 3 refine am_s am_cls okX3_lengthOf rfl ?_
      refine am_al okX3_lengthOf rfl (vp_in2 51 (by decide) h1 h7) ?_
      refine am_s am_cls okX3_lengthOf rfl ?_
      refine am_ri okX3_lengthOf rfl rfl rfl (Nat.le_refl _) (Nat.le_refl _) ?_
      exact ⟨by simp [wt_len, wt_ok, *], rfl⟩
set_option maxHeartbeats 4000000 in
set_option maxRecDepth 100000 in
theorem c_openLength (c0 c1 c2 c3 c4 c5 c6 c7 : am_E) (rest : am_W) (co le ma : Nat → Int32) (en : Int32)  : cM l D tc b yX3_openLength cX3_openLength 1 (some .int) 2 0 0 [.ref 8] (c0 :: c1 :: c2 :: c3 :: c4 :: c5 :: c6 :: c7 :: .inr (3, [.ref 9, .ref 10, .ref 11, .int en]) :: .inl (0, 2040, .inl co) :: .inl (1, 51, .inl le) :: .inl (1, 51, .inl ma) :: rest)
    (am_is (some (.int (wt_len le en))) (c0 :: c1 :: c2 :: c3 :: c4 :: c5 :: c6 :: c7 :: .inr (3, [.ref 9, .ref 10, .ref 11, .int en]) :: .inl (0, 2040, .inl co) :: .inl (1, 51, .inl le) :: .inl (1, 51, .inl ma) :: rest)) := by
  refine am_m (own := RX3) (ini := (false, [])) (L := [some (.ref 8)]) rfl (by decide) (fun h => absurd h (by decide)) rfl (Nat.le_of_ble_eq_true rfl) rfl rfl ?_
  iterate 3 refine am_s am_cls okX3_openLength rfl ?_
  refine am_cV okX3_openLength rfl (c_lengthOf l D tc b _ _ _ _ _ _ _ _ _ _ _ _ _ _) cv_X3_26 coX3_lengthOf rfl rfl rfl ⟨rfl, rfl, rfl⟩ ⟨Nat.le_refl _, Nat.le_refl _⟩ ?_
  rintro _ _ ⟨rfl, rfl⟩
  refine am_ri okX3_openLength rfl rfl rfl (Nat.le_refl _) (Nat.le_refl _) ?_
  exact ⟨rfl, rfl⟩
set_option maxHeartbeats 4000000 in
set_option maxRecDepth 100000 in
theorem c_byteOf (c0 c1 c2 c3 c4 c5 c6 c7 : am_E) (rest : am_W) (co le ma : Nat → Int32) (en : Int32) (x i : Int32)  : cM l D tc b yX3_byteOf cX3_byteOf 4 (some .byte) 1 0 0 [.ref 8, .int x, .int i] (c0 :: c1 :: c2 :: c3 :: c4 :: c5 :: c6 :: c7 :: .inr (3, [.ref 9, .ref 10, .ref 11, .int en]) :: .inl (0, 2040, .inl co) :: .inl (1, 51, .inl le) :: .inl (1, 51, .inl ma) :: rest)
    (am_is (some (.int (wt_by co x i).toInt8.toInt32)) (c0 :: c1 :: c2 :: c3 :: c4 :: c5 :: c6 :: c7 :: .inr (3, [.ref 9, .ref 10, .ref 11, .int en]) :: .inl (0, 2040, .inl co) :: .inl (1, 51, .inl le) :: .inl (1, 51, .inl ma) :: rest)) := by
  refine am_m (own := RX3) (ini := (false, [])) (L := [some (.ref 8), some (.int x), some (.int i), none]) rfl (by decide) (fun h => absurd h (by decide)) rfl (Nat.le_of_ble_eq_true rfl) rfl rfl ?_
  refine am_s am_cls okX3_byteOf rfl ?_
  refine am_b okX3_byteOf rfl (fun h1 => ?_) (fun h1 => ?_)
  · skip
    iterate 3 refine am_s am_cls okX3_byteOf rfl ?_
    refine am_b okX3_byteOf rfl (fun h27 => ?_) (fun h27 => ?_)
    · try replace h27 := pd_b0 h27
      refine am_s am_cls okX3_byteOf rfl ?_
      refine am_rb okX3_byteOf rfl rfl rfl (Nat.le_refl _) (Nat.le_refl _) ?_
      exact ⟨by simp [wt_by, wt_bok, *], rfl⟩
    · exact absurd rfl h27
  · skip
    iterate 2 refine am_s am_cls okX3_byteOf rfl ?_
    refine am_b okX3_byteOf rfl (fun h7 => ?_) (fun h7 => ?_)
    · skip
      iterate 3 refine am_s am_cls okX3_byteOf rfl ?_
      refine am_b okX3_byteOf rfl (fun h27 => ?_) (fun h27 => ?_)
      · try replace h27 := pd_b0 h27
        refine am_s am_cls okX3_byteOf rfl ?_
        refine am_rb okX3_byteOf rfl rfl rfl (Nat.le_refl _) (Nat.le_refl _) ?_
        exact ⟨by simp [wt_by, wt_bok, *], rfl⟩
      · exact absurd rfl h27
    · skip
      refine am_s am_cls okX3_byteOf rfl ?_
      refine am_b okX3_byteOf rfl (fun h11 => ?_) (fun h11 => ?_)
      · skip
        iterate 3 refine am_s am_cls okX3_byteOf rfl ?_
        refine am_b okX3_byteOf rfl (fun h27 => ?_) (fun h27 => ?_)
        · try replace h27 := pd_b0 h27
          refine am_s am_cls okX3_byteOf rfl ?_
          refine am_rb okX3_byteOf rfl rfl rfl (Nat.le_refl _) (Nat.le_refl _) ?_
          exact ⟨by simp [wt_by, wt_bok, *], rfl⟩
        · exact absurd rfl h27
      · skip
        iterate 2 refine am_s am_cls okX3_byteOf rfl ?_
        refine am_b okX3_byteOf rfl (fun h17 => ?_) (fun h17 => ?_)
        · skip
          iterate 3 refine am_s am_cls okX3_byteOf rfl ?_
          refine am_b okX3_byteOf rfl (fun h27 => ?_) (fun h27 => ?_)
          · try replace h27 := pd_b0 h27
            refine am_s am_cls okX3_byteOf rfl ?_
            refine am_rb okX3_byteOf rfl rfl rfl (Nat.le_refl _) (Nat.le_refl _) ?_
            exact ⟨by simp [wt_by, wt_bok, *], rfl⟩
          · exact absurd rfl h27
        · skip
          iterate 4 refine am_s am_cls okX3_byteOf rfl ?_
          refine am_b okX3_byteOf rfl (fun h27 => ?_) (fun h27 => ?_)
          · exact absurd h27 (by decide)
          · try replace h27 := pd_b1 h27
            iterate 7 refine am_s am_cls okX3_byteOf rfl ?_
            refine am_al okX3_byteOf rfl (wt_in h1 h7 h11 h17) ?_
            refine am_s am_cls okX3_byteOf rfl ?_
            refine am_rb okX3_byteOf rfl rfl rfl (Nat.le_refl _) (Nat.le_refl _) ?_
            exact ⟨by simp [wt_by, wt_bok, *], rfl⟩
set_option maxHeartbeats 4000000 in
set_option maxRecDepth 100000 in
theorem c_wapp (c0 c1 c2 c3 c4 c5 c6 c7 : am_E) (rest : am_W) (co le ma : Nat → Int32) (en : Int32) (x : Int32)  : cM l D tc b yX3_append cX3_append 3 (some .boolean) 3 0 0 [.ref 8, .int x] (c0 :: c1 :: c2 :: c3 :: c4 :: c5 :: c6 :: c7 :: .inr (3, [.ref 9, .ref 10, .ref 11, .int en]) :: .inl (0, 2040, .inl co) :: .inl (1, 51, .inl le) :: .inl (1, 51, .inl ma) :: rest)
    (am_is (some (.int (pd_b (wt_can le en)))) (c0 :: c1 :: c2 :: c3 :: c4 :: c5 :: c6 :: c7 :: .inr (3, [.ref 9, .ref 10, .ref 11, .int en]) :: .inl (0, 2040, .inl (wt_ac co le en x)) :: .inl (1, 51, .inl (wt_al le en)) :: .inl (1, 51, .inl ma) :: rest)) := by
  refine am_m (own := RX3) (ini := (false, [])) (L := [some (.ref 8), some (.int x), none]) rfl (by decide) (fun h => absurd h (by decide)) rfl (Nat.le_of_ble_eq_true rfl) rfl rfl ?_
  refine am_s am_cls okX3_append rfl ?_
  refine am_cV okX3_append rfl (c_openLength l D tc b _ _ _ _ _ _ _ _ _ _ _ _ _) cv_X3_30 coX3_openLength rfl rfl rfl ⟨rfl, rfl, rfl⟩ ⟨Nat.le_refl _, Nat.le_refl _⟩ ?_
  rintro _ _ ⟨rfl, rfl⟩
  iterate 3 refine am_s am_cls okX3_append rfl ?_
  refine am_b okX3_append rfl (fun h9 => ?_) (fun h9 => ?_)
  · skip
    refine am_s am_cls okX3_append rfl ?_
    refine am_rz okX3_append rfl rfl rfl (by decide) (Nat.le_refl _) (Nat.le_refl _) ?_
    exact ⟨by simp [wt_can, pd_bt, pd_bf, *], by simp [wt_ac, wt_al, wt_can, *]⟩
  · skip
    iterate 3 refine am_s am_cls okX3_append rfl ?_
    refine am_b okX3_append rfl (fun h18 => ?_) (fun h18 => ?_)
    · skip
      refine am_s am_cls okX3_append rfl ?_
      refine am_rz okX3_append rfl rfl rfl (by decide) (Nat.le_refl _) (Nat.le_refl _) ?_
      exact ⟨by simp [wt_can, pd_bt, pd_bf, *], by simp [wt_ac, wt_al, wt_can, *]⟩
    · skip
      refine am_s am_cls okX3_append rfl ?_
      refine am_b okX3_append rfl (fun h22 => ?_) (fun h22 => ?_)
      · skip
        refine am_s am_cls okX3_append rfl ?_
        refine am_rz okX3_append rfl rfl rfl (by decide) (Nat.le_refl _) (Nat.le_refl _) ?_
        exact ⟨by simp [wt_can, pd_bt, pd_bf, *], by simp [wt_ac, wt_al, wt_can, *]⟩
      · skip
        iterate 2 refine am_s am_cls okX3_append rfl ?_
        refine am_b okX3_append rfl (fun h28 => ?_) (fun h28 => ?_)
        · skip
          iterate 10 refine am_s am_cls okX3_append rfl ?_
          refine am_as okX3_append rfl (wt_in h9 h18 h22 (i_nle h28)) ?_
          iterate 7 refine am_s am_cls okX3_append rfl ?_
          refine am_as okX3_append rfl (vp_in2 51 (by decide) h9 h18) ?_
          refine am_s am_cls okX3_append rfl ?_
          refine am_rz okX3_append rfl rfl rfl (by decide) (Nat.le_refl _) (Nat.le_refl _) ?_
          exact ⟨by simp [wt_can, pd_bt, pd_bf, *], by simp [wt_ac, wt_al, wt_can, *]⟩
        · skip
          refine am_s am_cls okX3_append rfl ?_
          refine am_rz okX3_append rfl rfl rfl (by decide) (Nat.le_refl _) (Nat.le_refl _) ?_
          exact ⟨by simp [wt_can, pd_bt, pd_bf, *], by simp [wt_ac, wt_al, wt_can, *]⟩
set_option maxHeartbeats 4000000 in
set_option maxRecDepth 100000 in
theorem c_wempty (c0 c1 c2 c3 c4 c5 c6 c7 : am_E) (rest : am_W) (co le ma : Nat → Int32) (en : Int32)  : cM l D tc b yX3_emptyOpenRow cX3_emptyOpenRow 1 none 1 0 0 [.ref 8] (c0 :: c1 :: c2 :: c3 :: c4 :: c5 :: c6 :: c7 :: .inr (3, [.ref 9, .ref 10, .ref 11, .int en]) :: .inl (0, 2040, .inl co) :: .inl (1, 51, .inl le) :: .inl (1, 51, .inl ma) :: rest)
    (am_is none (c0 :: c1 :: c2 :: c3 :: c4 :: c5 :: c6 :: c7 :: .inr (3, [.ref 9, .ref 10, .ref 11, .int en]) :: .inl (0, 2040, .inl co) :: .inl (1, 51, .inl (wt_el le en)) :: .inl (1, 51, .inl ma) :: rest)) := by
  refine am_m (own := RX3) (ini := (false, [])) (L := [some (.ref 8)]) rfl (by decide) (fun h => absurd h (by decide)) rfl (Nat.le_of_ble_eq_true rfl) rfl rfl ?_
  iterate 2 refine am_s am_cls okX3_emptyOpenRow rfl ?_
  refine am_b okX3_emptyOpenRow rfl (fun h4 => ?_) (fun h4 => ?_)
  · skip
    refine am_rv okX3_emptyOpenRow rfl rfl rfl (Nat.le_refl _) (Nat.le_refl _) ?_
    exact ⟨rfl, by simp [wt_el, wt_ok, *]⟩
  · skip
    iterate 3 refine am_s am_cls okX3_emptyOpenRow rfl ?_
    refine am_b okX3_emptyOpenRow rfl (fun h13 => ?_) (fun h13 => ?_)
    · skip
      refine am_rv okX3_emptyOpenRow rfl rfl rfl (Nat.le_refl _) (Nat.le_refl _) ?_
      exact ⟨rfl, by simp [wt_el, wt_ok, *]⟩
    · skip
      iterate 5 refine am_s am_cls okX3_emptyOpenRow rfl ?_
      refine am_as okX3_emptyOpenRow rfl (vp_in2 51 (by decide) h4 h13) ?_
      refine am_rv okX3_emptyOpenRow rfl rfl rfl (Nat.le_refl _) (Nat.le_refl _) ?_
      exact ⟨rfl, by simp [wt_el, wt_ok, *]⟩
theorem wt_51 {e : Int32} (h : ¬ 50 ≤ e) : ¬ nI 51 ≤ e := by
  rw [Int32.le_iff_toInt_le] at h ⊢
  rw [nI_toInt (by decide)]
  have : (50 : Int32).toInt = 50 := rfl
  omega
set_option maxHeartbeats 4000000 in
set_option maxRecDepth 100000 in
theorem c_wclose (c0 c1 c2 c3 c4 c5 c6 c7 : am_E) (rest : am_W) (co le ma : Nat → Int32) (en : Int32) (x : Int32)  : cM l D tc b yX3_close cX3_close 2 none 2 0 0 [.ref 8, .int x] (c0 :: c1 :: c2 :: c3 :: c4 :: c5 :: c6 :: c7 :: .inr (3, [.ref 9, .ref 10, .ref 11, .int en]) :: .inl (0, 2040, .inl co) :: .inl (1, 51, .inl le) :: .inl (1, 51, .inl ma) :: rest)
    (am_is none (c0 :: c1 :: c2 :: c3 :: c4 :: c5 :: c6 :: c7 :: .inr (3, [.ref 9, .ref 10, .ref 11, .int (wt_ce en)]) :: .inl (0, 2040, .inl co) :: .inl (1, 51, .inl (wt_cle le en)) :: .inl (1, 51, .inl (wt_cm ma en x)) :: rest)) := by
  refine am_m (own := RX3) (ini := (false, [])) (L := [some (.ref 8), some (.int x)]) rfl (by decide) (fun h => absurd h (by decide)) rfl (Nat.le_of_ble_eq_true rfl) rfl rfl ?_
  iterate 2 refine am_s am_cls okX3_close rfl ?_
  refine am_b okX3_close rfl (fun h4 => ?_) (fun h4 => ?_)
  · skip
    refine am_rv okX3_close rfl rfl rfl (Nat.le_refl _) (Nat.le_refl _) ?_
    exact ⟨rfl, by simp [wt_cle, wt_cm, wt_ce, wt_cl, *]⟩
  · skip
    iterate 3 refine am_s am_cls okX3_close rfl ?_
    refine am_b okX3_close rfl (fun h13 => ?_) (fun h13 => ?_)
    · skip
      refine am_rv okX3_close rfl rfl rfl (Nat.le_refl _) (Nat.le_refl _) ?_
      exact ⟨rfl, by simp [wt_cle, wt_cm, wt_ce, wt_cl, *]⟩
    · skip
      iterate 5 refine am_s am_cls okX3_close rfl ?_
      refine am_as okX3_close rfl (vp_in2 51 (by decide) h4 (wt_51 h13)) ?_
      iterate 7 refine am_s am_cls okX3_close rfl ?_
      refine am_cV okX3_close rfl (c_wempty l D tc b _ _ _ _ _ _ _ _ _ _ _ _ _) cv_X3_34 coX3_emptyOpenRow rfl rfl rfl ⟨rfl, rfl, rfl⟩ ⟨Nat.le_refl _, Nat.le_refl _⟩ ?_
      rintro _ _ ⟨rfl, rfl⟩
      refine am_rv okX3_close rfl rfl rfl (Nat.le_refl _) (Nat.le_refl _) ?_
      exact ⟨rfl, by simp [wt_cle, wt_cm, wt_ce, wt_cl, *]⟩
set_option maxHeartbeats 4000000 in
set_option maxRecDepth 100000 in
theorem c_wrem_l (c0 c1 c2 c3 c4 c5 c6 c7 : am_E) (rest : am_W) (co le ma : Nat → Int32) (en : Int32)  (m : Nat) : ∀ (k : Nat), k + m = wt_n (wt_len le en) → am_R lw_tbl vwCl l D tc b RX3 cX3_removeEnded 3 none (false, []) (am_rm 3 0 0) 0 0 (am_is none (c0 :: c1 :: c2 :: c3 :: c4 :: c5 :: c6 :: c7 :: .inr (3, [.ref 9, .ref 10, .ref 11, .int 0]) :: .inl (0, 2040, .inl (wt_rc co le en)) :: .inl (1, 51, .inl (wt_rl le en)) :: .inl (1, 51, .inl ma) :: rest)) 0 0 7 [some (.ref 8), some (.int (wt_len le en)), some (.int (nI k))] [] (c0 :: c1 :: c2 :: c3 :: c4 :: c5 :: c6 :: c7 :: .inr (3, [.ref 9, .ref 10, .ref 11, .int en]) :: .inl (0, 2040, .inl (wt_mv co en k)) :: .inl (1, 51, .inl le) :: .inl (1, 51, .inl ma) :: rest) := by
  induction m with
  | zero =>
    intro k hk
    have hk : k = wt_n (wt_len le en) := by omega
    subst hk
    iterate 2 refine am_s am_cls okX3_removeEnded rfl ?_
    refine am_b okX3_removeEnded rfl (fun h9 => ?_) (fun h9 => ?_)
    · skip
      iterate 4 refine am_s am_cls okX3_removeEnded rfl ?_
      refine am_as okX3_removeEnded rfl (vp_in_nI (n := 0) (N := 51) (by decide) (by decide)) ?_
      iterate 3 refine am_s am_cls okX3_removeEnded rfl ?_
      refine am_rv okX3_removeEnded rfl rfl rfl (Nat.le_refl _) (Nat.le_refl _) ?_
      exact ⟨rfl, rfl⟩
    · skip
      iterate 2 refine am_s am_cls okX3_removeEnded rfl ?_
      refine am_b okX3_removeEnded rfl (fun h15 => ?_) (fun h15 => ?_)
      · skip
        iterate 4 refine am_s am_cls okX3_removeEnded rfl ?_
        refine am_as okX3_removeEnded rfl (vp_in_nI (n := 0) (N := 51) (by decide) (by decide)) ?_
        iterate 3 refine am_s am_cls okX3_removeEnded rfl ?_
        refine am_rv okX3_removeEnded rfl rfl rfl (Nat.le_refl _) (Nat.le_refl _) ?_
        exact ⟨rfl, rfl⟩
      · exact (wt_n_eq h9 h15).elim
  | succ m ih =>
    intro k hk
    iterate 2 refine am_s am_cls okX3_removeEnded rfl ?_
    refine am_b okX3_removeEnded rfl (fun h9 => ?_) (fun h9 => ?_)
    · exact absurd h9 (wt_n_lt (by omega)).1
    · skip
      iterate 2 refine am_s am_cls okX3_removeEnded rfl ?_
      refine am_b okX3_removeEnded rfl (fun h15 => ?_) (fun h15 => ?_)
      · exact absurd h15 (wt_n_lt (x := wt_len le en) (by omega)).2
      · skip
        iterate 7 refine am_s am_cls okX3_removeEnded rfl ?_
        refine am_cV okX3_removeEnded rfl (c_byteOf l D tc b _ _ _ _ _ _ _ _ _ _ _ _ _ _ _) cv_X3_37 coX3_byteOf rfl rfl rfl ⟨rfl, rfl, rfl⟩ ⟨Nat.le_refl _, Nat.le_refl _⟩ ?_
        rintro _ _ ⟨rfl, rfl⟩
        refine am_as okX3_removeEnded rfl (vp_in_nI (n := k) (N := 2040) (by unfold wt_n at hk; omega) (by decide)) ?_
        iterate 2 refine am_s am_cls okX3_removeEnded rfl ?_
        have r := ih (k + 1) (by omega)
        rw [wt_mv_s co en k, nI_succ k] at r
        exact r
set_option maxHeartbeats 4000000 in
set_option maxRecDepth 100000 in
theorem c_wrem (c0 c1 c2 c3 c4 c5 c6 c7 : am_E) (rest : am_W) (co le ma : Nat → Int32) (en : Int32)  : cM l D tc b yX3_removeEnded cX3_removeEnded 3 none 3 0 0 [.ref 8] (c0 :: c1 :: c2 :: c3 :: c4 :: c5 :: c6 :: c7 :: .inr (3, [.ref 9, .ref 10, .ref 11, .int en]) :: .inl (0, 2040, .inl co) :: .inl (1, 51, .inl le) :: .inl (1, 51, .inl ma) :: rest)
    (am_is none (c0 :: c1 :: c2 :: c3 :: c4 :: c5 :: c6 :: c7 :: .inr (3, [.ref 9, .ref 10, .ref 11, .int 0]) :: .inl (0, 2040, .inl (wt_rc co le en)) :: .inl (1, 51, .inl (wt_rl le en)) :: .inl (1, 51, .inl ma) :: rest)) := by
  refine am_m (own := RX3) (ini := (false, [])) (L := [some (.ref 8), none, none]) rfl (by decide) (fun h => absurd h (by decide)) rfl (Nat.le_of_ble_eq_true rfl) rfl rfl ?_
  refine am_s am_cls okX3_removeEnded rfl ?_
  refine am_cV okX3_removeEnded rfl (c_openLength l D tc b _ _ _ _ _ _ _ _ _ _ _ _ _) cv_X3_30 coX3_openLength rfl rfl rfl ⟨rfl, rfl, rfl⟩ ⟨Nat.le_refl _, Nat.le_refl _⟩ ?_
  rintro _ _ ⟨rfl, rfl⟩
  iterate 3 refine am_s am_cls okX3_removeEnded rfl ?_
  have r := c_wrem_l l D tc b c0 c1 c2 c3 c4 c5 c6 c7 rest co le ma en (wt_n (wt_len le en)) 0 (Nat.zero_add _)
  rw [wt_mv_0, nI_0] at r
  exact r
set_option maxHeartbeats 4000000 in
set_option maxRecDepth 100000 in
theorem c_wfill_l (c0 c1 c2 c5 c6 c7 : am_E) (rest : am_W) (g : Nat → Int32) (fi : Int32) (co le ma : Nat → Int32) (en x no : Int32)  (m : Nat) : ∀ (k : Nat), k + m = (le x.toNatClampNeg).toNatClampNeg → am_R lw_tbl vwCl l D tc b RX3 cX3_fill 6 none (false, []) (am_rm 4 0 0) 0 0 (am_is none (c0 :: c1 :: c2 :: .inr (1, [.ref 4, .int (hd_ff fi (le x.toNatClampNeg).toNatClampNeg)]) :: .inl (0, 64, .inl (im_seal (wt_fg co x g fi (le x.toNatClampNeg).toNatClampNeg) (hd_ff fi (le x.toNatClampNeg).toNatClampNeg))) :: c5 :: c6 :: c7 :: .inr (3, [.ref 9, .ref 10, .ref 11, .int en]) :: .inl (0, 2040, .inl co) :: .inl (1, 51, .inl le) :: .inl (1, 51, .inl ma) :: rest)) 0 0 43 [some (.ref 8), some (.ref 3), some (.int x), some (.int no), some (.int (le x.toNatClampNeg)), some (.int (nI k))] [] (c0 :: c1 :: c2 :: .inr (1, [.ref 4, .int (hd_ff fi k)]) :: .inl (0, 64, .inl (wt_fg co x g fi k)) :: c5 :: c6 :: c7 :: .inr (3, [.ref 9, .ref 10, .ref 11, .int en]) :: .inl (0, 2040, .inl co) :: .inl (1, 51, .inl le) :: .inl (1, 51, .inl ma) :: rest) := by
  induction m with
  | zero =>
    intro k hk
    have hk : k = (le x.toNatClampNeg).toNatClampNeg := by omega
    subst hk
    iterate 2 refine am_s am_cls okX3_fill rfl ?_
    refine am_b okX3_fill rfl (fun h47 => ?_) (fun h47 => ?_)
    · skip
      refine am_s am_cls okX3_fill rfl ?_
      refine am_cV okX3_fill rfl (c_iseal l D tc b _ _ _ _ _ _) cv_X3_53 coX1_seal rfl rfl rfl ⟨rfl, rfl, rfl⟩ ⟨Nat.le_refl _, Nat.le_refl _⟩ ?_
      rintro _ _ ⟨rfl, rfl⟩
      refine am_rv okX3_fill rfl rfl rfl (Nat.le_refl _) (Nat.le_refl _) ?_
      exact ⟨rfl, rfl⟩
    · exact absurd (cl_ge (Nat.le_refl _) (cl_b _)) h47
  | succ m ih =>
    intro k hk
    iterate 2 refine am_s am_cls okX3_fill rfl ?_
    refine am_b okX3_fill rfl (fun h47 => ?_) (fun h47 => ?_)
    · exact absurd h47 (cl_lt (by omega))
    · skip
      iterate 4 refine am_s am_cls okX3_fill rfl ?_
      refine am_cV okX3_fill rfl (c_byteOf l D tc b _ _ _ _ _ _ _ _ _ _ _ _ _ _ _) cv_X3_37 coX3_byteOf rfl rfl rfl ⟨rfl, rfl, rfl⟩ ⟨Nat.le_refl _, Nat.le_refl _⟩ ?_
      rintro _ _ ⟨rfl, rfl⟩
      refine am_cV okX3_fill rfl (c_iapp l D tc b _ _ _ _ _ _ _) cv_X3_50 coX1_append rfl rfl rfl ⟨rfl, rfl, rfl⟩ ⟨Nat.le_refl _, Nat.le_refl _⟩ ?_
      rintro _ _ ⟨rfl, rfl⟩
      iterate 2 refine am_s am_cls okX3_fill rfl ?_
      have r := ih (k + 1) (by omega)
      rw [wt_fg_s co x g fi k, hd_ff_s fi k, nI_succ k] at r
      exact r
set_option maxHeartbeats 4000000 in
set_option maxRecDepth 100000 in
theorem c_wfill (c0 c1 c2 c5 c6 c7 : am_E) (rest : am_W) (g : Nat → Int32) (fi : Int32) (co le ma : Nat → Int32) (en x no : Int32)  : cM l D tc b yX3_fill cX3_fill 6 none 4 0 0 [.ref 8, .ref 3, .int x, .int no] (c0 :: c1 :: c2 :: .inr (1, [.ref 4, .int fi]) :: .inl (0, 64, .inl g) :: c5 :: c6 :: c7 :: .inr (3, [.ref 9, .ref 10, .ref 11, .int en]) :: .inl (0, 2040, .inl co) :: .inl (1, 51, .inl le) :: .inl (1, 51, .inl ma) :: rest)
    (am_is none (c0 :: c1 :: c2 :: .inr (1, [.ref 4, .int (wt_fillf le x fi)]) :: .inl (0, 64, .inl (wt_fillg co le ma x no g)) :: c5 :: c6 :: c7 :: .inr (3, [.ref 9, .ref 10, .ref 11, .int en]) :: .inl (0, 2040, .inl co) :: .inl (1, 51, .inl le) :: .inl (1, 51, .inl ma) :: rest)) := by
  refine am_m (own := RX3) (ini := (false, [])) (L := [some (.ref 8), some (.ref 3), some (.int x), some (.int no), none, none]) rfl (by decide) (fun h => absurd h (by decide)) rfl (Nat.le_of_ble_eq_true rfl) rfl rfl ?_
  refine am_s am_cls okX3_fill rfl ?_
  refine am_b okX3_fill rfl (fun h1 => ?_) (fun h1 => ?_)
  · skip
    refine am_rv okX3_fill rfl rfl rfl (Nat.le_refl _) (Nat.le_refl _) ?_
    exact ⟨rfl, by simp [wt_fillg, wt_fillf, wt_ok, h1]⟩
  · skip
    iterate 2 refine am_s am_cls okX3_fill rfl ?_
    refine am_b okX3_fill rfl (fun h7 => ?_) (fun h7 => ?_)
    · skip
      iterate 3 refine am_s am_cls okX3_fill rfl ?_
      refine am_al okX3_fill rfl (vp_in2 51 (by decide) h1 (i_nle h7)) ?_
      iterate 5 refine am_s am_cls okX3_fill rfl ?_
      refine am_al okX3_fill rfl (vp_in2 51 (by decide) h1 (i_nle h7)) ?_
      refine am_cV okX3_fill rfl (c_ibegin l D tc b _ _ _ _ _ _ _) cv_X3_41 coX1_begin rfl rfl rfl ⟨rfl, rfl, rfl⟩ ⟨Nat.le_refl _, Nat.le_refl _⟩ ?_
      rintro _ _ ⟨rfl, rfl⟩
      iterate 2 refine am_s am_cls okX3_fill rfl ?_
      refine am_cV okX3_fill rfl (c_iapp4 l D tc b _ _ _ _ _ _ _) cv_X3_47 coX1_appendFour rfl rfl rfl ⟨rfl, rfl, rfl⟩ ⟨Nat.le_refl _, Nat.le_refl _⟩ ?_
      rintro _ _ ⟨rfl, rfl⟩
      iterate 2 refine am_s am_cls okX3_fill rfl ?_
      refine am_cV okX3_fill rfl (c_iapp l D tc b _ _ _ _ _ _ _) cv_X3_50 coX1_append rfl rfl rfl ⟨rfl, rfl, rfl⟩ ⟨Nat.le_refl _, Nat.le_refl _⟩ ?_
      rintro _ _ ⟨rfl, rfl⟩
      iterate 2 refine am_s am_cls okX3_fill rfl ?_
      have r := c_wfill_l l D tc b c0 c1 c2 c5 c6 c7 rest (wt_g2 g (ma x.toNatClampNeg) no (le x.toNatClampNeg)) wt_f2 co le ma en x no (le x.toNatClampNeg).toNatClampNeg 0 (Nat.zero_add _)
      rw [wt_fg_0, hd_ff_0, nI_0] at r
      have hok : wt_ok x = true := by simp only [wt_ok, h1, i_nle h7, decide_false, Bool.not_false, Bool.and_true]
      simp only [wt_fillg, wt_fillf, hok, cond_true]
      simp only [wt_g2, wt_f2] at r ⊢
      exact r
    · skip
      refine am_rv okX3_fill rfl rfl rfl (Nat.le_refl _) (Nat.le_refl _) ?_
      exact ⟨rfl, by simp [wt_fillg, wt_fillf, wt_ok, h1, Int32.not_lt.mp h7]⟩
end PD
