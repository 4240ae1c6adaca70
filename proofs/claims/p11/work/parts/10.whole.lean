section PD
variable (l : Launch) (D : va_G) (tc : Nat → ClassId) (b : Nat)
set_option maxHeartbeats 4000000 in
set_option maxRecDepth 100000 in
theorem c_isWhole_l (c0 : am_E) (rest : am_W) (n : Nat) (f : Nat → Int32) (S wr cu te s : Int32) (hn : pd_sz S n) (m : Nat) : ∀ (k : Nat), k + m = 60 → am_R lw_tbl vwCl l D tc b RX2 cX2_isWhole 4 (some .boolean) (false, []) (am_rm 4 0 0) 0 0 (am_is (some (.int (pd_b (decide (pd_sum f S s 60 = pd_four f S s 60))))) (c0 :: .inr (2, [.int S, .ref 2, .int wr, .int cu, .int te]) :: .inl (0, n, .inl f) :: rest)) 0 0 15 [some (.ref 1), some (.int s), some (.int (pd_sum f S s k)), some (.int (nI k))] [] (c0 :: .inr (2, [.int S, .ref 2, .int wr, .int cu, .int te]) :: .inl (0, n, .inl f) :: rest) := by
  induction m with
  | zero =>
    intro k hk
    have hk : k = 60 := by omega
    subst hk
    iterate 2 refine am_s am_cls okX2_isWhole rfl ?_
    refine am_b okX2_isWhole rfl (fun h18 => ?_) (fun h18 => ?_)
    · skip
      iterate 4 refine am_s am_cls okX2_isWhole rfl ?_
      refine am_cV okX2_isWhole rfl (c_four l D tc b c0 rest n f S wr cu te _ _ hn) cv_X2_41 coX2_fourBytes rfl rfl rfl ⟨rfl, rfl, rfl⟩ ⟨Nat.le_refl _, Nat.le_refl _⟩ ?_
      rintro _ _ ⟨rfl, rfl⟩
      refine am_b okX2_isWhole rfl (fun h46 => ?_) (fun h46 => ?_)
      · skip
        iterate 2 refine am_s am_cls okX2_isWhole rfl ?_
        refine am_rz okX2_isWhole rfl rfl rfl (by decide) (Nat.le_refl _) (Nat.le_refl _) ?_
        exact ⟨by simp [pd_bt, pd_bf, *], rfl⟩
      · skip
        refine am_s am_cls okX2_isWhole rfl ?_
        refine am_rz okX2_isWhole rfl rfl rfl (by decide) (Nat.le_refl _) (Nat.le_refl _) ?_
        exact ⟨by simp [pd_bt, pd_bf, *], rfl⟩
    · exact absurd (nI_le (a := 60) (b := 60) (Nat.le_refl _) (by decide)) h18
  | succ m ih =>
    intro k hk
    iterate 2 refine am_s am_cls okX2_isWhole rfl ?_
    refine am_b okX2_isWhole rfl (fun h18 => ?_) (fun h18 => ?_)
    · exact absurd h18 (nI_ge (a := k) (b := 60) (by omega) (by decide))
    · skip
      iterate 4 refine am_s am_cls okX2_isWhole rfl ?_
      refine am_cV okX2_isWhole rfl (c_look l D tc b c0 rest n f S wr cu te _ _ hn) cv_X2_35 coX2_look rfl rfl rfl ⟨rfl, rfl, rfl⟩ ⟨Nat.le_refl _, Nat.le_refl _⟩ ?_
      rintro _ _ ⟨rfl, rfl⟩
      refine am_cS okX2_isWhole rfl (c_sumWith l D tc b _ _ _) cs_X2_38 coX4_sumWith rfl ⟨rfl, rfl, rfl⟩ ⟨Nat.le_refl _, Nat.le_refl _⟩ ?_
      rintro _ _ ⟨rfl, rfl⟩
      iterate 3 refine am_s am_cls okX2_isWhole rfl ?_
      have q := ih (k + 1) (by omega)
      rw [pd_sum_s f S s k, nI_succ k] at q
      exact q
set_option maxHeartbeats 4000000 in
set_option maxRecDepth 100000 in
theorem c_isWhole (c0 : am_E) (rest : am_W) (n : Nat) (f : Nat → Int32) (S wr cu te s : Int32) (hn : pd_sz S n) : cM l D tc b yX2_isWhole cX2_isWhole 4 (some .boolean) 4 0 0 [.ref 1, .int s] (c0 :: .inr (2, [.int S, .ref 2, .int wr, .int cu, .int te]) :: .inl (0, n, .inl f) :: rest)
    (am_is (some (.int (pd_b (pd_whole f S s)))) (c0 :: .inr (2, [.int S, .ref 2, .int wr, .int cu, .int te]) :: .inl (0, n, .inl f) :: rest)) := by
  refine am_m (own := RX2) (ini := (false, [])) (L := [some (.ref 1), some (.int s), none, none]) rfl (by decide) (fun h => absurd h (by decide)) rfl (Nat.le_of_ble_eq_true rfl) rfl rfl ?_
  iterate 3 refine am_s am_cls okX2_isWhole rfl ?_
  refine am_cV okX2_isWhole rfl (c_look l D tc b c0 rest n f S wr cu te _ _ hn) cv_X2_35 coX2_look rfl rfl rfl ⟨rfl, rfl, rfl⟩ ⟨Nat.le_refl _, Nat.le_refl _⟩ ?_
  rintro _ _ ⟨rfl, rfl⟩
  refine am_b okX2_isWhole rfl (fun h6 => ?_) (fun h6 => ?_)
  · try replace h6 := pd_b0 h6
    refine am_s am_cls okX2_isWhole rfl ?_
    refine am_rz okX2_isWhole rfl rfl rfl (by decide) (Nat.le_refl _) (Nat.le_refl _) ?_
    exact ⟨by simp [pd_whole, pd_bt, pd_bf, *], rfl⟩
  · try replace h6 := pd_b1 h6
    iterate 4 refine am_s am_cls okX2_isWhole rfl ?_
    rw [show pd_whole f S s = decide (pd_sum f S s 60 = pd_four f S s 60) from by simp [pd_whole, h6]]
    have q := c_isWhole_l l D tc b c0 rest n f S wr cu te s hn 60 0 rfl
    rw [pd_sum_0, nI_0] at q
    exact q
set_option maxHeartbeats 4000000 in
set_option maxRecDepth 100000 in
theorem c_isRow (c0 : am_E) (rest : am_W) (n : Nat) (f : Nat → Int32) (S wr cu te s : Int32) (hn : pd_sz S n) : cM l D tc b yX2_isRow cX2_isRow 2 (some .boolean) 5 0 0 [.ref 1, .int s] (c0 :: .inr (2, [.int S, .ref 2, .int wr, .int cu, .int te]) :: .inl (0, n, .inl f) :: rest)
    (am_is (some (.int (pd_b (pd_row f S s)))) (c0 :: .inr (2, [.int S, .ref 2, .int wr, .int cu, .int te]) :: .inl (0, n, .inl f) :: rest)) := by
  refine am_m (own := RX2) (ini := (false, [])) (L := [some (.ref 1), some (.int s)]) rfl (by decide) (fun h => absurd h (by decide)) rfl (Nat.le_of_ble_eq_true rfl) rfl rfl ?_
  iterate 3 refine am_s am_cls okX2_isRow rfl ?_
  refine am_cV okX2_isRow rfl (c_look l D tc b c0 rest n f S wr cu te _ _ hn) cv_X2_35 coX2_look rfl rfl rfl ⟨rfl, rfl, rfl⟩ ⟨Nat.le_refl _, Nat.le_refl _⟩ ?_
  rintro _ _ ⟨rfl, rfl⟩
  refine am_cS okX2_isRow rfl (c_isRowMark l D tc b _ _) cs_X2_44 coX4_isRowMark rfl ⟨rfl, rfl, rfl⟩ ⟨Nat.le_refl _, Nat.le_refl _⟩ ?_
  rintro _ _ ⟨rfl, rfl⟩
  refine am_b okX2_isRow rfl (fun h9 => ?_) (fun h9 => ?_)
  · try replace h9 := pd_b0 h9
    refine am_s am_cls okX2_isRow rfl ?_
    refine am_rz okX2_isRow rfl rfl rfl (by decide) (Nat.le_refl _) (Nat.le_refl _) ?_
    exact ⟨by simp [pd_row, pd_bt, pd_bf, *], rfl⟩
  · try replace h9 := pd_b1 h9
    iterate 3 refine am_s am_cls okX2_isRow rfl ?_
    refine am_cV okX2_isRow rfl (c_look l D tc b c0 rest n f S wr cu te _ _ hn) cv_X2_35 coX2_look rfl rfl rfl ⟨rfl, rfl, rfl⟩ ⟨Nat.le_refl _, Nat.le_refl _⟩ ?_
    rintro _ _ ⟨rfl, rfl⟩
    refine am_s am_cls okX2_isRow rfl ?_
    refine am_b okX2_isRow rfl (fun h20 => ?_) (fun h20 => ?_)
    · skip
      refine am_s am_cls okX2_isRow rfl ?_
      refine am_rz okX2_isRow rfl rfl rfl (by decide) (Nat.le_refl _) (Nat.le_refl _) ?_
      exact ⟨by simp [pd_row, pd_bt, pd_bf, *], rfl⟩
    · skip
      iterate 2 refine am_s am_cls okX2_isRow rfl ?_
      refine am_cV okX2_isRow rfl (c_isWhole l D tc b c0 rest n f S wr cu te _ hn) cv_X2_48 coX2_isWhole rfl rfl rfl ⟨rfl, rfl, rfl⟩ ⟨Nat.le_refl _, Nat.le_refl _⟩ ?_
      rintro _ _ ⟨rfl, rfl⟩
      refine am_b okX2_isRow rfl (fun h28 => ?_) (fun h28 => ?_)
      · try replace h28 := pd_b0 h28
        refine am_s am_cls okX2_isRow rfl ?_
        refine am_rz okX2_isRow rfl rfl rfl (by decide) (Nat.le_refl _) (Nat.le_refl _) ?_
        exact ⟨by simp [pd_row, pd_bt, pd_bf, *], rfl⟩
      · try replace h28 := pd_b1 h28
        iterate 2 refine am_s am_cls okX2_isRow rfl ?_
        refine am_rz okX2_isRow rfl rfl rfl (by decide) (Nat.le_refl _) (Nat.le_refl _) ?_
        exact ⟨by simp [pd_row, pd_bt, pd_bf, *], rfl⟩
set_option maxHeartbeats 4000000 in
set_option maxRecDepth 100000 in
theorem c_isEvent (c0 : am_E) (rest : am_W) (n : Nat) (f : Nat → Int32) (S wr cu te s : Int32) (hn : pd_sz S n) : cM l D tc b yX2_isEvent cX2_isEvent 2 (some .boolean) 3 0 0 [.ref 1, .int s] (c0 :: .inr (2, [.int S, .ref 2, .int wr, .int cu, .int te]) :: .inl (0, n, .inl f) :: rest)
    (am_is (some (.int (pd_b (pd_event f S s)))) (c0 :: .inr (2, [.int S, .ref 2, .int wr, .int cu, .int te]) :: .inl (0, n, .inl f) :: rest)) := by
  refine am_m (own := RX2) (ini := (false, [])) (L := [some (.ref 1), some (.int s)]) rfl (by decide) (fun h => absurd h (by decide)) rfl (Nat.le_of_ble_eq_true rfl) rfl rfl ?_
  iterate 3 refine am_s am_cls okX2_isEvent rfl ?_
  refine am_cV okX2_isEvent rfl (c_look l D tc b c0 rest n f S wr cu te _ _ hn) cv_X2_35 coX2_look rfl rfl rfl ⟨rfl, rfl, rfl⟩ ⟨Nat.le_refl _, Nat.le_refl _⟩ ?_
  rintro _ _ ⟨rfl, rfl⟩
  refine am_s am_cls okX2_isEvent rfl ?_
  refine am_b okX2_isEvent rfl (fun h8 => ?_) (fun h8 => ?_)
  · skip
    refine am_s am_cls okX2_isEvent rfl ?_
    refine am_rz okX2_isEvent rfl rfl rfl (by decide) (Nat.le_refl _) (Nat.le_refl _) ?_
    exact ⟨by simp [pd_event, pd_bt, pd_bf, *], rfl⟩
  · skip
    iterate 2 refine am_s am_cls okX2_isEvent rfl ?_
    refine am_rz okX2_isEvent rfl rfl rfl (by decide) (Nat.le_refl _) (Nat.le_refl _) ?_
    exact ⟨by simp [pd_event, pd_bt, pd_bf, *], rfl⟩
end PD
