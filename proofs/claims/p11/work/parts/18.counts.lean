/-! ===== switches, counts ===== -/
theorem sw_4 (x : Int32) : (x.toInt < 0 ∨ 4 < x.toInt) ∨ x = 0 ∨ x = 1 ∨ x = 2 ∨ x = 3 ∨ x = 4 := by
  rcases pk_ix x (n := 5) (by decide) with q | q | ⟨j, hj, rfl⟩
  · rw [Int32.lt_iff_toInt_lt] at q
    exact Or.inl (Or.inl q)
  · rw [Int32.le_iff_toInt_le, nI_toInt (by decide)] at q
    exact Or.inl (Or.inr (by omega))
  · match j, hj with
    | 0, _ => exact Or.inr (Or.inl rfl)
    | 1, _ => exact Or.inr (Or.inr (Or.inl rfl))
    | 2, _ => exact Or.inr (Or.inr (Or.inr (Or.inl rfl)))
    | 3, _ => exact Or.inr (Or.inr (Or.inr (Or.inr (Or.inl rfl))))
    | 4, _ => exact Or.inr (Or.inr (Or.inr (Or.inr (Or.inr rfl))))
theorem sw_2 (x : Int32) : (x.toInt < 0 ∨ 2 < x.toInt) ∨ x = 0 ∨ x = 1 ∨ x = 2 := by
  rcases sw_4 x with (h | h) | h | h | h | h | h
  · exact Or.inl (Or.inl h)
  · exact Or.inl (Or.inr (by omega))
  · exact Or.inr (Or.inl h)
  · exact Or.inr (Or.inr (Or.inl h))
  · exact Or.inr (Or.inr (Or.inr h))
  · subst h; exact Or.inl (Or.inr (by decide))
  · subst h; exact Or.inl (Or.inr (by decide))
theorem dsw_count : decode cX4_count 11 = .ok (.tableswitch 73 0 4 #[33, 41, 49, 57, 65], 33) := by decide +kernel
theorem dsw_row : decode cX4_row 57 = .ok (.tableswitch 67 0 2 #[27, 37, 50], 27) := by decide +kernel
def pd_count (ke en ge gr ol x : Int32) : Int32 := if x = 0 then ke else if x = 1 then en else if x = 2 then ge else if x = 3 then gr else if x = 4 then ol else -12
theorem pd_count_o {ke en ge gr ol x : Int32} (h : x.toInt < 0 ∨ 4 < x.toInt) : pd_count ke en ge gr ol x = -12 := by
  have h0 : ¬ x = 0 := fun q => by subst q; revert h; decide
  have h1 : ¬ x = 1 := fun q => by subst q; revert h; decide
  have h2 : ¬ x = 2 := fun q => by subst q; revert h; decide
  have h3 : ¬ x = 3 := fun q => by subst q; revert h; decide
  have h4 : ¬ x = 4 := fun q => by subst q; revert h; decide
  simp only [pd_count, h0, h1, h2, h3, h4, if_false]
def pd_rowx (f : Nat → Int32) (S s w : Int32) : Int32 := if w = 0 then pd_four f S s 1 else if w = 1 then pd_kind (pd_look f S s 0) else if w = 2 then pd_b (pd_event f S s) else pd_look f S s 5
theorem pd_rowx_o {f : Nat → Int32} {S s w : Int32} (h : w.toInt < 0 ∨ 2 < w.toInt) : pd_rowx f S s w = pd_look f S s 5 := by
  have h0 : ¬ w = 0 := fun q => by subst q; revert h; decide
  have h1 : ¬ w = 1 := fun q => by subst q; revert h; decide
  have h2 : ¬ w = 2 := fun q => by subst q; revert h; decide
  simp only [pd_rowx, h0, h1, h2, if_false]
def pd_rowv (f : Nat → Int32) (S s w : Int32) : Int32 := bif decide (w < 0) || !decide (w ≤ 4) then -12 else bif decide (w = 4) || decide (s = -1) then s else bif pd_row f S s then pd_rowx f S s w else -1
def pd_wl (f : Nat → Int32) (S : Int32) (so : Nat → Int32) (ke x : Int32) : Nat → Nat → Int32 → Int32
  | 0, _, a => bif decide (x = 1) then -1 else a
  | m + 1, k, a => bif pd_row f S (hd_sec so ke (nI k)) then pd_wl f S so ke x m (k + 1) a else bif decide (x = 1) then nI k else pd_wl f S so ke x m (k + 1) (a + 1)
section PD
variable (l : Launch) (D : va_G) (tc : Nat → ClassId) (b : Nat)
set_option maxHeartbeats 4000000 in
set_option maxRecDepth 100000 in
theorem c_count_u (rest : am_W) (n : Nat) (mr S wr cu te : Int32) (f g : Nat → Int32) (fi : Int32) (so us : Nat → Int32) (ke ge gr : Int32) (co le ma : Nat → Int32) (en : Int32) (x : Int32)  : cM l D tc b yX4_count cX4_count 2 (some .int) 3 0 0 [.ref 0, .int x] (.inr (4, [.ref 1, .int mr, .ref 3, .ref 5, .ref 8, .int 0]) :: .inr (2, [.int S, .ref 2, .int wr, .int cu, .int te]) :: .inl (0, n, .inl f) :: .inr (1, [.ref 4, .int fi]) :: .inl (0, 64, .inl g) :: .inr (0, [.ref 6, .ref 7, .int ke, .int ge, .int gr]) :: .inl (1, 50, .inl so) :: .inl (2, 64, .inl us) :: .inr (3, [.ref 9, .ref 10, .ref 11, .int en]) :: .inl (0, 2040, .inl co) :: .inl (1, 51, .inl le) :: .inl (1, 51, .inl ma) :: rest)
    (am_is (some (.int (pd_count ke en ge gr (wt_len le en) x))) (.inr (4, [.ref 1, .int mr, .ref 3, .ref 5, .ref 8, .int 0]) :: .inr (2, [.int S, .ref 2, .int wr, .int cu, .int te]) :: .inl (0, n, .inl f) :: .inr (1, [.ref 4, .int fi]) :: .inl (0, 64, .inl g) :: .inr (0, [.ref 6, .ref 7, .int ke, .int ge, .int gr]) :: .inl (1, 50, .inl so) :: .inl (2, 64, .inl us) :: .inr (3, [.ref 9, .ref 10, .ref 11, .int en]) :: .inl (0, 2040, .inl co) :: .inl (1, 51, .inl le) :: .inl (1, 51, .inl ma) :: rest)) := by
  refine am_m (own := RX4) (ini := (false, [])) (L := [some (.ref 0), some (.int x)]) rfl (by decide) (fun h => absurd h (by decide)) rfl (Nat.le_of_ble_eq_true rfl) rfl rfl ?_
  iterate 2 refine am_s am_cls okX4_count rfl ?_
  refine am_b okX4_count rfl (fun h4 => ?_) (fun h4 => ?_)
  · try replace h4 := pd_b0 h4
    refine am_s am_cls okX4_count rfl ?_
    rcases sw_4 x with hx | rfl | rfl | rfl | rfl | rfl
    · refine am_so (tgt := 84) dsw_count rfl hx rfl ?_
      refine am_s am_cls okX4_count rfl ?_
      refine am_ri okX4_count rfl rfl rfl (Nat.le_refl _) (Nat.le_refl _) ?_
      exact ⟨by rw [pd_count_o hx], rfl⟩
    · refine am_si (tgt := 44) dsw_count rfl (by decide) (by decide) rfl rfl ?_
      iterate 3 refine am_s am_cls okX4_count rfl ?_
      refine am_ri okX4_count rfl rfl rfl (Nat.le_refl _) (Nat.le_refl _) ?_
      exact ⟨rfl, rfl⟩
    · refine am_si (tgt := 52) dsw_count rfl (by decide) (by decide) rfl rfl ?_
      iterate 3 refine am_s am_cls okX4_count rfl ?_
      refine am_ri okX4_count rfl rfl rfl (Nat.le_refl _) (Nat.le_refl _) ?_
      exact ⟨rfl, rfl⟩
    · refine am_si (tgt := 60) dsw_count rfl (by decide) (by decide) rfl rfl ?_
      iterate 3 refine am_s am_cls okX4_count rfl ?_
      refine am_ri okX4_count rfl rfl rfl (Nat.le_refl _) (Nat.le_refl _) ?_
      exact ⟨rfl, rfl⟩
    · refine am_si (tgt := 68) dsw_count rfl (by decide) (by decide) rfl rfl ?_
      iterate 3 refine am_s am_cls okX4_count rfl ?_
      refine am_ri okX4_count rfl rfl rfl (Nat.le_refl _) (Nat.le_refl _) ?_
      exact ⟨rfl, rfl⟩
    · refine am_si (tgt := 76) dsw_count rfl (by decide) (by decide) rfl rfl ?_
      iterate 2 refine am_s am_cls okX4_count rfl ?_
      refine am_cV okX4_count rfl (c_openLength l D tc b _ _ _ _ _ _ _ _ _ _ _ _ _) cv_X4_60 coX3_openLength rfl rfl rfl ⟨rfl, rfl, rfl⟩ ⟨Nat.le_refl _, Nat.le_refl _⟩ ?_
      rintro _ _ ⟨rfl, rfl⟩
      refine am_ri okX4_count rfl rfl rfl (Nat.le_refl _) (Nat.le_refl _) ?_
      exact ⟨rfl, rfl⟩
  · exact absurd rfl h4
set_option maxHeartbeats 4000000 in
set_option maxRecDepth 100000 in
theorem c_row_u (rest : am_W) (n : Nat) (mr S wr cu te : Int32) (f g : Nat → Int32) (fi : Int32) (so us : Nat → Int32) (ke ge gr : Int32) (co le ma : Nat → Int32) (en : Int32) (k x : Int32) (hn : pd_sz S n) : cM l D tc b yX4_row cX4_row 4 (some .int) 6 0 0 [.ref 0, .int k, .int x] (.inr (4, [.ref 1, .int mr, .ref 3, .ref 5, .ref 8, .int 0]) :: .inr (2, [.int S, .ref 2, .int wr, .int cu, .int te]) :: .inl (0, n, .inl f) :: .inr (1, [.ref 4, .int fi]) :: .inl (0, 64, .inl g) :: .inr (0, [.ref 6, .ref 7, .int ke, .int ge, .int gr]) :: .inl (1, 50, .inl so) :: .inl (2, 64, .inl us) :: .inr (3, [.ref 9, .ref 10, .ref 11, .int en]) :: .inl (0, 2040, .inl co) :: .inl (1, 51, .inl le) :: .inl (1, 51, .inl ma) :: rest)
    (am_is (some (.int (pd_rowv f S (hd_sec so ke k) x))) (.inr (4, [.ref 1, .int mr, .ref 3, .ref 5, .ref 8, .int 0]) :: .inr (2, [.int S, .ref 2, .int wr, .int cu, .int te]) :: .inl (0, n, .inl f) :: .inr (1, [.ref 4, .int fi]) :: .inl (0, 64, .inl g) :: .inr (0, [.ref 6, .ref 7, .int ke, .int ge, .int gr]) :: .inl (1, 50, .inl so) :: .inl (2, 64, .inl us) :: .inr (3, [.ref 9, .ref 10, .ref 11, .int en]) :: .inl (0, 2040, .inl co) :: .inl (1, 51, .inl le) :: .inl (1, 51, .inl ma) :: rest)) := by
  refine am_m (own := RX4) (ini := (false, [])) (L := [some (.ref 0), some (.int k), some (.int x), none]) rfl (by decide) (fun h => absurd h (by decide)) rfl (Nat.le_of_ble_eq_true rfl) rfl rfl ?_
  iterate 2 refine am_s am_cls okX4_row rfl ?_
  refine am_b okX4_row rfl (fun h4 => ?_) (fun h4 => ?_)
  · try replace h4 := pd_b0 h4
    refine am_s am_cls okX4_row rfl ?_
    refine am_b okX4_row rfl (fun h11 => ?_) (fun h11 => ?_)
    · skip
      refine am_s am_cls okX4_row rfl ?_
      refine am_ri okX4_row rfl rfl rfl (Nat.le_refl _) (Nat.le_refl _) ?_
      exact ⟨by simp [pd_rowv, *], rfl⟩
    · skip
      iterate 2 refine am_s am_cls okX4_row rfl ?_
      refine am_b okX4_row rfl (fun h16 => ?_) (fun h16 => ?_)
      · skip
        iterate 3 refine am_s am_cls okX4_row rfl ?_
        refine am_cV okX4_row rfl (c_sectorOf l D tc b _ _ _ _ _ _ _ _ _ _ _ _) cv_X4_108 coX0_sectorOf rfl rfl rfl ⟨rfl, rfl, rfl⟩ ⟨Nat.le_refl _, Nat.le_refl _⟩ ?_
        rintro _ _ ⟨rfl, rfl⟩
        iterate 3 refine am_s am_cls okX4_row rfl ?_
        refine am_b okX4_row rfl (fun h33 => ?_) (fun h33 => ?_)
        · skip
          refine am_s am_cls okX4_row rfl ?_
          refine am_ri okX4_row rfl rfl rfl (Nat.le_refl _) (Nat.le_refl _) ?_
          exact ⟨by simp [pd_rowv, *], rfl⟩
        · skip
          iterate 2 refine am_s am_cls okX4_row rfl ?_
          refine am_b okX4_row rfl (fun h38 => ?_) (fun h38 => ?_)
          · skip
            refine am_s am_cls okX4_row rfl ?_
            refine am_ri okX4_row rfl rfl rfl (Nat.le_refl _) (Nat.le_refl _) ?_
            exact ⟨by simp [pd_rowv, *], rfl⟩
          · skip
            iterate 3 refine am_s am_cls okX4_row rfl ?_
            refine am_cV okX4_row rfl (c_isRow l D tc b _ _ _ _ _ _ _ _ _ hn) cv_X4_136 coX2_isRow rfl rfl rfl ⟨rfl, rfl, rfl⟩ ⟨Nat.le_refl _, Nat.le_refl _⟩ ?_
            rintro _ _ ⟨rfl, rfl⟩
            refine am_b okX4_row rfl (fun h51 => ?_) (fun h51 => ?_)
            · try replace h51 := pd_b0 h51
              refine am_s am_cls okX4_row rfl ?_
              refine am_ri okX4_row rfl rfl rfl (Nat.le_refl _) (Nat.le_refl _) ?_
              exact ⟨by simp [pd_rowv, *], rfl⟩
            · try replace h51 := pd_b1 h51
              refine am_s am_cls okX4_row rfl ?_
              have hv : pd_rowv f S (hd_sec so ke k) x = pd_rowx f S (hd_sec so ke k) x := by simp [pd_rowv, *]
              rw [hv]
              rcases sw_2 x with hx | rfl | rfl | rfl
              · refine am_so (tgt := 124) dsw_row rfl hx rfl ?_
                iterate 4 refine am_s am_cls okX4_row rfl ?_
                refine am_cV okX4_row rfl (c_look l D tc b _ _ _ _ _ _ _ _ _ _ hn) cv_X4_142 coX2_look rfl rfl rfl ⟨rfl, rfl, rfl⟩ ⟨Nat.le_refl _, Nat.le_refl _⟩ ?_
                rintro _ _ ⟨rfl, rfl⟩
                refine am_ri okX4_row rfl rfl rfl (Nat.le_refl _) (Nat.le_refl _) ?_
                exact ⟨by rw [pd_rowx_o hx], rfl⟩
              · refine am_si (tgt := 84) dsw_row rfl (by decide) (by decide) rfl rfl ?_
                iterate 4 refine am_s am_cls okX4_row rfl ?_
                refine am_cV okX4_row rfl (c_four l D tc b _ _ _ _ _ _ _ _ _ _ hn) cv_X4_139 coX2_fourBytes rfl rfl rfl ⟨rfl, rfl, rfl⟩ ⟨Nat.le_refl _, Nat.le_refl _⟩ ?_
                rintro _ _ ⟨rfl, rfl⟩
                refine am_ri okX4_row rfl rfl rfl (Nat.le_refl _) (Nat.le_refl _) ?_
                exact ⟨rfl, rfl⟩
              · refine am_si (tgt := 94) dsw_row rfl (by decide) (by decide) rfl rfl ?_
                iterate 4 refine am_s am_cls okX4_row rfl ?_
                refine am_cV okX4_row rfl (c_look l D tc b _ _ _ _ _ _ _ _ _ _ hn) cv_X4_142 coX2_look rfl rfl rfl ⟨rfl, rfl, rfl⟩ ⟨Nat.le_refl _, Nat.le_refl _⟩ ?_
                rintro _ _ ⟨rfl, rfl⟩
                refine am_cS okX4_row rfl (c_kindOf l D tc b _ _) cs_X4_145 coX4_kindOf rfl ⟨rfl, rfl, rfl⟩ ⟨Nat.le_refl _, Nat.le_refl _⟩ ?_
                rintro _ _ ⟨rfl, rfl⟩
                refine am_ri okX4_row rfl rfl rfl (Nat.le_refl _) (Nat.le_refl _) ?_
                exact ⟨rfl, rfl⟩
              · refine am_si (tgt := 107) dsw_row rfl (by decide) (by decide) rfl rfl ?_
                iterate 3 refine am_s am_cls okX4_row rfl ?_
                refine am_cV okX4_row rfl (c_isEvent l D tc b _ _ _ _ _ _ _ _ _ hn) cv_X4_148 coX2_isEvent rfl rfl rfl ⟨rfl, rfl, rfl⟩ ⟨Nat.le_refl _, Nat.le_refl _⟩ ?_
                rintro _ _ ⟨rfl, rfl⟩
                refine am_b okX4_row rfl (fun h115 => ?_) (fun h115 => ?_)
                · try replace h115 := pd_b0 h115
                  refine am_s am_cls okX4_row rfl ?_
                  refine am_ri okX4_row rfl rfl rfl (Nat.le_refl _) (Nat.le_refl _) ?_
                  exact ⟨by simp [pd_rowx, h115, pd_bt, pd_bf], rfl⟩
                · try replace h115 := pd_b1 h115
                  iterate 2 refine am_s am_cls okX4_row rfl ?_
                  refine am_ri okX4_row rfl rfl rfl (Nat.le_refl _) (Nat.le_refl _) ?_
                  exact ⟨by simp [pd_rowx, h115, pd_bt, pd_bf], rfl⟩
      · skip
        refine am_s am_cls okX4_row rfl ?_
        refine am_ri okX4_row rfl rfl rfl (Nat.le_refl _) (Nat.le_refl _) ?_
        exact ⟨by simp [pd_rowv, *], rfl⟩
  · exact absurd rfl h4
set_option maxHeartbeats 4000000 in
set_option maxRecDepth 100000 in
theorem c_wrong_l (rest : am_W) (n : Nat) (mr S wr cu te : Int32) (f g : Nat → Int32) (fi : Int32) (so us : Nat → Int32) (ke ge gr : Int32) (co le ma : Nat → Int32) (en : Int32) (x : Int32) (hn : pd_sz S n) (m : Nat) : ∀ (k : Nat) (a : Int32), k + m = ke.toNatClampNeg → am_R lw_tbl vwCl l D tc b RX4 cX4_wrong 4 (some .int) (false, []) (am_rm 6 0 0) 0 0 (am_is (some (.int (pd_wl f S so ke x m k a))) (.inr (4, [.ref 1, .int mr, .ref 3, .ref 5, .ref 8, .int 0]) :: .inr (2, [.int S, .ref 2, .int wr, .int cu, .int te]) :: .inl (0, n, .inl f) :: .inr (1, [.ref 4, .int fi]) :: .inl (0, 64, .inl g) :: .inr (0, [.ref 6, .ref 7, .int ke, .int ge, .int gr]) :: .inl (1, 50, .inl so) :: .inl (2, 64, .inl us) :: .inr (3, [.ref 9, .ref 10, .ref 11, .int en]) :: .inl (0, 2040, .inl co) :: .inl (1, 51, .inl le) :: .inl (1, 51, .inl ma) :: rest)) 0 0 26 [some (.ref 0), some (.int x), some (.int a), some (.int (nI k))] [] (.inr (4, [.ref 1, .int mr, .ref 3, .ref 5, .ref 8, .int 0]) :: .inr (2, [.int S, .ref 2, .int wr, .int cu, .int te]) :: .inl (0, n, .inl f) :: .inr (1, [.ref 4, .int fi]) :: .inl (0, 64, .inl g) :: .inr (0, [.ref 6, .ref 7, .int ke, .int ge, .int gr]) :: .inl (1, 50, .inl so) :: .inl (2, 64, .inl us) :: .inr (3, [.ref 9, .ref 10, .ref 11, .int en]) :: .inl (0, 2040, .inl co) :: .inl (1, 51, .inl le) :: .inl (1, 51, .inl ma) :: rest) := by
  induction m with
  | zero =>
    intro k a hk
    have hk : k = ke.toNatClampNeg := by omega
    subst hk
    iterate 4 refine am_s am_cls okX4_wrong rfl ?_
    refine am_b okX4_wrong rfl (fun h34 => ?_) (fun h34 => ?_)
    · skip
      iterate 2 refine am_s am_cls okX4_wrong rfl ?_
      refine am_b okX4_wrong rfl (fun h73 => ?_) (fun h73 => ?_)
      · skip
        iterate 2 refine am_s am_cls okX4_wrong rfl ?_
        refine am_ri okX4_wrong rfl rfl rfl (Nat.le_refl _) (Nat.le_refl _) ?_
        exact ⟨by simp [pd_wl, *], rfl⟩
      · skip
        refine am_s am_cls okX4_wrong rfl ?_
        refine am_ri okX4_wrong rfl rfl rfl (Nat.le_refl _) (Nat.le_refl _) ?_
        exact ⟨by simp [pd_wl, *], rfl⟩
    · exact absurd (cl_ge (Nat.le_refl _) (cl_b _)) h34
  | succ m ih =>
    intro k a hk
    iterate 4 refine am_s am_cls okX4_wrong rfl ?_
    refine am_b okX4_wrong rfl (fun h34 => ?_) (fun h34 => ?_)
    · exact absurd h34 (cl_lt (by omega))
    · skip
      iterate 5 refine am_s am_cls okX4_wrong rfl ?_
      refine am_cV okX4_wrong rfl (c_sectorOf l D tc b _ _ _ _ _ _ _ _ _ _ _ _) cv_X4_108 coX0_sectorOf rfl rfl rfl ⟨rfl, rfl, rfl⟩ ⟨Nat.le_refl _, Nat.le_refl _⟩ ?_
      rintro _ _ ⟨rfl, rfl⟩
      refine am_cV okX4_wrong rfl (c_isRow l D tc b _ _ _ _ _ _ _ _ _ hn) cv_X4_136 coX2_isRow rfl rfl rfl ⟨rfl, rfl, rfl⟩ ⟨Nat.le_refl _, Nat.le_refl _⟩ ?_
      rintro _ _ ⟨rfl, rfl⟩
      refine am_b okX4_wrong rfl (fun h52 => ?_) (fun h52 => ?_)
      · try replace h52 := pd_b0 h52
        iterate 2 refine am_s am_cls okX4_wrong rfl ?_
        refine am_b okX4_wrong rfl (fun h57 => ?_) (fun h57 => ?_)
        · skip
          refine am_s am_cls okX4_wrong rfl ?_
          refine am_ri okX4_wrong rfl rfl rfl (Nat.le_refl _) (Nat.le_refl _) ?_
          exact ⟨by simp [pd_wl, *], rfl⟩
        · skip
          iterate 3 refine am_s am_cls okX4_wrong rfl ?_
          have r := ih (k + 1) (a + 1) (by omega)
          rw [nI_succ k] at r
          rw [show pd_wl f S so ke x (m + 1) k a = pd_wl f S so ke x m (k + 1) (a + 1) from by simp [pd_wl, *]]
          exact r
      · try replace h52 := pd_b1 h52
        iterate 2 refine am_s am_cls okX4_wrong rfl ?_
        have r := ih (k + 1) (a) (by omega)
        rw [nI_succ k] at r
        rw [show pd_wl f S so ke x (m + 1) k a = pd_wl f S so ke x m (k + 1) (a) from by simp [pd_wl, *]]
        exact r
set_option maxHeartbeats 4000000 in
set_option maxRecDepth 100000 in
theorem c_wrong_u (rest : am_W) (n : Nat) (mr S wr cu te : Int32) (f g : Nat → Int32) (fi : Int32) (so us : Nat → Int32) (ke ge gr : Int32) (co le ma : Nat → Int32) (en : Int32) (x : Int32) (hn : pd_sz S n) : cM l D tc b yX4_wrong cX4_wrong 4 (some .int) 6 0 0 [.ref 0, .int x] (.inr (4, [.ref 1, .int mr, .ref 3, .ref 5, .ref 8, .int 0]) :: .inr (2, [.int S, .ref 2, .int wr, .int cu, .int te]) :: .inl (0, n, .inl f) :: .inr (1, [.ref 4, .int fi]) :: .inl (0, 64, .inl g) :: .inr (0, [.ref 6, .ref 7, .int ke, .int ge, .int gr]) :: .inl (1, 50, .inl so) :: .inl (2, 64, .inl us) :: .inr (3, [.ref 9, .ref 10, .ref 11, .int en]) :: .inl (0, 2040, .inl co) :: .inl (1, 51, .inl le) :: .inl (1, 51, .inl ma) :: rest)
    (am_is (some (.int (bif decide (x < 0) || !decide (x ≤ 1) then -12 else pd_wl f S so ke x ke.toNatClampNeg 0 0))) (.inr (4, [.ref 1, .int mr, .ref 3, .ref 5, .ref 8, .int 0]) :: .inr (2, [.int S, .ref 2, .int wr, .int cu, .int te]) :: .inl (0, n, .inl f) :: .inr (1, [.ref 4, .int fi]) :: .inl (0, 64, .inl g) :: .inr (0, [.ref 6, .ref 7, .int ke, .int ge, .int gr]) :: .inl (1, 50, .inl so) :: .inl (2, 64, .inl us) :: .inr (3, [.ref 9, .ref 10, .ref 11, .int en]) :: .inl (0, 2040, .inl co) :: .inl (1, 51, .inl le) :: .inl (1, 51, .inl ma) :: rest)) := by
  refine am_m (own := RX4) (ini := (false, [])) (L := [some (.ref 0), some (.int x), none, none]) rfl (by decide) (fun h => absurd h (by decide)) rfl (Nat.le_of_ble_eq_true rfl) rfl rfl ?_
  iterate 2 refine am_s am_cls okX4_wrong rfl ?_
  refine am_b okX4_wrong rfl (fun h4 => ?_) (fun h4 => ?_)
  · try replace h4 := pd_b0 h4
    refine am_s am_cls okX4_wrong rfl ?_
    refine am_b okX4_wrong rfl (fun h11 => ?_) (fun h11 => ?_)
    · skip
      refine am_s am_cls okX4_wrong rfl ?_
      refine am_ri okX4_wrong rfl rfl rfl (Nat.le_refl _) (Nat.le_refl _) ?_
      exact ⟨by simp [*], rfl⟩
    · skip
      iterate 2 refine am_s am_cls okX4_wrong rfl ?_
      refine am_b okX4_wrong rfl (fun h16 => ?_) (fun h16 => ?_)
      · skip
        iterate 4 refine am_s am_cls okX4_wrong rfl ?_
        rw [show (bif decide (x < 0) || !decide (x ≤ 1) then (-12 : Int32) else pd_wl f S so ke x ke.toNatClampNeg 0 0) = pd_wl f S so ke x ke.toNatClampNeg 0 0 from by simp [*]]
        have r := c_wrong_l l D tc b rest n mr S wr cu te f g fi so us ke ge gr co le ma en x hn ke.toNatClampNeg 0 0 (Nat.zero_add _)
        rw [nI_0] at r
        exact r
      · skip
        refine am_s am_cls okX4_wrong rfl ?_
        refine am_ri okX4_wrong rfl rfl rfl (Nat.le_refl _) (Nat.le_refl _) ?_
        exact ⟨by simp [*], rfl⟩
  · exact absurd rfl h4
end PD
