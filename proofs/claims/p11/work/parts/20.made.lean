/-! ===== constructors ===== -/
abbrev pd_S (x : Int32) : Int32 := if 16 < (if x < 64 then x else 64) then (if x < 64 then x else 64) else 16
theorem pd_S_nat (x : Int32) : ∃ a : Nat, pd_S x = nI a ∧ 16 ≤ a ∧ a ≤ 64 := by
  have e16 : (16 : Int32).toInt = 16 := rfl
  have e64 : (64 : Int32).toInt = 64 := rfl
  unfold pd_S
  by_cases h1 : x < 64
  · rw [if_pos h1]
    by_cases h2 : 16 < x
    · rw [if_pos h2]
      rw [Int32.lt_iff_toInt_lt] at h1 h2
      obtain ⟨j, hj, e⟩ := nI_of2 (M := 64) (n := 64) rfl (x := x) (by rw [Int32.lt_iff_toInt_lt]; have : (0 : Int32).toInt = 0 := rfl; omega) (by rw [Int32.le_iff_toInt_le]; omega)
      refine ⟨j, e, ?_, hj⟩
      subst e
      rw [nI_toInt (by omega)] at h2
      omega
    · rw [if_neg h2]; exact ⟨16, rfl, by decide, by decide⟩
  · rw [if_neg h1, if_pos (by decide)]; exact ⟨64, rfl, by decide, by decide⟩
theorem pd_64 (a : Nat) : nI a * 64 = nI (64 * a) := by rw [show (64 : Int32) = nI 64 from rfl, pk_mul, Nat.mul_comm]
theorem pd_S_n {x : Int32} {a : Nat} (ha : pd_S x = nI a) (h : a ≤ 64) : ¬ pd_S x * 64 < 0 ∧ (pd_S x * 64).toNatClampNeg = 64 * a := by
  rw [ha, pd_64]
  exact ⟨nI_pos (by omega), nI_clamp (by omega)⟩
section PD
variable (l : Launch) (D : va_G) (tc : Nat → ClassId) (b : Nat)
set_option maxHeartbeats 4000000 in
set_option maxRecDepth 100000 in
theorem c_image0 (c0 c1 c2 : am_E)  : cM l D tc b yX1_init cX1_init 1 none 1 1 64 [.ref 3] [c0, c1, c2, .inr (1, [.null, .int 0])]
    (am_is none [c0, c1, c2, .inr (1, [.ref 4, .int 0]), .inl (0, 64, .inl (fun _ => 0))]) := by
  refine am_m (own := RX1) (ini := (true, [])) (L := [some (.ref 3)]) rfl (by decide) (fun h => rfl) rfl (Nat.le_of_ble_eq_true rfl) rfl rfl ?_
  refine am_s am_cls okX1_init rfl ?_
  refine am_oi okX1_init rfl oi_X1_3 rfl ⟨rfl, rfl⟩ ?_
  iterate 2 refine am_s am_cls okX1_init rfl ?_
  refine am_na okX1_init rfl ac_byte rfl rfl (by decide) rfl (by decide) rfl rfl ⟨by decide, by decide⟩ ?_
  simp only [List.cons_append, List.nil_append, am_at, am_a0]
  refine am_pF am_cls okX1_init rfl rfl rfl (Or.inr ⟨rfl, _, rfl⟩) rfl rfl fo_X1_9 ?_
  refine am_rv okX1_init rfl rfl rfl (Nat.le_refl _) (Nat.le_refl _) ?_
  exact ⟨rfl, rfl⟩
set_option maxHeartbeats 4000000 in
set_option maxRecDepth 100000 in
theorem c_head0 (c0 c1 c2 c3 c4 : am_E)  : cM l D tc b yX0_init cX0_init 1 none 1 2 114 [.ref 5] [c0, c1, c2, c3, c4, .inr (0, [.null, .null, .int 0, .int 0, .int 0])]
    (am_is none [c0, c1, c2, c3, c4, .inr (0, [.ref 6, .ref 7, .int 0, .int 0, .int 0]), .inl (1, 50, .inl (fun _ => 0)), .inl (2, 64, .inl (fun _ => 0))]) := by
  refine am_m (own := RX0) (ini := (true, [])) (L := [some (.ref 5)]) rfl (by decide) (fun h => rfl) rfl (Nat.le_of_ble_eq_true rfl) rfl rfl ?_
  refine am_s am_cls okX0_init rfl ?_
  refine am_oi okX0_init rfl oi_X0_3 rfl ⟨rfl, rfl⟩ ?_
  iterate 2 refine am_s am_cls okX0_init rfl ?_
  refine am_na okX0_init rfl ac_int rfl rfl (by decide) rfl (by decide) rfl rfl ⟨by decide, by decide⟩ ?_
  simp only [List.cons_append, List.nil_append, am_at, am_a0]
  refine am_pF am_cls okX0_init rfl rfl rfl (Or.inr ⟨rfl, _, rfl⟩) rfl rfl fo_X0_9 ?_
  iterate 2 refine am_s am_cls okX0_init rfl ?_
  refine am_na okX0_init rfl ac_boolean rfl rfl (by decide) rfl (by decide) rfl rfl ⟨by decide, by decide⟩ ?_
  simp only [List.cons_append, List.nil_append, am_at, am_a0]
  refine am_pF am_cls okX0_init rfl rfl rfl (Or.inr ⟨rfl, _, rfl⟩) rfl rfl fo_X0_15 ?_
  refine am_rv okX0_init rfl rfl rfl (Nat.le_refl _) (Nat.le_refl _) ?_
  exact ⟨rfl, rfl⟩
set_option maxHeartbeats 4000000 in
set_option maxRecDepth 100000 in
theorem c_wait0 (c0 c1 c2 c3 c4 c5 c6 c7 : am_E)  : cM l D tc b yX3_init cX3_init 1 none 1 3 2142 [.ref 8] [c0, c1, c2, c3, c4, c5, c6, c7, .inr (3, [.null, .null, .null, .int 0])]
    (am_is none [c0, c1, c2, c3, c4, c5, c6, c7, .inr (3, [.ref 9, .ref 10, .ref 11, .int 0]), .inl (0, 2040, .inl (fun _ => 0)), .inl (1, 51, .inl (fun _ => 0)), .inl (1, 51, .inl (fun _ => 0))]) := by
  refine am_m (own := RX3) (ini := (true, [])) (L := [some (.ref 8)]) rfl (by decide) (fun h => rfl) rfl (Nat.le_of_ble_eq_true rfl) rfl rfl ?_
  refine am_s am_cls okX3_init rfl ?_
  refine am_oi okX3_init rfl oi_X3_3 rfl ⟨rfl, rfl⟩ ?_
  iterate 2 refine am_s am_cls okX3_init rfl ?_
  refine am_na okX3_init rfl ac_byte rfl rfl (by decide) rfl (by decide) rfl rfl ⟨by decide, by decide⟩ ?_
  simp only [List.cons_append, List.nil_append, am_at, am_a0]
  refine am_pF am_cls okX3_init rfl rfl rfl (Or.inr ⟨rfl, _, rfl⟩) rfl rfl fo_X3_9 ?_
  iterate 2 refine am_s am_cls okX3_init rfl ?_
  refine am_na okX3_init rfl ac_int rfl rfl (by decide) rfl (by decide) rfl rfl ⟨by decide, by decide⟩ ?_
  simp only [List.cons_append, List.nil_append, am_at, am_a0]
  refine am_pF am_cls okX3_init rfl rfl rfl (Or.inr ⟨rfl, _, rfl⟩) rfl rfl fo_X3_15 ?_
  iterate 2 refine am_s am_cls okX3_init rfl ?_
  refine am_na okX3_init rfl ac_int rfl rfl (by decide) rfl (by decide) rfl rfl ⟨by decide, by decide⟩ ?_
  simp only [List.cons_append, List.nil_append, am_at, am_a0]
  refine am_pF am_cls okX3_init rfl rfl rfl (Or.inr ⟨rfl, _, rfl⟩) rfl rfl fo_X3_19 ?_
  refine am_rv okX3_init rfl rfl rfl (Nat.le_refl _) (Nat.le_refl _) ?_
  exact ⟨rfl, rfl⟩
set_option maxHeartbeats 4000000 in
set_option maxRecDepth 100000 in
theorem c_plat0 (c0 : am_E) (x : Int32) (a : Nat) (ha : pd_S x = nI a) (h1 : 16 ≤ a) (h2 : a ≤ 64) : cM l D tc b yX2_init cX2_init 2 none 1 1 4096 [.ref 1, .int x] [c0, .inr (2, [.int 0, .null, .int 0, .int 0, .int 0])]
    (am_is none [c0, .inr (2, [.int (pd_S x), .ref 2, .int 0, .int (-1), .int 0]), .inl (0, 64 * a, .inl (fun _ => 0))]) := by
  refine am_m (own := RX2) (ini := (true, [])) (L := [some (.ref 1), some (.int x)]) rfl (by decide) (fun h => rfl) rfl (Nat.le_of_ble_eq_true rfl) rfl rfl ?_
  refine am_s am_cls okX2_init rfl ?_
  refine am_oi okX2_init rfl oi_X2_3 rfl ⟨rfl, rfl⟩ ?_
  iterate 7 refine am_s am_cls okX2_init rfl ?_
  refine am_mn okX2_init rfl mm_X2_15 rfl ⟨rfl, rfl⟩ ⟨by decide, by decide⟩ ?_
  refine am_mx okX2_init rfl mm_X2_21 rfl ⟨rfl, rfl⟩ ⟨by decide, by decide⟩ ?_
  refine am_pF am_cls okX2_init rfl rfl rfl (Or.inl ⟨rfl, _, rfl⟩) rfl rfl fo_X2_24 ?_
  iterate 5 refine am_s am_cls okX2_init rfl ?_
  refine am_na okX2_init rfl ac_byte rfl rfl (pd_S_n ha h2).1 (pd_S_n ha h2).2 (by omega) rfl rfl ⟨by decide, by show 0 + 64 * a ≤ 4096; omega⟩ ?_
  simp only [List.cons_append, List.nil_append, am_at, am_a0]
  refine am_pF am_cls okX2_init rfl rfl rfl (Or.inr ⟨rfl, _, rfl⟩) rfl rfl fo_X2_27 ?_
  refine am_rv okX2_init rfl rfl rfl (Nat.le_refl _) (by omega) ?_
  exact ⟨rfl, rfl⟩
set_option maxHeartbeats 4000000 in
set_option maxRecDepth 100000 in
theorem c_disk0 (x : Int32) (a : Nat) (ha : pd_S x = nI a) (h1 : 16 ≤ a) (h2 : a ≤ 64) : cM l D tc b yX4_init cX4_init 2 none 2 11 6432 [.ref 0, .int x] [.inr (4, [.null, .int 0, .null, .null, .null, .int 0])]
    (am_is none [.inr (4, [.ref 1, .int (if 50 < pd_S x - 2 then 50 else pd_S x - 2), .ref 3, .ref 5, .ref 8, .int 0]), .inr (2, [.int (pd_S x), .ref 2, .int 0, .int (-1), .int 0]), .inl (0, 64 * a, .inl (fun _ => 0)), .inr (1, [.ref 4, .int 0]), .inl (0, 64, .inl (fun _ => 0)), .inr (0, [.ref 6, .ref 7, .int 0, .int 0, .int 0]), .inl (1, 50, .inl (fun _ => 0)), .inl (2, 64, .inl (fun _ => 0)), .inr (3, [.ref 9, .ref 10, .ref 11, .int 0]), .inl (0, 2040, .inl (fun _ => 0)), .inl (1, 51, .inl (fun _ => 0)), .inl (1, 51, .inl (fun _ => 0))]) := by
  refine am_m (own := RX4) (ini := (true, [])) (L := [some (.ref 0), some (.int x)]) rfl (by decide) (fun h => rfl) rfl (Nat.le_of_ble_eq_true rfl) rfl rfl ?_
  refine am_s am_cls okX4_init rfl ?_
  refine am_oi okX4_init rfl oi_X4_3 rfl ⟨rfl, rfl⟩ ?_
  refine am_s am_cls okX4_init rfl ?_
  refine am_nw am_cls okX4_init rfl nw_X4_9 rfl rfl rfl ⟨by decide, by decide⟩ ?_
  simp only [List.cons_append, List.nil_append]
  iterate 2 refine am_s am_cls okX4_init rfl ?_
  refine am_cI okX4_init rfl (c_plat0 l D tc b _ _ a ha h1 h2) ci_X4_11 coX2_init rfl ⟨rfl, rfl, rfl⟩ ⟨by decide, by decide⟩ ?_
  rintro _ _ ⟨rfl, rfl⟩
  refine am_pF am_cls okX4_init rfl rfl rfl (Or.inr ⟨rfl, _, rfl⟩) rfl rfl fo_X4_14 ?_
  iterate 7 refine am_s am_cls okX4_init rfl ?_
  refine am_mn okX4_init rfl mm_X4_22 rfl ⟨rfl, rfl⟩ ⟨by decide, by decide⟩ ?_
  refine am_pF am_cls okX4_init rfl rfl rfl (Or.inl ⟨rfl, _, rfl⟩) rfl rfl fo_X4_28 ?_
  refine am_s am_cls okX4_init rfl ?_
  refine am_nw am_cls okX4_init rfl nw_X4_31 rfl rfl rfl ⟨by decide, by decide⟩ ?_
  simp only [List.cons_append, List.nil_append]
  refine am_s am_cls okX4_init rfl ?_
  refine am_cI okX4_init rfl (c_image0 l D tc b _ _ _) ci_X4_33 coX1_init rfl ⟨rfl, rfl, rfl⟩ ⟨by decide, by decide⟩ ?_
  rintro _ _ ⟨rfl, rfl⟩
  refine am_pF am_cls okX4_init rfl rfl rfl (Or.inr ⟨rfl, _, rfl⟩) rfl rfl fo_X4_34 ?_
  refine am_s am_cls okX4_init rfl ?_
  refine am_nw am_cls okX4_init rfl nw_X4_38 rfl rfl rfl ⟨by decide, by decide⟩ ?_
  simp only [List.cons_append, List.nil_append]
  refine am_s am_cls okX4_init rfl ?_
  refine am_cI okX4_init rfl (c_head0 l D tc b _ _ _ _ _) ci_X4_40 coX0_init rfl ⟨rfl, rfl, rfl⟩ ⟨by decide, by decide⟩ ?_
  rintro _ _ ⟨rfl, rfl⟩
  refine am_pF am_cls okX4_init rfl rfl rfl (Or.inr ⟨rfl, _, rfl⟩) rfl rfl fo_X4_41 ?_
  refine am_s am_cls okX4_init rfl ?_
  refine am_nw am_cls okX4_init rfl nw_X4_45 rfl rfl rfl ⟨by decide, by decide⟩ ?_
  simp only [List.cons_append, List.nil_append]
  refine am_s am_cls okX4_init rfl ?_
  refine am_cI okX4_init rfl (c_wait0 l D tc b _ _ _ _ _ _ _ _) ci_X4_47 coX3_init rfl ⟨rfl, rfl, rfl⟩ ⟨by decide, by decide⟩ ?_
  rintro _ _ ⟨rfl, rfl⟩
  refine am_pF am_cls okX4_init rfl rfl rfl (Or.inr ⟨rfl, _, rfl⟩) rfl rfl fo_X4_48 ?_
  refine am_rv okX4_init rfl rfl rfl (by decide) (by decide) ?_
  exact ⟨rfl, rfl⟩
end PD
