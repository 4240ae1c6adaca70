/-! ===== printed by wip/pd_ref.py: the reference at its beginning ===== -/
section PD
variable (l : Launch) (D : va_G) (tc : Nat → ClassId) (b : Nat)
set_option maxHeartbeats 4000000 in
set_option maxRecDepth 100000 in
theorem r_init (c0 c1 c2 c3 c4 c5 c6 c7 c8 c9 c10 c11 : am_E) (x : Int32)  : cM l D tc b yX5_init cX5_init 2 none 1 8 6400 [.ref 12, .int x] (c0 :: c1 :: c2 :: c3 :: c4 :: c5 :: c6 :: c7 :: c8 :: c9 :: c10 :: c11 :: [.inr (5, [.int 0, .int 0, .null, .int 0, .int 0, .int 0, .int 0, .int 0, .int 0, .int 0, .int 0, .null, .int 0, .int 0, .null, .null, .null, .null, .int 0, .null, .null])])
    (am_is none (c0 :: c1 :: c2 :: c3 :: c4 :: c5 :: c6 :: c7 :: c8 :: c9 :: c10 :: c11 :: .inr (5, [.int 0, .int (rf_S x), .ref 13, .int 0, .int 0, .int 0, .int 0, .int 0, .int 0, .int 0, .int 0, .ref 14, .int 1, .int 0, .ref 15, .ref 16, .ref 17, .ref 18, .int 0, .ref 19, .ref 20]) :: .inl (1, 4096, .inl (fun _ => 0)) :: .inl (1, 50, .inl (fun _ => 0)) :: .inl (1, 50, .inl (fun _ => 0)) :: .inl (1, 50, .inl (fun _ => 0)) :: .inl (1, 50, .inl (fun _ => 0)) :: .inl (1, 2000, .inl (fun _ => 0)) :: .inl (1, 40, .inl (fun _ => 0)) :: .inl (1, 64, .inl (fun _ => 0)) :: [])) := by
  refine am_m (own := RX5) (ini := (true, [])) (L := [some (.ref 12), some (.int x)]) rfl (by decide) (fun h => rfl) rfl (Nat.le_of_ble_eq_true rfl) rfl rfl ?_
  refine am_s am_cls okX5_init rfl ?_
  refine am_oi okX5_init rfl oi_X5_1 rfl ⟨rfl, rfl⟩ ?_
  iterate 2 refine am_s am_cls okX5_init rfl ?_
  refine am_na okX5_init rfl ac_int rfl rfl (by decide) rfl (by decide) rfl rfl ⟨by decide, by decide⟩ ?_
  simp only [List.cons_append, List.nil_append, am_at, am_a0]
  refine am_pF am_cls okX5_init rfl rfl rfl (Or.inr ⟨rfl, _, rfl⟩) rfl rfl fo_X5_7 ?_
  iterate 2 refine am_s am_cls okX5_init rfl ?_
  refine am_na okX5_init rfl ac_int rfl rfl (by decide) rfl (by decide) rfl rfl ⟨by decide, by decide⟩ ?_
  simp only [List.cons_append, List.nil_append, am_at, am_a0]
  refine am_pF am_cls okX5_init rfl rfl rfl (Or.inr ⟨rfl, _, rfl⟩) rfl rfl fo_X5_13 ?_
  iterate 5 refine am_s am_cls okX5_init rfl ?_
  refine am_na okX5_init rfl ac_int rfl rfl (by decide) rfl (by decide) rfl rfl ⟨by decide, by decide⟩ ?_
  simp only [List.cons_append, List.nil_append, am_at, am_a0]
  refine am_pF am_cls okX5_init rfl rfl rfl (Or.inr ⟨rfl, _, rfl⟩) rfl rfl fo_X5_20 ?_
  iterate 2 refine am_s am_cls okX5_init rfl ?_
  refine am_na okX5_init rfl ac_int rfl rfl (by decide) rfl (by decide) rfl rfl ⟨by decide, by decide⟩ ?_
  simp only [List.cons_append, List.nil_append, am_at, am_a0]
  refine am_pF am_cls okX5_init rfl rfl rfl (Or.inr ⟨rfl, _, rfl⟩) rfl rfl fo_X5_23 ?_
  iterate 2 refine am_s am_cls okX5_init rfl ?_
  refine am_na okX5_init rfl ac_int rfl rfl (by decide) rfl (by decide) rfl rfl ⟨by decide, by decide⟩ ?_
  simp only [List.cons_append, List.nil_append, am_at, am_a0]
  refine am_pF am_cls okX5_init rfl rfl rfl (Or.inr ⟨rfl, _, rfl⟩) rfl rfl fo_X5_26 ?_
  iterate 2 refine am_s am_cls okX5_init rfl ?_
  refine am_na okX5_init rfl ac_int rfl rfl (by decide) rfl (by decide) rfl rfl ⟨by decide, by decide⟩ ?_
  simp only [List.cons_append, List.nil_append, am_at, am_a0]
  refine am_pF am_cls okX5_init rfl rfl rfl (Or.inr ⟨rfl, _, rfl⟩) rfl rfl fo_X5_29 ?_
  iterate 2 refine am_s am_cls okX5_init rfl ?_
  refine am_na okX5_init rfl ac_int rfl rfl (by decide) rfl (by decide) rfl rfl ⟨by decide, by decide⟩ ?_
  simp only [List.cons_append, List.nil_append, am_at, am_a0]
  refine am_pF am_cls okX5_init rfl rfl rfl (Or.inr ⟨rfl, _, rfl⟩) rfl rfl fo_X5_32 ?_
  iterate 2 refine am_s am_cls okX5_init rfl ?_
  refine am_na okX5_init rfl ac_int rfl rfl (by decide) rfl (by decide) rfl rfl ⟨by decide, by decide⟩ ?_
  simp only [List.cons_append, List.nil_append, am_at, am_a0]
  refine am_pF am_cls okX5_init rfl rfl rfl (Or.inr ⟨rfl, _, rfl⟩) rfl rfl fo_X5_35 ?_
  iterate 3 refine am_s am_cls okX5_init rfl ?_
  refine am_b okX5_init rfl (fun h79 => ?_) (fun h79 => ?_)
  · skip
    iterate 2 refine am_s am_cls okX5_init rfl ?_
    refine am_b okX5_init rfl (fun h90 => ?_) (fun h90 => ?_)
    · skip
      refine am_s am_cls okX5_init rfl ?_
      refine am_pF am_cls okX5_init rfl rfl rfl (Or.inl ⟨rfl, _, rfl⟩) rfl rfl fo_X5_38 ?_
      refine am_rv okX5_init rfl rfl rfl (Nat.le_refl _) (Nat.le_refl _) ?_
      exact ⟨rfl, by simp [rf_S, *]⟩
    · skip
      iterate 2 refine am_s am_cls okX5_init rfl ?_
      refine am_pF am_cls okX5_init rfl rfl rfl (Or.inl ⟨rfl, _, rfl⟩) rfl rfl fo_X5_38 ?_
      refine am_rv okX5_init rfl rfl rfl (Nat.le_refl _) (Nat.le_refl _) ?_
      exact ⟨rfl, by simp [rf_S, *]⟩
  · skip
    iterate 2 refine am_s am_cls okX5_init rfl ?_
    refine am_pF am_cls okX5_init rfl rfl rfl (Or.inl ⟨rfl, _, rfl⟩) rfl rfl fo_X5_38 ?_
    refine am_rv okX5_init rfl rfl rfl (Nat.le_refl _) (Nat.le_refl _) ?_
    exact ⟨rfl, by simp [rf_S, *]⟩
set_option maxHeartbeats 4000000 in
set_option maxRecDepth 100000 in
theorem r_end_f (c0 c1 c2 c3 c4 c5 c6 c7 c8 c9 c10 c11 : am_E) (rest : am_W) (S : Int32) (kd ev : Int32) (hr : rf_room S 0 0 ev = true) : cM l D tc b yX5_end cX5_end 5 (some .int) 2 0 0 [.ref 12, .int kd, .int ev] (c0 :: c1 :: c2 :: c3 :: c4 :: c5 :: c6 :: c7 :: c8 :: c9 :: c10 :: c11 :: .inr (5, [.int 0, .int S, .ref 13, .int 0, .int 0, .int 0, .int 0, .int 0, .int 0, .int 0, .int 0, .ref 14, .int 1, .int 0, .ref 15, .ref 16, .ref 17, .ref 18, .int 0, .ref 19, .ref 20]) :: .inl (1, 4096, .inl (fun _ => 0)) :: .inl (1, 50, .inl (fun _ => 0)) :: .inl (1, 50, .inl (fun _ => 0)) :: .inl (1, 50, .inl (fun _ => 0)) :: .inl (1, 50, .inl (fun _ => 0)) :: .inl (1, 2000, .inl (fun _ => 0)) :: .inl (1, 40, .inl (fun _ => 0)) :: .inl (1, 64, .inl (fun _ => 0)) :: rest)
    (fun v w => ((kd < 0 ∨ ¬ kd ≤ 9) ∧ am_is (some (.int (-12))) (c0 :: c1 :: c2 :: c3 :: c4 :: c5 :: c6 :: c7 :: c8 :: c9 :: c10 :: c11 :: .inr (5, [.int 0, .int S, .ref 13, .int 0, .int 0, .int 0, .int 0, .int 0, .int 0, .int 0, .int 0, .ref 14, .int 1, .int 0, .ref 15, .ref 16, .ref 17, .ref 18, .int 0, .ref 19, .ref 20]) :: .inl (1, 4096, .inl (fun _ => 0)) :: .inl (1, 50, .inl (fun _ => 0)) :: .inl (1, 50, .inl (fun _ => 0)) :: .inl (1, 50, .inl (fun _ => 0)) :: .inl (1, 50, .inl (fun _ => 0)) :: .inl (1, 2000, .inl (fun _ => 0)) :: .inl (1, 40, .inl (fun _ => 0)) :: .inl (1, 64, .inl (fun _ => 0)) :: rest) v w) ∨ ((¬ kd < 0 ∧ kd ≤ 9) ∧ am_is (some (.int (1 + 1 - 1))) (c0 :: c1 :: c2 :: c3 :: c4 :: c5 :: c6 :: c7 :: c8 :: c9 :: c10 :: c11 :: .inr (5, [.int 0, .int S, .ref 13, .int 0, .int 0, .int 0, .int 0, .int 0, .int 0, .int 0, .int 0, .ref 14, .int (1 + 1), .int (0 + 1), .ref 15, .ref 16, .ref 17, .ref 18, .int 0, .ref 19, .ref 20]) :: .inl (1, 4096, .inl (fun _ => 0)) :: .inl (1, 50, .inl (fun _ => 0)) :: .inl (1, 50, .inl (upd (fun _ => 0) (0 : Int32).toNatClampNeg (kd + 1 + (if ev = 0 then 0 else 16)))) :: .inl (1, 50, .inl (upd (fun _ => 0) (0 : Int32).toNatClampNeg 1)) :: .inl (1, 50, .inl (upd (fun _ => 0) (0 : Int32).toNatClampNeg 0)) :: .inl (1, 2000, .inl (fun _ => 0)) :: .inl (1, 40, .inl (fun _ => 0)) :: .inl (1, 64, .inl (fun _ => 0)) :: rest) v w)) := by
  refine am_m (own := RX5) (ini := (false, [])) (L := [some (.ref 12), some (.int kd), some (.int ev), none, none]) rfl (by decide) (fun h => absurd h (by decide)) rfl (Nat.le_of_ble_eq_true rfl) rfl rfl ?_
  iterate 5 refine am_s am_cls okX5_end rfl ?_
  refine am_b okX5_end rfl (fun h9 => ?_) (fun h9 => ?_)
  · try replace h9 := pd_b0 h9
    refine am_s am_cls okX5_end rfl ?_
    refine am_b okX5_end rfl (fun h15 => ?_) (fun h15 => ?_)
    · skip
      refine am_s am_cls okX5_end rfl ?_
      refine am_ri okX5_end rfl rfl rfl (Nat.le_refl _) (Nat.le_refl _) ?_
      exact Or.inl ⟨Or.inl h15, rfl, rfl⟩
    · skip
      iterate 2 refine am_s am_cls okX5_end rfl ?_
      refine am_b okX5_end rfl (fun h21 => ?_) (fun h21 => ?_)
      · skip
        iterate 8 refine am_s am_cls okX5_end rfl ?_
        refine am_cV okX5_end rfl (r_hasRoom l D tc b _ _ _ _ _ _ _ _ _ _ _ _ _ _ _ _ _ _ _ _ _ _ _ _ _ _ _ _ _ _ _ _ _ _ _) cv_X5_107 coX5_hasRoom rfl rfl rfl ⟨rfl, rfl, rfl⟩ ⟨Nat.le_refl _, Nat.le_refl _⟩ ?_
        rintro _ _ ⟨rfl, rfl⟩
        refine am_b okX5_end rfl (fun h42 => ?_) (fun h42 => ?_)
        · exact absurd h42 (by rw [hr]; decide)
        · try replace h42 := pd_b1 h42
          iterate 8 refine am_s am_cls okX5_end rfl ?_
          refine am_b okX5_end rfl (fun h60 => ?_) (fun h60 => ?_)
          · try replace h60 := pd_b0 h60
            iterate 2 refine am_s am_cls okX5_end rfl ?_
            refine am_as okX5_end rfl (vp_in_nI (n := 0) (N := 50) (by decide) (by decide)) ?_
            iterate 6 refine am_s am_cls okX5_end rfl ?_
            refine am_as okX5_end rfl (vp_in_nI (n := 0) (N := 50) (by decide) (by decide)) ?_
            iterate 5 refine am_s am_cls okX5_end rfl ?_
            refine am_as okX5_end rfl (vp_in_nI (n := 0) (N := 50) (by decide) (by decide)) ?_
            iterate 4 refine am_s am_cls okX5_end rfl ?_
            refine am_b okX5_end rfl (fun h100 => ?_) (fun h100 => ?_)
            · skip
              iterate 16 refine am_s am_cls okX5_end rfl ?_
              refine am_ri okX5_end rfl rfl rfl (Nat.le_refl _) (Nat.le_refl _) ?_
              exact Or.inr ⟨⟨h15, h21⟩, rfl, by simp [*]⟩
            · exact absurd (by decide) h100
          · try replace h60 := pd_b1 h60
            iterate 3 refine am_s am_cls okX5_end rfl ?_
            refine am_as okX5_end rfl (vp_in_nI (n := 0) (N := 50) (by decide) (by decide)) ?_
            iterate 6 refine am_s am_cls okX5_end rfl ?_
            refine am_as okX5_end rfl (vp_in_nI (n := 0) (N := 50) (by decide) (by decide)) ?_
            iterate 5 refine am_s am_cls okX5_end rfl ?_
            refine am_as okX5_end rfl (vp_in_nI (n := 0) (N := 50) (by decide) (by decide)) ?_
            iterate 4 refine am_s am_cls okX5_end rfl ?_
            refine am_b okX5_end rfl (fun h100 => ?_) (fun h100 => ?_)
            · skip
              iterate 16 refine am_s am_cls okX5_end rfl ?_
              refine am_ri okX5_end rfl rfl rfl (Nat.le_refl _) (Nat.le_refl _) ?_
              exact Or.inr ⟨⟨h15, h21⟩, rfl, by simp [*]⟩
            · exact absurd (by decide) h100
      · skip
        refine am_s am_cls okX5_end rfl ?_
        refine am_ri okX5_end rfl rfl rfl (Nat.le_refl _) (Nat.le_refl _) ?_
        exact Or.inl ⟨Or.inr h21, rfl, rfl⟩
  · exact absurd rfl h9
set_option maxHeartbeats 4000000 in
set_option maxRecDepth 100000 in
theorem r_sync_f (c0 c1 c2 c3 c4 c5 c6 c7 c8 c9 c10 c11 : am_E) (rest : am_W) (S : Int32)  : cM l D tc b yX5_sync cX5_sync 4 (some .int) 1 0 0 [.ref 12] (c0 :: c1 :: c2 :: c3 :: c4 :: c5 :: c6 :: c7 :: c8 :: c9 :: c10 :: c11 :: .inr (5, [.int 0, .int S, .ref 13, .int 0, .int 0, .int 0, .int 0, .int 0, .int 0, .int 0, .int 0, .ref 14, .int 1, .int 0, .ref 15, .ref 16, .ref 17, .ref 18, .int 0, .ref 19, .ref 20]) :: .inl (1, 4096, .inl (fun _ => 0)) :: .inl (1, 50, .inl (fun _ => 0)) :: .inl (1, 50, .inl (fun _ => 0)) :: .inl (1, 50, .inl (fun _ => 0)) :: .inl (1, 50, .inl (fun _ => 0)) :: .inl (1, 2000, .inl (fun _ => 0)) :: .inl (1, 40, .inl (fun _ => 0)) :: .inl (1, 64, .inl (fun _ => 0)) :: rest)
    (am_is (some (.int 0)) (c0 :: c1 :: c2 :: c3 :: c4 :: c5 :: c6 :: c7 :: c8 :: c9 :: c10 :: c11 :: .inr (5, [.int 0, .int S, .ref 13, .int 0, .int 0, .int 0, .int 0, .int 0, .int 0, .int 0, .int 0, .ref 14, .int 1, .int 0, .ref 15, .ref 16, .ref 17, .ref 18, .int 0, .ref 19, .ref 20]) :: .inl (1, 4096, .inl (fun _ => 0)) :: .inl (1, 50, .inl (fun _ => 0)) :: .inl (1, 50, .inl (fun _ => 0)) :: .inl (1, 50, .inl (fun _ => 0)) :: .inl (1, 50, .inl (fun _ => 0)) :: .inl (1, 2000, .inl (fun _ => 0)) :: .inl (1, 40, .inl (fun _ => 0)) :: .inl (1, 64, .inl (fun _ => 0)) :: rest)) := by
  refine am_m (own := RX5) (ini := (false, [])) (L := [some (.ref 12), none, none, none]) rfl (by decide) (fun h => absurd h (by decide)) rfl (Nat.le_of_ble_eq_true rfl) rfl rfl ?_
  iterate 5 refine am_s am_cls okX5_sync rfl ?_
  refine am_b okX5_sync rfl (fun h9 => ?_) (fun h9 => ?_)
  · try replace h9 := pd_b0 h9
    iterate 4 refine am_s am_cls okX5_sync rfl ?_
    refine am_b okX5_sync rfl (fun h21 => ?_) (fun h21 => ?_)
    · try replace h21 := pd_b0 h21
      refine am_s am_cls okX5_sync rfl ?_
      refine am_ri okX5_sync rfl rfl rfl (Nat.le_refl _) (Nat.le_refl _) ?_
      exact ⟨rfl, rfl⟩
    · exact absurd rfl h21
  · exact absurd rfl h9
set_option maxHeartbeats 4000000 in
set_option maxRecDepth 100000 in
theorem r_isKept_f (c0 c1 c2 c3 c4 c5 c6 c7 c8 c9 c10 c11 : am_E) (rest : am_W) (S : Int32) (s : Int32)  : cM l D tc b yX5_isKept cX5_isKept 3 (some .boolean) 1 0 0 [.ref 12, .int s] (c0 :: c1 :: c2 :: c3 :: c4 :: c5 :: c6 :: c7 :: c8 :: c9 :: c10 :: c11 :: .inr (5, [.int 0, .int S, .ref 13, .int 0, .int 0, .int 0, .int 0, .int 0, .int 0, .int 0, .int 0, .ref 14, .int 1, .int 0, .ref 15, .ref 16, .ref 17, .ref 18, .int 0, .ref 19, .ref 20]) :: .inl (1, 4096, .inl (fun _ => 0)) :: .inl (1, 50, .inl (fun _ => 0)) :: .inl (1, 50, .inl (fun _ => 0)) :: .inl (1, 50, .inl (fun _ => 0)) :: .inl (1, 50, .inl (fun _ => 0)) :: .inl (1, 2000, .inl (fun _ => 0)) :: .inl (1, 40, .inl (fun _ => 0)) :: .inl (1, 64, .inl (fun _ => 0)) :: rest)
    (am_is (some (.int 0)) (c0 :: c1 :: c2 :: c3 :: c4 :: c5 :: c6 :: c7 :: c8 :: c9 :: c10 :: c11 :: .inr (5, [.int 0, .int S, .ref 13, .int 0, .int 0, .int 0, .int 0, .int 0, .int 0, .int 0, .int 0, .ref 14, .int 1, .int 0, .ref 15, .ref 16, .ref 17, .ref 18, .int 0, .ref 19, .ref 20]) :: .inl (1, 4096, .inl (fun _ => 0)) :: .inl (1, 50, .inl (fun _ => 0)) :: .inl (1, 50, .inl (fun _ => 0)) :: .inl (1, 50, .inl (fun _ => 0)) :: .inl (1, 50, .inl (fun _ => 0)) :: .inl (1, 2000, .inl (fun _ => 0)) :: .inl (1, 40, .inl (fun _ => 0)) :: .inl (1, 64, .inl (fun _ => 0)) :: rest)) := by
  refine am_m (own := RX5) (ini := (false, [])) (L := [some (.ref 12), some (.int s), none]) rfl (by decide) (fun h => absurd h (by decide)) rfl (Nat.le_of_ble_eq_true rfl) rfl rfl ?_
  iterate 5 refine am_s am_cls okX5_isKept rfl ?_
  refine am_b okX5_isKept rfl (fun h7 => ?_) (fun h7 => ?_)
  · skip
    refine am_s am_cls okX5_isKept rfl ?_
    refine am_rz okX5_isKept rfl rfl rfl (by decide) (Nat.le_refl _) (Nat.le_refl _) ?_
    exact ⟨rfl, rfl⟩
  · exact absurd (by decide) h7
set_option maxHeartbeats 4000000 in
set_option maxRecDepth 100000 in
theorem r_free_f (c0 c1 c2 c3 c4 c5 c6 c7 c8 c9 c10 c11 : am_E) (rest : am_W) (S : Int32)  : cM l D tc b yX5_free cX5_free 2 (some .int) 2 0 0 [.ref 12] (c0 :: c1 :: c2 :: c3 :: c4 :: c5 :: c6 :: c7 :: c8 :: c9 :: c10 :: c11 :: .inr (5, [.int 0, .int S, .ref 13, .int 0, .int 0, .int 0, .int 0, .int 0, .int 0, .int 0, .int 0, .ref 14, .int 1, .int 0, .ref 15, .ref 16, .ref 17, .ref 18, .int 0, .ref 19, .ref 20]) :: .inl (1, 4096, .inl (fun _ => 0)) :: .inl (1, 50, .inl (fun _ => 0)) :: .inl (1, 50, .inl (fun _ => 0)) :: .inl (1, 50, .inl (fun _ => 0)) :: .inl (1, 50, .inl (fun _ => 0)) :: .inl (1, 2000, .inl (fun _ => 0)) :: .inl (1, 40, .inl (fun _ => 0)) :: .inl (1, 64, .inl (fun _ => 0)) :: rest)
    (am_is (some (.int 2)) (c0 :: c1 :: c2 :: c3 :: c4 :: c5 :: c6 :: c7 :: c8 :: c9 :: c10 :: c11 :: .inr (5, [.int 0, .int S, .ref 13, .int 0, .int 0, .int 0, .int 0, .int 0, .int 0, .int 0, .int 0, .ref 14, .int 1, .int 0, .ref 15, .ref 16, .ref 17, .ref 18, .int 0, .ref 19, .ref 20]) :: .inl (1, 4096, .inl (fun _ => 0)) :: .inl (1, 50, .inl (fun _ => 0)) :: .inl (1, 50, .inl (fun _ => 0)) :: .inl (1, 50, .inl (fun _ => 0)) :: .inl (1, 50, .inl (fun _ => 0)) :: .inl (1, 2000, .inl (fun _ => 0)) :: .inl (1, 40, .inl (fun _ => 0)) :: .inl (1, 64, .inl (fun _ => 0)) :: rest)) := by
  refine am_m (own := RX5) (ini := (false, [])) (L := [some (.ref 12), none]) rfl (by decide) (fun h => absurd h (by decide)) rfl (Nat.le_of_ble_eq_true rfl) rfl rfl ?_
  iterate 4 refine am_s am_cls okX5_free rfl ?_
  refine am_cV okX5_free rfl (r_isKept_f l D tc b _ _ _ _ _ _ _ _ _ _ _ _ _ _ _) cv_X5_104 coX5_isKept rfl rfl rfl ⟨rfl, rfl, rfl⟩ ⟨Nat.le_refl _, Nat.le_refl _⟩ ?_
  rintro _ _ ⟨rfl, rfl⟩
  refine am_b okX5_free rfl (fun h7 => ?_) (fun h7 => ?_)
  · try replace h7 := pd_b0 h7
    refine am_s am_cls okX5_free rfl ?_
    refine am_ri okX5_free rfl rfl rfl (Nat.le_refl _) (Nat.le_refl _) ?_
    exact ⟨rfl, rfl⟩
  · exact absurd rfl h7
set_option maxHeartbeats 4000000 in
set_option maxRecDepth 100000 in
theorem r_merge_f (c0 c1 c2 c3 c4 c5 c6 c7 c8 c9 c10 c11 : am_E) (rest : am_W) (S : Int32) (x : Int32)  : cM l D tc b yX5_merge cX5_merge 6 (some .int) 3 0 0 [.ref 12, .int x] (c0 :: c1 :: c2 :: c3 :: c4 :: c5 :: c6 :: c7 :: c8 :: c9 :: c10 :: c11 :: .inr (5, [.int 0, .int S, .ref 13, .int 0, .int 0, .int 0, .int 0, .int 0, .int 0, .int 0, .int 0, .ref 14, .int 1, .int 0, .ref 15, .ref 16, .ref 17, .ref 18, .int 0, .ref 19, .ref 20]) :: .inl (1, 4096, .inl (fun _ => 0)) :: .inl (1, 50, .inl (fun _ => 0)) :: .inl (1, 50, .inl (fun _ => 0)) :: .inl (1, 50, .inl (fun _ => 0)) :: .inl (1, 50, .inl (fun _ => 0)) :: .inl (1, 2000, .inl (fun _ => 0)) :: .inl (1, 40, .inl (fun _ => 0)) :: .inl (1, 64, .inl (fun _ => 0)) :: rest)
    (fun v w => ((x < 0 ∨ ¬ x ≤ 100) ∧ am_is (some (.int (-12))) (c0 :: c1 :: c2 :: c3 :: c4 :: c5 :: c6 :: c7 :: c8 :: c9 :: c10 :: c11 :: .inr (5, [.int 0, .int S, .ref 13, .int 0, .int 0, .int 0, .int 0, .int 0, .int 0, .int 0, .int 0, .ref 14, .int 1, .int 0, .ref 15, .ref 16, .ref 17, .ref 18, .int 0, .ref 19, .ref 20]) :: .inl (1, 4096, .inl (fun _ => 0)) :: .inl (1, 50, .inl (fun _ => 0)) :: .inl (1, 50, .inl (fun _ => 0)) :: .inl (1, 50, .inl (fun _ => 0)) :: .inl (1, 50, .inl (fun _ => 0)) :: .inl (1, 2000, .inl (fun _ => 0)) :: .inl (1, 40, .inl (fun _ => 0)) :: .inl (1, 64, .inl (fun _ => 0)) :: rest) v w) ∨ ((¬ x < 0 ∧ x ≤ 100) ∧ am_is (some (.int 0)) (c0 :: c1 :: c2 :: c3 :: c4 :: c5 :: c6 :: c7 :: c8 :: c9 :: c10 :: c11 :: .inr (5, [.int 0, .int S, .ref 13, .int 0, .int 0, .int 0, .int 0, .int 0, .int 0, .int 0, .int 0, .ref 14, .int 1, .int 0, .ref 15, .ref 16, .ref 17, .ref 18, .int 0, .ref 19, .ref 20]) :: .inl (1, 4096, .inl (fun _ => 0)) :: .inl (1, 50, .inl (fun _ => 0)) :: .inl (1, 50, .inl (fun _ => 0)) :: .inl (1, 50, .inl (fun _ => 0)) :: .inl (1, 50, .inl (fun _ => 0)) :: .inl (1, 2000, .inl (fun _ => 0)) :: .inl (1, 40, .inl (fun _ => 0)) :: .inl (1, 64, .inl (fun _ => 0)) :: rest) v w)) := by
  refine am_m (own := RX5) (ini := (false, [])) (L := [some (.ref 12), some (.int x), none, none, none, none]) rfl (by decide) (fun h => absurd h (by decide)) rfl (Nat.le_of_ble_eq_true rfl) rfl rfl ?_
  iterate 5 refine am_s am_cls okX5_merge rfl ?_
  refine am_b okX5_merge rfl (fun h9 => ?_) (fun h9 => ?_)
  · try replace h9 := pd_b0 h9
    refine am_s am_cls okX5_merge rfl ?_
    refine am_b okX5_merge rfl (fun h16 => ?_) (fun h16 => ?_)
    · skip
      refine am_s am_cls okX5_merge rfl ?_
      refine am_ri okX5_merge rfl rfl rfl (Nat.le_refl _) (Nat.le_refl _) ?_
      exact Or.inl ⟨Or.inl h16, rfl, rfl⟩
    · skip
      iterate 2 refine am_s am_cls okX5_merge rfl ?_
      refine am_b okX5_merge rfl (fun h22 => ?_) (fun h22 => ?_)
      · skip
        iterate 2 refine am_s am_cls okX5_merge rfl ?_
        refine am_b okX5_merge rfl (fun h32 => ?_) (fun h32 => ?_)
        · skip
          iterate 4 refine am_s am_cls okX5_merge rfl ?_
          refine am_b okX5_merge rfl (fun h42 => ?_) (fun h42 => ?_)
          · skip
            refine am_s am_cls okX5_merge rfl ?_
            refine am_ri okX5_merge rfl rfl rfl (Nat.le_refl _) (Nat.le_refl _) ?_
            exact Or.inr ⟨⟨h16, h22⟩, rfl, rfl⟩
          · skip
            iterate 7 refine am_s am_cls okX5_merge rfl ?_
            refine am_b okX5_merge rfl (fun h56 => ?_) (fun h56 => ?_)
            · skip
              refine am_s am_cls okX5_merge rfl ?_
              refine am_cV okX5_merge rfl (r_free_f l D tc b _ _ _ _ _ _ _ _ _ _ _ _ _ _) cv_X5_111 coX5_free rfl rfl rfl ⟨rfl, rfl, rfl⟩ ⟨Nat.le_refl _, Nat.le_refl _⟩ ?_
              rintro _ _ ⟨rfl, rfl⟩
              iterate 3 refine am_s am_cls okX5_merge rfl ?_
              refine am_b okX5_merge rfl (fun h101 => ?_) (fun h101 => ?_)
              · skip
                refine am_s am_cls okX5_merge rfl ?_
                refine am_ri okX5_merge rfl rfl rfl (Nat.le_refl _) (Nat.le_refl _) ?_
                exact Or.inr ⟨⟨h16, h22⟩, rfl, rfl⟩
              · exact absurd rfl h101
            · exact absurd (by decide) h56
        · exact absurd (by decide) h32
      · skip
        refine am_s am_cls okX5_merge rfl ?_
        refine am_ri okX5_merge rfl rfl rfl (Nat.le_refl _) (Nat.le_refl _) ?_
        exact Or.inl ⟨Or.inr h22, rfl, rfl⟩
  · exact absurd rfl h9
set_option maxHeartbeats 4000000 in
set_option maxRecDepth 100000 in
theorem r_drop_f (c0 c1 c2 c3 c4 c5 c6 c7 c8 c9 c10 c11 : am_E) (rest : am_W) (S : Int32) (x : Int32)  : cM l D tc b yX5_drop cX5_drop 7 (some .int) 1 0 0 [.ref 12, .int x] (c0 :: c1 :: c2 :: c3 :: c4 :: c5 :: c6 :: c7 :: c8 :: c9 :: c10 :: c11 :: .inr (5, [.int 0, .int S, .ref 13, .int 0, .int 0, .int 0, .int 0, .int 0, .int 0, .int 0, .int 0, .ref 14, .int 1, .int 0, .ref 15, .ref 16, .ref 17, .ref 18, .int 0, .ref 19, .ref 20]) :: .inl (1, 4096, .inl (fun _ => 0)) :: .inl (1, 50, .inl (fun _ => 0)) :: .inl (1, 50, .inl (fun _ => 0)) :: .inl (1, 50, .inl (fun _ => 0)) :: .inl (1, 50, .inl (fun _ => 0)) :: .inl (1, 2000, .inl (fun _ => 0)) :: .inl (1, 40, .inl (fun _ => 0)) :: .inl (1, 64, .inl (fun _ => 0)) :: rest)
    (am_is (some (.int 0)) (c0 :: c1 :: c2 :: c3 :: c4 :: c5 :: c6 :: c7 :: c8 :: c9 :: c10 :: c11 :: .inr (5, [.int 0, .int S, .ref 13, .int 0, .int 0, .int 0, .int 0, .int 0, .int 0, .int 0, .int 0, .ref 14, .int 1, .int 0, .ref 15, .ref 16, .ref 17, .ref 18, .int 0, .ref 19, .ref 20]) :: .inl (1, 4096, .inl (fun _ => 0)) :: .inl (1, 50, .inl (fun _ => 0)) :: .inl (1, 50, .inl (fun _ => 0)) :: .inl (1, 50, .inl (fun _ => 0)) :: .inl (1, 50, .inl (fun _ => 0)) :: .inl (1, 2000, .inl (fun _ => 0)) :: .inl (1, 40, .inl (fun _ => 0)) :: .inl (1, 64, .inl (fun _ => 0)) :: rest)) := by
  refine am_m (own := RX5) (ini := (false, [])) (L := [some (.ref 12), some (.int x), none, none, none, none, none]) rfl (by decide) (fun h => absurd h (by decide)) rfl (Nat.le_of_ble_eq_true rfl) rfl rfl ?_
  iterate 5 refine am_s am_cls okX5_drop rfl ?_
  refine am_b okX5_drop rfl (fun h9 => ?_) (fun h9 => ?_)
  · try replace h9 := pd_b0 h9
    iterate 9 refine am_s am_cls okX5_drop rfl ?_
    refine am_b okX5_drop rfl (fun h28 => ?_) (fun h28 => ?_)
    · skip
      iterate 5 refine am_s am_cls okX5_drop rfl ?_
      refine am_b okX5_drop rfl (fun h117 => ?_) (fun h117 => ?_)
      · skip
        refine am_s am_cls okX5_drop rfl ?_
        refine am_ri okX5_drop rfl rfl rfl (Nat.le_refl _) (Nat.le_refl _) ?_
        exact ⟨rfl, rfl⟩
      · exact absurd rfl h117
    · exact absurd (by decide) h28
  · exact absurd rfl h9
set_option maxHeartbeats 4000000 in
set_option maxRecDepth 100000 in
theorem r_row_f (c0 c1 c2 c3 c4 c5 c6 c7 c8 c9 c10 c11 : am_E) (rest : am_W) (S : Int32) (k x : Int32)  : cM l D tc b yX5_row cX5_row 4 (some .int) 1 0 0 [.ref 12, .int k, .int x] (c0 :: c1 :: c2 :: c3 :: c4 :: c5 :: c6 :: c7 :: c8 :: c9 :: c10 :: c11 :: .inr (5, [.int 0, .int S, .ref 13, .int 0, .int 0, .int 0, .int 0, .int 0, .int 0, .int 0, .int 0, .ref 14, .int 1, .int 0, .ref 15, .ref 16, .ref 17, .ref 18, .int 0, .ref 19, .ref 20]) :: .inl (1, 4096, .inl (fun _ => 0)) :: .inl (1, 50, .inl (fun _ => 0)) :: .inl (1, 50, .inl (fun _ => 0)) :: .inl (1, 50, .inl (fun _ => 0)) :: .inl (1, 50, .inl (fun _ => 0)) :: .inl (1, 2000, .inl (fun _ => 0)) :: .inl (1, 40, .inl (fun _ => 0)) :: .inl (1, 64, .inl (fun _ => 0)) :: rest)
    (am_is (some (.int (if x < 0 then -12 else if ¬ x ≤ 4 then -12 else -1))) (c0 :: c1 :: c2 :: c3 :: c4 :: c5 :: c6 :: c7 :: c8 :: c9 :: c10 :: c11 :: .inr (5, [.int 0, .int S, .ref 13, .int 0, .int 0, .int 0, .int 0, .int 0, .int 0, .int 0, .int 0, .ref 14, .int 1, .int 0, .ref 15, .ref 16, .ref 17, .ref 18, .int 0, .ref 19, .ref 20]) :: .inl (1, 4096, .inl (fun _ => 0)) :: .inl (1, 50, .inl (fun _ => 0)) :: .inl (1, 50, .inl (fun _ => 0)) :: .inl (1, 50, .inl (fun _ => 0)) :: .inl (1, 50, .inl (fun _ => 0)) :: .inl (1, 2000, .inl (fun _ => 0)) :: .inl (1, 40, .inl (fun _ => 0)) :: .inl (1, 64, .inl (fun _ => 0)) :: rest)) := by
  refine am_m (own := RX5) (ini := (false, [])) (L := [some (.ref 12), some (.int k), some (.int x), none]) rfl (by decide) (fun h => absurd h (by decide)) rfl (Nat.le_of_ble_eq_true rfl) rfl rfl ?_
  iterate 5 refine am_s am_cls okX5_row rfl ?_
  refine am_b okX5_row rfl (fun h9 => ?_) (fun h9 => ?_)
  · try replace h9 := pd_b0 h9
    refine am_s am_cls okX5_row rfl ?_
    refine am_b okX5_row rfl (fun h16 => ?_) (fun h16 => ?_)
    · skip
      refine am_s am_cls okX5_row rfl ?_
      refine am_ri okX5_row rfl rfl rfl (Nat.le_refl _) (Nat.le_refl _) ?_
      exact ⟨by simp [*], rfl⟩
    · skip
      iterate 2 refine am_s am_cls okX5_row rfl ?_
      refine am_b okX5_row rfl (fun h21 => ?_) (fun h21 => ?_)
      · skip
        refine am_s am_cls okX5_row rfl ?_
        refine am_b okX5_row rfl (fun h28 => ?_) (fun h28 => ?_)
        · skip
          refine am_s am_cls okX5_row rfl ?_
          refine am_ri okX5_row rfl rfl rfl (Nat.le_refl _) (Nat.le_refl _) ?_
          exact ⟨by simp [*], rfl⟩
        · skip
          iterate 3 refine am_s am_cls okX5_row rfl ?_
          refine am_b okX5_row rfl (fun h36 => ?_) (fun h36 => ?_)
          · exact absurd h36 h28
          · skip
            refine am_s am_cls okX5_row rfl ?_
            refine am_ri okX5_row rfl rfl rfl (Nat.le_refl _) (Nat.le_refl _) ?_
            exact ⟨by simp [*], rfl⟩
      · skip
        refine am_s am_cls okX5_row rfl ?_
        refine am_ri okX5_row rfl rfl rfl (Nat.le_refl _) (Nat.le_refl _) ?_
        exact ⟨by simp [*], rfl⟩
  · exact absurd rfl h9
set_option maxHeartbeats 4000000 in
set_option maxRecDepth 100000 in
theorem r_at_f (c0 c1 c2 c3 c4 c5 c6 c7 c8 c9 c10 c11 : am_E) (rest : am_W) (S : Int32) (k i : Int32)  : cM l D tc b yX5_at cX5_at 4 (some .int) 1 0 0 [.ref 12, .int k, .int i] (c0 :: c1 :: c2 :: c3 :: c4 :: c5 :: c6 :: c7 :: c8 :: c9 :: c10 :: c11 :: .inr (5, [.int 0, .int S, .ref 13, .int 0, .int 0, .int 0, .int 0, .int 0, .int 0, .int 0, .int 0, .ref 14, .int 1, .int 0, .ref 15, .ref 16, .ref 17, .ref 18, .int 0, .ref 19, .ref 20]) :: .inl (1, 4096, .inl (fun _ => 0)) :: .inl (1, 50, .inl (fun _ => 0)) :: .inl (1, 50, .inl (fun _ => 0)) :: .inl (1, 50, .inl (fun _ => 0)) :: .inl (1, 50, .inl (fun _ => 0)) :: .inl (1, 2000, .inl (fun _ => 0)) :: .inl (1, 40, .inl (fun _ => 0)) :: .inl (1, 64, .inl (fun _ => 0)) :: rest)
    (am_is (some (.int 0)) (c0 :: c1 :: c2 :: c3 :: c4 :: c5 :: c6 :: c7 :: c8 :: c9 :: c10 :: c11 :: .inr (5, [.int 1, .int S, .ref 13, .int 0, .int 0, .int 0, .int 0, .int 0, .int 0, .int 0, .int 0, .ref 14, .int 1, .int 0, .ref 15, .ref 16, .ref 17, .ref 18, .int 0, .ref 19, .ref 20]) :: .inl (1, 4096, .inl (fun _ => 0)) :: .inl (1, 50, .inl (fun _ => 0)) :: .inl (1, 50, .inl (fun _ => 0)) :: .inl (1, 50, .inl (fun _ => 0)) :: .inl (1, 50, .inl (fun _ => 0)) :: .inl (1, 2000, .inl (fun _ => 0)) :: .inl (1, 40, .inl (fun _ => 0)) :: .inl (1, 64, .inl (fun _ => 0)) :: rest)) := by
  refine am_m (own := RX5) (ini := (false, [])) (L := [some (.ref 12), some (.int k), some (.int i), none]) rfl (by decide) (fun h => absurd h (by decide)) rfl (Nat.le_of_ble_eq_true rfl) rfl rfl ?_
  iterate 5 refine am_s am_cls okX5_at rfl ?_
  refine am_b okX5_at rfl (fun h9 => ?_) (fun h9 => ?_)
  · try replace h9 := pd_b0 h9
    refine am_s am_cls okX5_at rfl ?_
    refine am_b okX5_at rfl (fun h16 => ?_) (fun h16 => ?_)
    · skip
      iterate 3 refine am_s am_cls okX5_at rfl ?_
      refine am_b okX5_at rfl (fun h34 => ?_) (fun h34 => ?_)
      · try replace h34 := pd_b0 h34
        iterate 2 refine am_s am_cls okX5_at rfl ?_
        refine am_b okX5_at rfl (fun h49 => ?_) (fun h49 => ?_)
        · try replace h49 := pd_b0 h49
          iterate 4 refine am_s am_cls okX5_at rfl ?_
          refine am_b okX5_at rfl (fun h88 => ?_) (fun h88 => ?_)
          · exact absurd h88 (by decide)
          · skip
            iterate 2 refine am_s am_cls okX5_at rfl ?_
            refine am_ri okX5_at rfl rfl rfl (Nat.le_refl _) (Nat.le_refl _) ?_
            exact ⟨rfl, rfl⟩
        · exact absurd rfl h49
      · exact absurd rfl h34
    · skip
      iterate 3 refine am_s am_cls okX5_at rfl ?_
      refine am_b okX5_at rfl (fun h24 => ?_) (fun h24 => ?_)
      · skip
        iterate 3 refine am_s am_cls okX5_at rfl ?_
        refine am_b okX5_at rfl (fun h34 => ?_) (fun h34 => ?_)
        · try replace h34 := pd_b0 h34
          iterate 2 refine am_s am_cls okX5_at rfl ?_
          refine am_b okX5_at rfl (fun h49 => ?_) (fun h49 => ?_)
          · try replace h49 := pd_b0 h49
            iterate 4 refine am_s am_cls okX5_at rfl ?_
            refine am_b okX5_at rfl (fun h88 => ?_) (fun h88 => ?_)
            · exact absurd h88 (by decide)
            · skip
              iterate 2 refine am_s am_cls okX5_at rfl ?_
              refine am_ri okX5_at rfl rfl rfl (Nat.le_refl _) (Nat.le_refl _) ?_
              exact ⟨rfl, rfl⟩
          · exact absurd rfl h49
        · exact absurd rfl h34
      · exact absurd (Int32.not_lt.mp h16) h24
  · exact absurd rfl h9
set_option maxHeartbeats 4000000 in
set_option maxRecDepth 100000 in
theorem r_wrong_f (c0 c1 c2 c3 c4 c5 c6 c7 c8 c9 c10 c11 : am_E) (rest : am_W) (S : Int32) (x : Int32)  : cM l D tc b yX5_wrong cX5_wrong 5 (some .int) 1 0 0 [.ref 12, .int x] (c0 :: c1 :: c2 :: c3 :: c4 :: c5 :: c6 :: c7 :: c8 :: c9 :: c10 :: c11 :: .inr (5, [.int 0, .int S, .ref 13, .int 0, .int 0, .int 0, .int 0, .int 0, .int 0, .int 0, .int 0, .ref 14, .int 1, .int 0, .ref 15, .ref 16, .ref 17, .ref 18, .int 0, .ref 19, .ref 20]) :: .inl (1, 4096, .inl (fun _ => 0)) :: .inl (1, 50, .inl (fun _ => 0)) :: .inl (1, 50, .inl (fun _ => 0)) :: .inl (1, 50, .inl (fun _ => 0)) :: .inl (1, 50, .inl (fun _ => 0)) :: .inl (1, 2000, .inl (fun _ => 0)) :: .inl (1, 40, .inl (fun _ => 0)) :: .inl (1, 64, .inl (fun _ => 0)) :: rest)
    (am_is (some (.int (if x < 0 then -12 else if ¬ x ≤ 1 then -12 else if x = 0 then 0 else -1))) (c0 :: c1 :: c2 :: c3 :: c4 :: c5 :: c6 :: c7 :: c8 :: c9 :: c10 :: c11 :: .inr (5, [.int 0, .int S, .ref 13, .int 0, .int 0, .int 0, .int 0, .int 0, .int 0, .int 0, .int 0, .ref 14, .int 1, .int 0, .ref 15, .ref 16, .ref 17, .ref 18, .int 0, .ref 19, .ref 20]) :: .inl (1, 4096, .inl (fun _ => 0)) :: .inl (1, 50, .inl (fun _ => 0)) :: .inl (1, 50, .inl (fun _ => 0)) :: .inl (1, 50, .inl (fun _ => 0)) :: .inl (1, 50, .inl (fun _ => 0)) :: .inl (1, 2000, .inl (fun _ => 0)) :: .inl (1, 40, .inl (fun _ => 0)) :: .inl (1, 64, .inl (fun _ => 0)) :: rest)) := by
  refine am_m (own := RX5) (ini := (false, [])) (L := [some (.ref 12), some (.int x), none, none, none]) rfl (by decide) (fun h => absurd h (by decide)) rfl (Nat.le_of_ble_eq_true rfl) rfl rfl ?_
  iterate 5 refine am_s am_cls okX5_wrong rfl ?_
  refine am_b okX5_wrong rfl (fun h9 => ?_) (fun h9 => ?_)
  · try replace h9 := pd_b0 h9
    refine am_s am_cls okX5_wrong rfl ?_
    refine am_b okX5_wrong rfl (fun h16 => ?_) (fun h16 => ?_)
    · skip
      refine am_s am_cls okX5_wrong rfl ?_
      refine am_ri okX5_wrong rfl rfl rfl (Nat.le_refl _) (Nat.le_refl _) ?_
      exact ⟨by simp [*], rfl⟩
    · skip
      iterate 2 refine am_s am_cls okX5_wrong rfl ?_
      refine am_b okX5_wrong rfl (fun h21 => ?_) (fun h21 => ?_)
      · skip
        iterate 9 refine am_s am_cls okX5_wrong rfl ?_
        refine am_b okX5_wrong rfl (fun h40 => ?_) (fun h40 => ?_)
        · skip
          refine am_s am_cls okX5_wrong rfl ?_
          refine am_b okX5_wrong rfl (fun h73 => ?_) (fun h73 => ?_)
          · try replace h73 := pd_b0 h73
            iterate 2 refine am_s am_cls okX5_wrong rfl ?_
            refine am_ri okX5_wrong rfl rfl rfl (Nat.le_refl _) (Nat.le_refl _) ?_
            exact ⟨by simp [*], rfl⟩
          · try replace h73 := pd_b1 h73
            refine am_s am_cls okX5_wrong rfl ?_
            refine am_ri okX5_wrong rfl rfl rfl (Nat.le_refl _) (Nat.le_refl _) ?_
            exact ⟨by simp [*], rfl⟩
        · exact absurd (by decide) h40
      · skip
        refine am_s am_cls okX5_wrong rfl ?_
        refine am_ri okX5_wrong rfl rfl rfl (Nat.le_refl _) (Nat.le_refl _) ?_
        exact ⟨by simp [*], rfl⟩
  · exact absurd rfl h9
end PD
