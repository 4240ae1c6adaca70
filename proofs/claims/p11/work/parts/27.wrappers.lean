theorem th_hpt {P : Prop} {W : am_W} : ∀ (k : Nat) (w' : am_W), (P ∧ k = W.length ∧ w' = W ++ [.inr (6, [])]) → w'[k]? = some (.inr (6, [])) := by
  rintro k w' ⟨-, rfl, rfl⟩
  simp
theorem th_cl : Cond.classLink RL 13 "java/lang/ArrayIndexOutOfBoundsException" ∈ lw_tbl := by decide +kernel
theorem th_ca : Cond.castable "java/lang/ArrayIndexOutOfBoundsException" "java/lang/ArrayIndexOutOfBoundsException" ∈ lw_tbl := by decide +kernel
theorem th_lat : Cond.methodLink RL 7 yX4_at ∈ lw_tbl := by decide +kernel
theorem th_lpoke : Cond.methodLink RL 15 yX4_poke ∈ lw_tbl := by decide +kernel
theorem th_loctet : Cond.methodLink RL 19 yX4_octet ∈ lw_tbl := by decide +kernel
section PD
variable (l : Launch) (D : va_G) (tc : Nat → ClassId) (b : Nat)
set_option maxHeartbeats 4000000 in
set_option maxRecDepth 100000 in
theorem c_loctet (hl : ∀ e : Env, l.admits e → e.platform.stackTraces = false) (c12 c13 c14 c15 c16 c17 c18 c19 c20 : am_E) (q : Nat → Int64) (rest : am_W) (n : Nat) (mr dn S wr cu te : Int32) (f g : Nat → Int32) (fi : Int32) (so us : Nat → Int32) (ke ge gr : Int32) (co le ma : Nat → Int32) (en : Int32) (s i : Int32) (hn : pd_sz S n) : am_MW lw_tbl vwCl l D tc b yL_octet cL_octet 5 (some .int) [(0, 10, 13, 13)] 8 1 6 [.ref 0, .int s, .int i, .ref 21] (.inr (4, [.ref 1, .int mr, .ref 3, .ref 5, .ref 8, .int dn]) :: .inr (2, [.int S, .ref 2, .int wr, .int cu, .int te]) :: .inl (0, n, .inl f) :: .inr (1, [.ref 4, .int fi]) :: .inl (0, 64, .inl g) :: .inr (0, [.ref 6, .ref 7, .int ke, .int ge, .int gr]) :: .inl (1, 50, .inl so) :: .inl (2, 64, .inl us) :: .inr (3, [.ref 9, .ref 10, .ref 11, .int en]) :: .inl (0, 2040, .inl co) :: .inl (1, 51, .inl le) :: .inl (1, 51, .inl ma) :: c12 :: c13 :: c14 :: c15 :: c16 :: c17 :: c18 :: c19 :: c20 :: .inl (3, 1, .inr (.inl q)) :: rest)
    (fun v w => (pd_holds S s i = true ∧ am_is (some (.int 0)) (.inr (4, [.ref 1, .int mr, .ref 3, .ref 5, .ref 8, .int dn]) :: .inr (2, [.int S, .ref 2, .int wr, .int cu, .int te]) :: .inl (0, n, .inl f) :: .inr (1, [.ref 4, .int fi]) :: .inl (0, 64, .inl g) :: .inr (0, [.ref 6, .ref 7, .int ke, .int ge, .int gr]) :: .inl (1, 50, .inl so) :: .inl (2, 64, .inl us) :: .inr (3, [.ref 9, .ref 10, .ref 11, .int en]) :: .inl (0, 2040, .inl co) :: .inl (1, 51, .inl le) :: .inl (1, 51, .inl ma) :: c12 :: c13 :: c14 :: c15 :: c16 :: c17 :: c18 :: c19 :: c20 :: .inl (3, 1, .inr (.inl (vp_updL q (0 : Int32).toNatClampNeg (pd_look f S s i).toInt64))) :: rest) v w) ∨ (pd_holds S s i = false ∧ am_is (some (.int 1)) ((.inr (4, [.ref 1, .int mr, .ref 3, .ref 5, .ref 8, .int dn]) :: .inr (2, [.int S, .ref 2, .int wr, .int cu, .int te]) :: .inl (0, n, .inl f) :: .inr (1, [.ref 4, .int fi]) :: .inl (0, 64, .inl g) :: .inr (0, [.ref 6, .ref 7, .int ke, .int ge, .int gr]) :: .inl (1, 50, .inl so) :: .inl (2, 64, .inl us) :: .inr (3, [.ref 9, .ref 10, .ref 11, .int en]) :: .inl (0, 2040, .inl co) :: .inl (1, 51, .inl le) :: .inl (1, 51, .inl ma) :: c12 :: c13 :: c14 :: c15 :: c16 :: c17 :: c18 :: c19 :: c20 :: .inl (3, 1, .inr (.inl q)) :: rest) ++ [.inr (6, [])]) v w)) := by
  refine am_mW (own := RL) (ini := (false, [(0, 10, 13, 13)])) (L := [some (.ref 0), some (.int s), some (.int i), some (.ref 21), none]) rfl (by decide) rfl rfl (Nat.le_of_ble_eq_true rfl) rfl rfl ?_
  iterate 5 refine am_s am_cls okL_octet rfl ?_
  refine am_cT okL_octet rfl (c_octet l D tc b hl _ _ _ _ _ _ _ _ _ _ _ _ _ _ _ _ _ _ _ _ _ _ hn) cv_L_19 th_loctet coX4_octet rfl rfl rfl ⟨rfl, rfl, rfl⟩ ⟨by decide, by decide⟩ (x := ⟨0, 10, 13, 13⟩) rfl rfl (by decide) (c6 := 6) rfl th_cl th_ca th_hpt ?_ ?_
  · rintro _ _ ⟨hr, rfl, rfl⟩
    refine am_s am_cls okL_octet rfl ?_
    refine am_la okL_octet rfl rfl rfl (vp_in_nI (n := 0) (N := 1) (by decide) (by decide)) rfl ?_
    iterate 2 refine am_s am_cls okL_octet rfl ?_
    refine am_ri okL_octet rfl rfl rfl (Nat.le_refl _) (Nat.le_refl _) ?_
    exact Or.inl ⟨hr, rfl, rfl⟩
  · rintro _ _ ⟨hr, rfl, rfl⟩
    iterate 2 refine am_s am_cls okL_octet rfl ?_
    refine am_ri okL_octet rfl rfl rfl (Nat.le_refl _) (Nat.le_refl _) ?_
    exact Or.inr ⟨hr, rfl, rfl⟩
set_option maxHeartbeats 4000000 in
set_option maxRecDepth 100000 in
theorem c_lpoke (hl : ∀ e : Env, l.admits e → e.platform.stackTraces = false) (c12 c13 c14 c15 c16 c17 c18 c19 c20 : am_E) (q : Nat → Int64) (rest : am_W) (n : Nat) (mr dn S wr cu te : Int32) (f g : Nat → Int32) (fi : Int32) (so us : Nat → Int32) (ke ge gr : Int32) (co le ma : Nat → Int32) (en : Int32) (s i x : Int32) (hn : pd_sz S n) : am_MW lw_tbl vwCl l D tc b yL_poke cL_poke 6 (some .int) [(0, 12, 15, 13)] 8 1 6 [.ref 0, .int s, .int i, .int x, .ref 21] (.inr (4, [.ref 1, .int mr, .ref 3, .ref 5, .ref 8, .int dn]) :: .inr (2, [.int S, .ref 2, .int wr, .int cu, .int te]) :: .inl (0, n, .inl f) :: .inr (1, [.ref 4, .int fi]) :: .inl (0, 64, .inl g) :: .inr (0, [.ref 6, .ref 7, .int ke, .int ge, .int gr]) :: .inl (1, 50, .inl so) :: .inl (2, 64, .inl us) :: .inr (3, [.ref 9, .ref 10, .ref 11, .int en]) :: .inl (0, 2040, .inl co) :: .inl (1, 51, .inl le) :: .inl (1, 51, .inl ma) :: c12 :: c13 :: c14 :: c15 :: c16 :: c17 :: c18 :: c19 :: c20 :: .inl (3, 1, .inr (.inl q)) :: rest)
    (fun v w => (pd_holds S s i = true ∧ am_is (some (.int 0)) (.inr (4, [.ref 1, .int mr, .ref 3, .ref 5, .ref 8, .int dn]) :: .inr (2, [.int S, .ref 2, .int wr, .int cu, .int te]) :: .inl (0, n, .inl (pd_set f S s i (pd_look f S s i ^^^ x))) :: .inr (1, [.ref 4, .int fi]) :: .inl (0, 64, .inl g) :: .inr (0, [.ref 6, .ref 7, .int ke, .int ge, .int gr]) :: .inl (1, 50, .inl so) :: .inl (2, 64, .inl us) :: .inr (3, [.ref 9, .ref 10, .ref 11, .int en]) :: .inl (0, 2040, .inl co) :: .inl (1, 51, .inl le) :: .inl (1, 51, .inl ma) :: c12 :: c13 :: c14 :: c15 :: c16 :: c17 :: c18 :: c19 :: c20 :: .inl (3, 1, .inr (.inl (vp_updL q (0 : Int32).toNatClampNeg (pd_look (pd_set f S s i (pd_look f S s i ^^^ x)) S s i).toInt64))) :: rest) v w) ∨ (pd_holds S s i = false ∧ am_is (some (.int 1)) ((.inr (4, [.ref 1, .int mr, .ref 3, .ref 5, .ref 8, .int dn]) :: .inr (2, [.int S, .ref 2, .int wr, .int cu, .int te]) :: .inl (0, n, .inl f) :: .inr (1, [.ref 4, .int fi]) :: .inl (0, 64, .inl g) :: .inr (0, [.ref 6, .ref 7, .int ke, .int ge, .int gr]) :: .inl (1, 50, .inl so) :: .inl (2, 64, .inl us) :: .inr (3, [.ref 9, .ref 10, .ref 11, .int en]) :: .inl (0, 2040, .inl co) :: .inl (1, 51, .inl le) :: .inl (1, 51, .inl ma) :: c12 :: c13 :: c14 :: c15 :: c16 :: c17 :: c18 :: c19 :: c20 :: .inl (3, 1, .inr (.inl q)) :: rest) ++ [.inr (6, [])]) v w)) := by
  refine am_mW (own := RL) (ini := (false, [(0, 12, 15, 13)])) (L := [some (.ref 0), some (.int s), some (.int i), some (.int x), some (.ref 21), none]) rfl (by decide) rfl rfl (Nat.le_of_ble_eq_true rfl) rfl rfl ?_
  iterate 6 refine am_s am_cls okL_poke rfl ?_
  refine am_cT okL_poke rfl (c_poke l D tc b hl _ _ _ _ _ _ _ _ _ _ _ _ _ _ _ _ _ _ _ _ _ _ _ hn) cv_L_15 th_lpoke coX4_poke rfl rfl rfl ⟨rfl, rfl, rfl⟩ ⟨by decide, by decide⟩ (x := ⟨0, 12, 15, 13⟩) rfl rfl (by decide) (c6 := 6) rfl th_cl th_ca th_hpt ?_ ?_
  · rintro _ _ ⟨hr, rfl, rfl⟩
    refine am_s am_cls okL_poke rfl ?_
    refine am_la okL_poke rfl rfl rfl (vp_in_nI (n := 0) (N := 1) (by decide) (by decide)) rfl ?_
    iterate 2 refine am_s am_cls okL_poke rfl ?_
    refine am_ri okL_poke rfl rfl rfl (Nat.le_refl _) (Nat.le_refl _) ?_
    exact Or.inl ⟨hr, rfl, rfl⟩
  · rintro _ _ ⟨hr, rfl, rfl⟩
    iterate 2 refine am_s am_cls okL_poke rfl ?_
    refine am_ri okL_poke rfl rfl rfl (Nat.le_refl _) (Nat.le_refl _) ?_
    exact Or.inr ⟨hr, rfl, rfl⟩
set_option maxHeartbeats 4000000 in
set_option maxRecDepth 100000 in
theorem c_lat_u (hl : ∀ e : Env, l.admits e → e.platform.stackTraces = false) (c12 c13 c14 c15 c16 c17 c18 c19 c20 : am_E) (q : Nat → Int64) (rest : am_W) (n : Nat) (mr S wr cu te : Int32) (f g : Nat → Int32) (fi : Int32) (so us : Nat → Int32) (ke ge gr : Int32) (co le ma : Nat → Int32) (en : Int32) (k i : Int32) (hn : pd_sz S n) : am_MW lw_tbl vwCl l D tc b yL_at cL_at 5 (some .int) [(0, 10, 13, 13)] 8 1 6 [.ref 0, .int k, .int i, .ref 21] (.inr (4, [.ref 1, .int mr, .ref 3, .ref 5, .ref 8, .int 0]) :: .inr (2, [.int S, .ref 2, .int wr, .int cu, .int te]) :: .inl (0, n, .inl f) :: .inr (1, [.ref 4, .int fi]) :: .inl (0, 64, .inl g) :: .inr (0, [.ref 6, .ref 7, .int ke, .int ge, .int gr]) :: .inl (1, 50, .inl so) :: .inl (2, 64, .inl us) :: .inr (3, [.ref 9, .ref 10, .ref 11, .int en]) :: .inl (0, 2040, .inl co) :: .inl (1, 51, .inl le) :: .inl (1, 51, .inl ma) :: c12 :: c13 :: c14 :: c15 :: c16 :: c17 :: c18 :: c19 :: c20 :: .inl (3, 1, .inr (.inl q)) :: rest)
    (fun v w => ((¬ (hd_sec so ke k) = -1 ∧ pd_row f S (hd_sec so ke k) = false) ∧ am_is (some (.int 0)) (.inr (4, [.ref 1, .int mr, .ref 3, .ref 5, .ref 8, .int 0]) :: .inr (2, [.int S, .ref 2, .int wr, .int cu, .int te]) :: .inl (0, n, .inl f) :: .inr (1, [.ref 4, .int fi]) :: .inl (0, 64, .inl g) :: .inr (0, [.ref 6, .ref 7, .int ke, .int ge, .int gr]) :: .inl (1, 50, .inl so) :: .inl (2, 64, .inl us) :: .inr (3, [.ref 9, .ref 10, .ref 11, .int en]) :: .inl (0, 2040, .inl co) :: .inl (1, 51, .inl le) :: .inl (1, 51, .inl ma) :: c12 :: c13 :: c14 :: c15 :: c16 :: c17 :: c18 :: c19 :: c20 :: .inl (3, 1, .inr (.inl (vp_updL q (0 : Int32).toNatClampNeg (-1).toInt64))) :: rest) v w) ∨ ((¬ (hd_sec so ke k) = -1 ∧ pd_row f S (hd_sec so ke k) = true ∧ ¬ i < 0 ∧ i < pd_look f S (hd_sec so ke k) 5) ∧ am_is (some (.int 0)) (.inr (4, [.ref 1, .int mr, .ref 3, .ref 5, .ref 8, .int 0]) :: .inr (2, [.int S, .ref 2, .int wr, .int cu, .int te]) :: .inl (0, n, .inl f) :: .inr (1, [.ref 4, .int fi]) :: .inl (0, 64, .inl g) :: .inr (0, [.ref 6, .ref 7, .int ke, .int ge, .int gr]) :: .inl (1, 50, .inl so) :: .inl (2, 64, .inl us) :: .inr (3, [.ref 9, .ref 10, .ref 11, .int en]) :: .inl (0, 2040, .inl co) :: .inl (1, 51, .inl le) :: .inl (1, 51, .inl ma) :: c12 :: c13 :: c14 :: c15 :: c16 :: c17 :: c18 :: c19 :: c20 :: .inl (3, 1, .inr (.inl (vp_updL q (0 : Int32).toNatClampNeg (pd_look f S (hd_sec so ke k) (6 + i)).toInt64))) :: rest) v w) ∨ (((hd_sec so ke k) = -1 ∨ (¬ (hd_sec so ke k) = -1 ∧ pd_row f S (hd_sec so ke k) = true ∧ (i < 0 ∨ ¬ i < pd_look f S (hd_sec so ke k) 5))) ∧ am_is (some (.int 1)) ((.inr (4, [.ref 1, .int mr, .ref 3, .ref 5, .ref 8, .int 0]) :: .inr (2, [.int S, .ref 2, .int wr, .int cu, .int te]) :: .inl (0, n, .inl f) :: .inr (1, [.ref 4, .int fi]) :: .inl (0, 64, .inl g) :: .inr (0, [.ref 6, .ref 7, .int ke, .int ge, .int gr]) :: .inl (1, 50, .inl so) :: .inl (2, 64, .inl us) :: .inr (3, [.ref 9, .ref 10, .ref 11, .int en]) :: .inl (0, 2040, .inl co) :: .inl (1, 51, .inl le) :: .inl (1, 51, .inl ma) :: c12 :: c13 :: c14 :: c15 :: c16 :: c17 :: c18 :: c19 :: c20 :: .inl (3, 1, .inr (.inl q)) :: rest) ++ [.inr (6, [])]) v w)) := by
  refine am_mW (own := RL) (ini := (false, [(0, 10, 13, 13)])) (L := [some (.ref 0), some (.int k), some (.int i), some (.ref 21), none]) rfl (by decide) rfl rfl (Nat.le_of_ble_eq_true rfl) rfl rfl ?_
  iterate 5 refine am_s am_cls okL_at rfl ?_
  refine am_cT okL_at rfl (c_at_u l D tc b hl _ _ _ _ _ _ _ _ _ _ _ _ _ _ _ _ _ _ _ _ _ hn) cv_L_7 th_lat coX4_at rfl rfl rfl ⟨rfl, rfl, rfl⟩ ⟨by decide, by decide⟩ (x := ⟨0, 10, 13, 13⟩) rfl rfl (by decide) (c6 := 6) rfl th_cl th_ca th_hpt ?_ ?_
  · rintro _ _ (⟨hr, rfl, rfl⟩ | ⟨hr, rfl, rfl⟩)
    · refine am_s am_cls okL_at rfl ?_
      refine am_la okL_at rfl rfl rfl (vp_in_nI (n := 0) (N := 1) (by decide) (by decide)) rfl ?_
      iterate 2 refine am_s am_cls okL_at rfl ?_
      refine am_ri okL_at rfl rfl rfl (Nat.le_refl _) (Nat.le_refl _) ?_
      exact Or.inl ⟨hr, rfl, rfl⟩
    · refine am_s am_cls okL_at rfl ?_
      refine am_la okL_at rfl rfl rfl (vp_in_nI (n := 0) (N := 1) (by decide) (by decide)) rfl ?_
      iterate 2 refine am_s am_cls okL_at rfl ?_
      refine am_ri okL_at rfl rfl rfl (Nat.le_refl _) (Nat.le_refl _) ?_
      exact Or.inr (Or.inl ⟨hr, rfl, rfl⟩)
  · rintro _ _ ⟨hr, rfl, rfl⟩
    iterate 2 refine am_s am_cls okL_at rfl ?_
    refine am_ri okL_at rfl rfl rfl (Nat.le_refl _) (Nat.le_refl _) ?_
    exact Or.inr (Or.inr ⟨hr, rfl, rfl⟩)
set_option maxHeartbeats 4000000 in
set_option maxRecDepth 100000 in
theorem c_lat_d (hl : ∀ e : Env, l.admits e → e.platform.stackTraces = false) (c12 c13 c14 c15 c16 c17 c18 c19 c20 : am_E) (q : Nat → Int64) (rest : am_W) (n : Nat) (mr S wr cu te : Int32) (f g : Nat → Int32) (fi : Int32) (so us : Nat → Int32) (ke ge gr : Int32) (co le ma : Nat → Int32) (en : Int32) (k i : Int32)  : am_MW lw_tbl vwCl l D tc b yL_at cL_at 5 (some .int) [(0, 10, 13, 13)] 8 1 6 [.ref 0, .int k, .int i, .ref 21] (.inr (4, [.ref 1, .int mr, .ref 3, .ref 5, .ref 8, .int 1]) :: .inr (2, [.int S, .ref 2, .int wr, .int cu, .int te]) :: .inl (0, n, .inl f) :: .inr (1, [.ref 4, .int fi]) :: .inl (0, 64, .inl g) :: .inr (0, [.ref 6, .ref 7, .int ke, .int ge, .int gr]) :: .inl (1, 50, .inl so) :: .inl (2, 64, .inl us) :: .inr (3, [.ref 9, .ref 10, .ref 11, .int en]) :: .inl (0, 2040, .inl co) :: .inl (1, 51, .inl le) :: .inl (1, 51, .inl ma) :: c12 :: c13 :: c14 :: c15 :: c16 :: c17 :: c18 :: c19 :: c20 :: .inl (3, 1, .inr (.inl q)) :: rest)
    (am_is (some (.int 0)) (.inr (4, [.ref 1, .int mr, .ref 3, .ref 5, .ref 8, .int 1]) :: .inr (2, [.int S, .ref 2, .int wr, .int cu, .int te]) :: .inl (0, n, .inl f) :: .inr (1, [.ref 4, .int fi]) :: .inl (0, 64, .inl g) :: .inr (0, [.ref 6, .ref 7, .int ke, .int ge, .int gr]) :: .inl (1, 50, .inl so) :: .inl (2, 64, .inl us) :: .inr (3, [.ref 9, .ref 10, .ref 11, .int en]) :: .inl (0, 2040, .inl co) :: .inl (1, 51, .inl le) :: .inl (1, 51, .inl ma) :: c12 :: c13 :: c14 :: c15 :: c16 :: c17 :: c18 :: c19 :: c20 :: .inl (3, 1, .inr (.inl (vp_updL q (0 : Int32).toNatClampNeg (-33).toInt64))) :: rest)) := by
  refine am_mW (own := RL) (ini := (false, [(0, 10, 13, 13)])) (L := [some (.ref 0), some (.int k), some (.int i), some (.ref 21), none]) rfl (by decide) rfl rfl (Nat.le_of_ble_eq_true rfl) rfl rfl ?_
  iterate 5 refine am_s am_cls okL_at rfl ?_
  refine am_cT okL_at rfl (c_at_d l D tc b hl _ _ _ _ _ _ _ _ _ _ _ _ _ _ _ _ _ _ _ _ _) cv_L_7 th_lat coX4_at rfl rfl rfl ⟨rfl, rfl, rfl⟩ ⟨by decide, by decide⟩ (x := ⟨0, 10, 13, 13⟩) rfl rfl (by decide) (c6 := 6) rfl th_cl th_ca (fun _ _ h => absurd h id) ?_ ?_
  · rintro _ _ ⟨rfl, rfl⟩
    refine am_s am_cls okL_at rfl ?_
    refine am_la okL_at rfl rfl rfl (vp_in_nI (n := 0) (N := 1) (by decide) (by decide)) rfl ?_
    iterate 2 refine am_s am_cls okL_at rfl ?_
    refine am_ri okL_at rfl rfl rfl (Nat.le_refl _) (Nat.le_refl _) ?_
    exact ⟨rfl, rfl⟩
  · intro _ _ h
    exact absurd h id
end PD
