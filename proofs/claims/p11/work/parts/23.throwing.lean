theorem th_atoms : ∀ a ∈ Bundle.ownAtoms RX4 155 "java/lang/ArrayIndexOutOfBoundsException" ["java/lang/IndexOutOfBoundsException", "java/lang/RuntimeException", "java/lang/Exception"], (a ∈ lw_tbl ∧ (goodWord a = true ∨ (am_isN a = true ∧ a.onTables = true))) ∨ a = .laysStatic "java/lang/Throwable" "UNASSIGNED_STACK" "[Ljava/lang/StackTraceElement;" ∨ a = .laysStatic "java/lang/Throwable" "SUPPRESSED_SENTINEL" "Ljava/util/List;" ∨ a = .isRef (.static "java/lang/Throwable" "UNASSIGNED_STACK" "[Ljava/lang/StackTraceElement;") ∨ a = .isRef (.static "java/lang/Throwable" "SUPPRESSED_SENTINEL" "Ljava/util/List;") := by decide +kernel
theorem th_w1 : Cond.instantiable "java/lang/ArrayIndexOutOfBoundsException" 6 ∈ lw_tbl := by decide +kernel
theorem th_w2 : Cond.classLink RX4 151 "java/lang/ArrayIndexOutOfBoundsException" ∈ lw_tbl := by decide +kernel
theorem th_w3 : Cond.initialized "java/lang/ArrayIndexOutOfBoundsException" ∈ lw_tbl := by decide +kernel
theorem th_nm : ∀ n ∈ (["java/lang/IndexOutOfBoundsException", "java/lang/RuntimeException", "java/lang/Exception"] : List String), Bundle.fit n = true := by decide +kernel
theorem th_fit : Bundle.fit "java/lang/ArrayIndexOutOfBoundsException" = true := by decide +kernel
theorem dt_X4_at_24 : decode cX4_at 24 = .ok (.new 151, 3) := by decide +kernel
theorem dt_X4_at_27 : decode cX4_at 27 = .ok (.dup, 1) := by decide +kernel
theorem dt_X4_at_28 : decode cX4_at 28 = .ok (.ldc 153, 2) := by decide +kernel
theorem dt_X4_at_30 : decode cX4_at 30 = .ok (.invokespecial 155, 3) := by decide +kernel
theorem dt_X4_at_33 : decode cX4_at 33 = .ok (.athrow, 1) := by decide +kernel
theorem dt_X4_at_64 : decode cX4_at 64 = .ok (.new 151, 3) := by decide +kernel
theorem dt_X4_at_67 : decode cX4_at 67 = .ok (.dup, 1) := by decide +kernel
theorem dt_X4_at_68 : decode cX4_at 68 = .ok (.ldc 158, 2) := by decide +kernel
theorem dt_X4_at_70 : decode cX4_at 70 = .ok (.invokespecial 155, 3) := by decide +kernel
theorem dt_X4_at_73 : decode cX4_at 73 = .ok (.athrow, 1) := by decide +kernel
theorem dt_X4_poke_12 : decode cX4_poke 12 = .ok (.new 151, 3) := by decide +kernel
theorem dt_X4_poke_15 : decode cX4_poke 15 = .ok (.dup, 1) := by decide +kernel
theorem dt_X4_poke_16 : decode cX4_poke 16 = .ok (.ldc 163, 2) := by decide +kernel
theorem dt_X4_poke_18 : decode cX4_poke 18 = .ok (.invokespecial 155, 3) := by decide +kernel
theorem dt_X4_poke_21 : decode cX4_poke 21 = .ok (.athrow, 1) := by decide +kernel
theorem dt_X4_octet_12 : decode cX4_octet 12 = .ok (.new 151, 3) := by decide +kernel
theorem dt_X4_octet_15 : decode cX4_octet 15 = .ok (.dup, 1) := by decide +kernel
theorem dt_X4_octet_16 : decode cX4_octet 16 = .ok (.ldc 163, 2) := by decide +kernel
theorem dt_X4_octet_18 : decode cX4_octet 18 = .ok (.invokespecial 155, 3) := by decide +kernel
theorem dt_X4_octet_21 : decode cX4_octet 21 = .ok (.athrow, 1) := by decide +kernel
theorem th_s153 : Cond.stringRef RX4 153 "no such row" ∈ lw_tbl := by decide +kernel
theorem th_s158 : Cond.stringRef RX4 158 "no such byte of the row" ∈ lw_tbl := by decide +kernel
theorem th_s163 : Cond.stringRef RX4 163 "no such byte of the disk" ∈ lw_tbl := by decide +kernel
section PD
variable (l : Launch) (D : va_G) (tc : Nat → ClassId) (b : Nat)
set_option maxHeartbeats 4000000 in
set_option maxRecDepth 100000 in
theorem c_at_u (hl : ∀ e : Env, l.admits e → e.platform.stackTraces = false) (rest : am_W) (n : Nat) (mr S wr cu te : Int32) (f g : Nat → Int32) (fi : Int32) (so us : Nat → Int32) (ke ge gr : Int32) (co le ma : Nat → Int32) (en : Int32) (k i : Int32) (hn : pd_sz S n) : am_MT lw_tbl vwCl l D tc b yX4_at cX4_at 4 (some .int) 7 1 6 [.ref 0, .int k, .int i] (.inr (4, [.ref 1, .int mr, .ref 3, .ref 5, .ref 8, .int 0]) :: .inr (2, [.int S, .ref 2, .int wr, .int cu, .int te]) :: .inl (0, n, .inl f) :: .inr (1, [.ref 4, .int fi]) :: .inl (0, 64, .inl g) :: .inr (0, [.ref 6, .ref 7, .int ke, .int ge, .int gr]) :: .inl (1, 50, .inl so) :: .inl (2, 64, .inl us) :: .inr (3, [.ref 9, .ref 10, .ref 11, .int en]) :: .inl (0, 2040, .inl co) :: .inl (1, 51, .inl le) :: .inl (1, 51, .inl ma) :: rest)
    (fun v w => ((¬ (hd_sec so ke k) = -1 ∧ pd_row f S (hd_sec so ke k) = false) ∧ am_is (some (.int (-1))) (.inr (4, [.ref 1, .int mr, .ref 3, .ref 5, .ref 8, .int 0]) :: .inr (2, [.int S, .ref 2, .int wr, .int cu, .int te]) :: .inl (0, n, .inl f) :: .inr (1, [.ref 4, .int fi]) :: .inl (0, 64, .inl g) :: .inr (0, [.ref 6, .ref 7, .int ke, .int ge, .int gr]) :: .inl (1, 50, .inl so) :: .inl (2, 64, .inl us) :: .inr (3, [.ref 9, .ref 10, .ref 11, .int en]) :: .inl (0, 2040, .inl co) :: .inl (1, 51, .inl le) :: .inl (1, 51, .inl ma) :: rest) v w) ∨ ((¬ (hd_sec so ke k) = -1 ∧ pd_row f S (hd_sec so ke k) = true ∧ ¬ i < 0 ∧ i < pd_look f S (hd_sec so ke k) 5) ∧ am_is (some (.int (pd_look f S (hd_sec so ke k) (6 + i)))) (.inr (4, [.ref 1, .int mr, .ref 3, .ref 5, .ref 8, .int 0]) :: .inr (2, [.int S, .ref 2, .int wr, .int cu, .int te]) :: .inl (0, n, .inl f) :: .inr (1, [.ref 4, .int fi]) :: .inl (0, 64, .inl g) :: .inr (0, [.ref 6, .ref 7, .int ke, .int ge, .int gr]) :: .inl (1, 50, .inl so) :: .inl (2, 64, .inl us) :: .inr (3, [.ref 9, .ref 10, .ref 11, .int en]) :: .inl (0, 2040, .inl co) :: .inl (1, 51, .inl le) :: .inl (1, 51, .inl ma) :: rest) v w))
    (fun j w => ((hd_sec so ke k) = -1 ∨ (¬ (hd_sec so ke k) = -1 ∧ pd_row f S (hd_sec so ke k) = true ∧ (i < 0 ∨ ¬ i < pd_look f S (hd_sec so ke k) 5))) ∧ j = List.length (.inr (4, [.ref 1, .int mr, .ref 3, .ref 5, .ref 8, .int 0]) :: .inr (2, [.int S, .ref 2, .int wr, .int cu, .int te]) :: .inl (0, n, .inl f) :: .inr (1, [.ref 4, .int fi]) :: .inl (0, 64, .inl g) :: .inr (0, [.ref 6, .ref 7, .int ke, .int ge, .int gr]) :: .inl (1, 50, .inl so) :: .inl (2, 64, .inl us) :: .inr (3, [.ref 9, .ref 10, .ref 11, .int en]) :: .inl (0, 2040, .inl co) :: .inl (1, 51, .inl le) :: .inl (1, 51, .inl ma) :: rest) ∧ w = (.inr (4, [.ref 1, .int mr, .ref 3, .ref 5, .ref 8, .int 0]) :: .inr (2, [.int S, .ref 2, .int wr, .int cu, .int te]) :: .inl (0, n, .inl f) :: .inr (1, [.ref 4, .int fi]) :: .inl (0, 64, .inl g) :: .inr (0, [.ref 6, .ref 7, .int ke, .int ge, .int gr]) :: .inl (1, 50, .inl so) :: .inl (2, 64, .inl us) :: .inr (3, [.ref 9, .ref 10, .ref 11, .int en]) :: .inl (0, 2040, .inl co) :: .inl (1, 51, .inl le) :: .inl (1, 51, .inl ma) :: rest) ++ [.inr (6, [])]) := by
  refine am_mT (own := RX4) (ini := (false, [])) (L := [some (.ref 0), some (.int k), some (.int i), none]) rfl (by decide) (fun h => absurd h (by decide)) rfl (Nat.le_of_ble_eq_true rfl) rfl rfl ?_
  iterate 2 refine am_s am_cls okX4_at rfl ?_
  refine am_b okX4_at rfl (fun h4 => ?_) (fun h4 => ?_)
  · try replace h4 := pd_b0 h4
    iterate 3 refine am_s am_cls okX4_at rfl ?_
    refine am_cV okX4_at rfl (c_sectorOf l D tc b _ _ _ _ _ _ _ _ _ _ _ _) cv_X4_108 coX0_sectorOf rfl rfl rfl ⟨rfl, rfl, rfl⟩ ⟨Nat.zero_le _, Nat.zero_le _⟩ ?_
    rintro _ _ ⟨rfl, rfl⟩
    iterate 3 refine am_s am_cls okX4_at rfl ?_
    refine am_b okX4_at rfl (fun h21 => ?_) (fun h21 => ?_)
    · skip
      exact am_thr hl th_fit th_nm th_atoms th_w1 th_w2 th_w3 th_s153 (ci := 6) rfl rfl dt_X4_at_24 dt_X4_at_27 dt_X4_at_28 dt_X4_at_30 dt_X4_at_33 ⟨by decide, by decide⟩ ⟨by decide, by decide⟩ ⟨by decide, by decide⟩ (⟨Or.inl h21, rfl, rfl⟩)
    · skip
      iterate 3 refine am_s am_cls okX4_at rfl ?_
      refine am_cV okX4_at rfl (c_isRow l D tc b _ _ _ _ _ _ _ _ _ hn) cv_X4_136 coX2_isRow rfl rfl rfl ⟨rfl, rfl, rfl⟩ ⟨Nat.zero_le _, Nat.zero_le _⟩ ?_
      rintro _ _ ⟨rfl, rfl⟩
      refine am_b okX4_at rfl (fun h42 => ?_) (fun h42 => ?_)
      · try replace h42 := pd_b0 h42
        refine am_s am_cls okX4_at rfl ?_
        refine am_up (fun _ _ _ _ h => Or.inl h) ?_
        refine am_ri okX4_at rfl rfl rfl (Nat.zero_le _) (Nat.zero_le _) ?_
        exact Or.inl ⟨⟨h21, h42⟩, rfl, rfl⟩
      · try replace h42 := pd_b1 h42
        refine am_s am_cls okX4_at rfl ?_
        refine am_b okX4_at rfl (fun h48 => ?_) (fun h48 => ?_)
        · skip
          exact am_thr hl th_fit th_nm th_atoms th_w1 th_w2 th_w3 th_s158 (ci := 6) rfl rfl dt_X4_at_64 dt_X4_at_67 dt_X4_at_68 dt_X4_at_70 dt_X4_at_73 ⟨by decide, by decide⟩ ⟨by decide, by decide⟩ ⟨by decide, by decide⟩ (⟨Or.inr ⟨h21, h42, Or.inl h48⟩, rfl, rfl⟩)
        · skip
          iterate 5 refine am_s am_cls okX4_at rfl ?_
          refine am_cV okX4_at rfl (c_look l D tc b _ _ _ _ _ _ _ _ _ _ hn) cv_X4_142 coX2_look rfl rfl rfl ⟨rfl, rfl, rfl⟩ ⟨Nat.zero_le _, Nat.zero_le _⟩ ?_
          rintro _ _ ⟨rfl, rfl⟩
          refine am_b okX4_at rfl (fun h61 => ?_) (fun h61 => ?_)
          · skip
            iterate 6 refine am_s am_cls okX4_at rfl ?_
            refine am_cV okX4_at rfl (c_look l D tc b _ _ _ _ _ _ _ _ _ _ hn) cv_X4_142 coX2_look rfl rfl rfl ⟨rfl, rfl, rfl⟩ ⟨Nat.zero_le _, Nat.zero_le _⟩ ?_
            rintro _ _ ⟨rfl, rfl⟩
            refine am_up (fun _ _ _ _ h => Or.inl h) ?_
            refine am_ri okX4_at rfl rfl rfl (Nat.zero_le _) (Nat.zero_le _) ?_
            exact Or.inr ⟨⟨h21, h42, h48, h61⟩, rfl, rfl⟩
          · skip
            exact am_thr hl th_fit th_nm th_atoms th_w1 th_w2 th_w3 th_s158 (ci := 6) rfl rfl dt_X4_at_64 dt_X4_at_67 dt_X4_at_68 dt_X4_at_70 dt_X4_at_73 ⟨by decide, by decide⟩ ⟨by decide, by decide⟩ ⟨by decide, by decide⟩ (⟨Or.inr ⟨h21, h42, Or.inr h61⟩, rfl, rfl⟩)
  · exact absurd rfl h4
set_option maxHeartbeats 4000000 in
set_option maxRecDepth 100000 in
theorem c_at_d (hl : ∀ e : Env, l.admits e → e.platform.stackTraces = false) (rest : am_W) (n : Nat) (mr S wr cu te : Int32) (f g : Nat → Int32) (fi : Int32) (so us : Nat → Int32) (ke ge gr : Int32) (co le ma : Nat → Int32) (en : Int32) (k i : Int32)  : am_MT lw_tbl vwCl l D tc b yX4_at cX4_at 4 (some .int) 7 1 6 [.ref 0, .int k, .int i] (.inr (4, [.ref 1, .int mr, .ref 3, .ref 5, .ref 8, .int 1]) :: .inr (2, [.int S, .ref 2, .int wr, .int cu, .int te]) :: .inl (0, n, .inl f) :: .inr (1, [.ref 4, .int fi]) :: .inl (0, 64, .inl g) :: .inr (0, [.ref 6, .ref 7, .int ke, .int ge, .int gr]) :: .inl (1, 50, .inl so) :: .inl (2, 64, .inl us) :: .inr (3, [.ref 9, .ref 10, .ref 11, .int en]) :: .inl (0, 2040, .inl co) :: .inl (1, 51, .inl le) :: .inl (1, 51, .inl ma) :: rest)
    (am_is (some (.int (-33))) (.inr (4, [.ref 1, .int mr, .ref 3, .ref 5, .ref 8, .int 1]) :: .inr (2, [.int S, .ref 2, .int wr, .int cu, .int te]) :: .inl (0, n, .inl f) :: .inr (1, [.ref 4, .int fi]) :: .inl (0, 64, .inl g) :: .inr (0, [.ref 6, .ref 7, .int ke, .int ge, .int gr]) :: .inl (1, 50, .inl so) :: .inl (2, 64, .inl us) :: .inr (3, [.ref 9, .ref 10, .ref 11, .int en]) :: .inl (0, 2040, .inl co) :: .inl (1, 51, .inl le) :: .inl (1, 51, .inl ma) :: rest))
    (fun _ _ => False) := by
  refine am_mT (own := RX4) (ini := (false, [])) (L := [some (.ref 0), some (.int k), some (.int i), none]) rfl (by decide) (fun h => absurd h (by decide)) rfl (Nat.le_of_ble_eq_true rfl) rfl rfl ?_
  iterate 2 refine am_s am_cls okX4_at rfl ?_
  refine am_b okX4_at rfl (fun h4 => ?_) (fun h4 => ?_)
  · exact absurd h4 (by decide)
  · try replace h4 := pd_b1 h4
    refine am_s am_cls okX4_at rfl ?_
    refine am_up (fun _ _ _ _ h => Or.inl h) ?_
    refine am_ri okX4_at rfl rfl rfl (Nat.zero_le _) (Nat.zero_le _) ?_
    exact ⟨rfl, rfl⟩
set_option maxHeartbeats 4000000 in
set_option maxRecDepth 100000 in
theorem c_octet (hl : ∀ e : Env, l.admits e → e.platform.stackTraces = false) (rest : am_W) (n : Nat) (mr dn S wr cu te : Int32) (f g : Nat → Int32) (fi : Int32) (so us : Nat → Int32) (ke ge gr : Int32) (co le ma : Nat → Int32) (en : Int32) (s i : Int32) (hn : pd_sz S n) : am_MT lw_tbl vwCl l D tc b yX4_octet cX4_octet 3 (some .int) 7 1 6 [.ref 0, .int s, .int i] (.inr (4, [.ref 1, .int mr, .ref 3, .ref 5, .ref 8, .int dn]) :: .inr (2, [.int S, .ref 2, .int wr, .int cu, .int te]) :: .inl (0, n, .inl f) :: .inr (1, [.ref 4, .int fi]) :: .inl (0, 64, .inl g) :: .inr (0, [.ref 6, .ref 7, .int ke, .int ge, .int gr]) :: .inl (1, 50, .inl so) :: .inl (2, 64, .inl us) :: .inr (3, [.ref 9, .ref 10, .ref 11, .int en]) :: .inl (0, 2040, .inl co) :: .inl (1, 51, .inl le) :: .inl (1, 51, .inl ma) :: rest)
    (fun v w => pd_holds S s i = true ∧ am_is (some (.int (pd_look f S s i))) (.inr (4, [.ref 1, .int mr, .ref 3, .ref 5, .ref 8, .int dn]) :: .inr (2, [.int S, .ref 2, .int wr, .int cu, .int te]) :: .inl (0, n, .inl f) :: .inr (1, [.ref 4, .int fi]) :: .inl (0, 64, .inl g) :: .inr (0, [.ref 6, .ref 7, .int ke, .int ge, .int gr]) :: .inl (1, 50, .inl so) :: .inl (2, 64, .inl us) :: .inr (3, [.ref 9, .ref 10, .ref 11, .int en]) :: .inl (0, 2040, .inl co) :: .inl (1, 51, .inl le) :: .inl (1, 51, .inl ma) :: rest) v w)
    (fun j w => pd_holds S s i = false ∧ j = List.length (.inr (4, [.ref 1, .int mr, .ref 3, .ref 5, .ref 8, .int dn]) :: .inr (2, [.int S, .ref 2, .int wr, .int cu, .int te]) :: .inl (0, n, .inl f) :: .inr (1, [.ref 4, .int fi]) :: .inl (0, 64, .inl g) :: .inr (0, [.ref 6, .ref 7, .int ke, .int ge, .int gr]) :: .inl (1, 50, .inl so) :: .inl (2, 64, .inl us) :: .inr (3, [.ref 9, .ref 10, .ref 11, .int en]) :: .inl (0, 2040, .inl co) :: .inl (1, 51, .inl le) :: .inl (1, 51, .inl ma) :: rest) ∧ w = (.inr (4, [.ref 1, .int mr, .ref 3, .ref 5, .ref 8, .int dn]) :: .inr (2, [.int S, .ref 2, .int wr, .int cu, .int te]) :: .inl (0, n, .inl f) :: .inr (1, [.ref 4, .int fi]) :: .inl (0, 64, .inl g) :: .inr (0, [.ref 6, .ref 7, .int ke, .int ge, .int gr]) :: .inl (1, 50, .inl so) :: .inl (2, 64, .inl us) :: .inr (3, [.ref 9, .ref 10, .ref 11, .int en]) :: .inl (0, 2040, .inl co) :: .inl (1, 51, .inl le) :: .inl (1, 51, .inl ma) :: rest) ++ [.inr (6, [])]) := by
  refine am_mT (own := RX4) (ini := (false, [])) (L := [some (.ref 0), some (.int s), some (.int i)]) rfl (by decide) (fun h => absurd h (by decide)) rfl (Nat.le_of_ble_eq_true rfl) rfl rfl ?_
  iterate 4 refine am_s am_cls okX4_octet rfl ?_
  refine am_cV okX4_octet rfl (c_holds l D tc b _ _ _ _ _ _ _ _ _ _) cv_X4_160 coX2_holds rfl rfl rfl ⟨rfl, rfl, rfl⟩ ⟨Nat.zero_le _, Nat.zero_le _⟩ ?_
  rintro _ _ ⟨rfl, rfl⟩
  refine am_b okX4_octet rfl (fun h9 => ?_) (fun h9 => ?_)
  · try replace h9 := pd_b0 h9
    exact am_thr hl th_fit th_nm th_atoms th_w1 th_w2 th_w3 th_s163 (ci := 6) rfl rfl dt_X4_octet_12 dt_X4_octet_15 dt_X4_octet_16 dt_X4_octet_18 dt_X4_octet_21 ⟨by decide, by decide⟩ ⟨by decide, by decide⟩ ⟨by decide, by decide⟩ (⟨h9, rfl, rfl⟩)
  · try replace h9 := pd_b1 h9
    iterate 4 refine am_s am_cls okX4_octet rfl ?_
    refine am_cV okX4_octet rfl (c_look l D tc b _ _ _ _ _ _ _ _ _ _ hn) cv_X4_142 coX2_look rfl rfl rfl ⟨rfl, rfl, rfl⟩ ⟨Nat.zero_le _, Nat.zero_le _⟩ ?_
    rintro _ _ ⟨rfl, rfl⟩
    refine am_up (fun _ _ _ _ h => Or.inl h) ?_
    refine am_ri okX4_octet rfl rfl rfl (Nat.zero_le _) (Nat.zero_le _) ?_
    exact ⟨h9, rfl, rfl⟩
set_option maxHeartbeats 4000000 in
set_option maxRecDepth 100000 in
theorem c_poke (hl : ∀ e : Env, l.admits e → e.platform.stackTraces = false) (rest : am_W) (n : Nat) (mr dn S wr cu te : Int32) (f g : Nat → Int32) (fi : Int32) (so us : Nat → Int32) (ke ge gr : Int32) (co le ma : Nat → Int32) (en : Int32) (s i x : Int32) (hn : pd_sz S n) : am_MT lw_tbl vwCl l D tc b yX4_poke cX4_poke 4 (some .int) 7 1 6 [.ref 0, .int s, .int i, .int x] (.inr (4, [.ref 1, .int mr, .ref 3, .ref 5, .ref 8, .int dn]) :: .inr (2, [.int S, .ref 2, .int wr, .int cu, .int te]) :: .inl (0, n, .inl f) :: .inr (1, [.ref 4, .int fi]) :: .inl (0, 64, .inl g) :: .inr (0, [.ref 6, .ref 7, .int ke, .int ge, .int gr]) :: .inl (1, 50, .inl so) :: .inl (2, 64, .inl us) :: .inr (3, [.ref 9, .ref 10, .ref 11, .int en]) :: .inl (0, 2040, .inl co) :: .inl (1, 51, .inl le) :: .inl (1, 51, .inl ma) :: rest)
    (fun v w => pd_holds S s i = true ∧ am_is (some (.int (pd_look (pd_set f S s i (pd_look f S s i ^^^ x)) S s i))) (.inr (4, [.ref 1, .int mr, .ref 3, .ref 5, .ref 8, .int dn]) :: .inr (2, [.int S, .ref 2, .int wr, .int cu, .int te]) :: .inl (0, n, .inl (pd_set f S s i (pd_look f S s i ^^^ x))) :: .inr (1, [.ref 4, .int fi]) :: .inl (0, 64, .inl g) :: .inr (0, [.ref 6, .ref 7, .int ke, .int ge, .int gr]) :: .inl (1, 50, .inl so) :: .inl (2, 64, .inl us) :: .inr (3, [.ref 9, .ref 10, .ref 11, .int en]) :: .inl (0, 2040, .inl co) :: .inl (1, 51, .inl le) :: .inl (1, 51, .inl ma) :: rest) v w)
    (fun j w => pd_holds S s i = false ∧ j = List.length (.inr (4, [.ref 1, .int mr, .ref 3, .ref 5, .ref 8, .int dn]) :: .inr (2, [.int S, .ref 2, .int wr, .int cu, .int te]) :: .inl (0, n, .inl f) :: .inr (1, [.ref 4, .int fi]) :: .inl (0, 64, .inl g) :: .inr (0, [.ref 6, .ref 7, .int ke, .int ge, .int gr]) :: .inl (1, 50, .inl so) :: .inl (2, 64, .inl us) :: .inr (3, [.ref 9, .ref 10, .ref 11, .int en]) :: .inl (0, 2040, .inl co) :: .inl (1, 51, .inl le) :: .inl (1, 51, .inl ma) :: rest) ∧ w = (.inr (4, [.ref 1, .int mr, .ref 3, .ref 5, .ref 8, .int dn]) :: .inr (2, [.int S, .ref 2, .int wr, .int cu, .int te]) :: .inl (0, n, .inl f) :: .inr (1, [.ref 4, .int fi]) :: .inl (0, 64, .inl g) :: .inr (0, [.ref 6, .ref 7, .int ke, .int ge, .int gr]) :: .inl (1, 50, .inl so) :: .inl (2, 64, .inl us) :: .inr (3, [.ref 9, .ref 10, .ref 11, .int en]) :: .inl (0, 2040, .inl co) :: .inl (1, 51, .inl le) :: .inl (1, 51, .inl ma) :: rest) ++ [.inr (6, [])]) := by
  refine am_mT (own := RX4) (ini := (false, [])) (L := [some (.ref 0), some (.int s), some (.int i), some (.int x)]) rfl (by decide) (fun h => absurd h (by decide)) rfl (Nat.le_of_ble_eq_true rfl) rfl rfl ?_
  iterate 4 refine am_s am_cls okX4_poke rfl ?_
  refine am_cV okX4_poke rfl (c_holds l D tc b _ _ _ _ _ _ _ _ _ _) cv_X4_160 coX2_holds rfl rfl rfl ⟨rfl, rfl, rfl⟩ ⟨Nat.zero_le _, Nat.zero_le _⟩ ?_
  rintro _ _ ⟨rfl, rfl⟩
  refine am_b okX4_poke rfl (fun h9 => ?_) (fun h9 => ?_)
  · try replace h9 := pd_b0 h9
    exact am_thr hl th_fit th_nm th_atoms th_w1 th_w2 th_w3 th_s163 (ci := 6) rfl rfl dt_X4_poke_12 dt_X4_poke_15 dt_X4_poke_16 dt_X4_poke_18 dt_X4_poke_21 ⟨by decide, by decide⟩ ⟨by decide, by decide⟩ ⟨by decide, by decide⟩ (⟨h9, rfl, rfl⟩)
  · try replace h9 := pd_b1 h9
    iterate 8 refine am_s am_cls okX4_poke rfl ?_
    refine am_cV okX4_poke rfl (c_look l D tc b _ _ _ _ _ _ _ _ _ _ hn) cv_X4_142 coX2_look rfl rfl rfl ⟨rfl, rfl, rfl⟩ ⟨Nat.zero_le _, Nat.zero_le _⟩ ?_
    rintro _ _ ⟨rfl, rfl⟩
    iterate 2 refine am_s am_cls okX4_poke rfl ?_
    refine am_cV okX4_poke rfl (c_pset l D tc b _ _ _ _ _ _ _ _ _ _ _ hn) cv_X4_165 coX2_set rfl rfl rfl ⟨rfl, rfl, rfl⟩ ⟨Nat.zero_le _, Nat.zero_le _⟩ ?_
    rintro _ _ ⟨rfl, rfl⟩
    iterate 4 refine am_s am_cls okX4_poke rfl ?_
    refine am_cV okX4_poke rfl (c_look l D tc b _ _ _ _ _ _ _ _ _ _ hn) cv_X4_142 coX2_look rfl rfl rfl ⟨rfl, rfl, rfl⟩ ⟨Nat.zero_le _, Nat.zero_le _⟩ ?_
    rintro _ _ ⟨rfl, rfl⟩
    refine am_up (fun _ _ _ _ h => Or.inl h) ?_
    refine am_ri okX4_poke rfl rfl rfl (Nat.zero_le _) (Nat.zero_le _) ?_
    exact ⟨h9, rfl, rfl⟩
end PD
