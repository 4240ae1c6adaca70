/-! ===== printed by wip/pd_ref.py: the reference's simple methods ===== -/
def rf_S (x : Int32) : Int32 := if ¬ 16 ≤ x then 16 else if ¬ x ≤ 64 then 64 else x
def rf_n (ke wt ev : Int32) : Int32 := ke + wt + (if ev = 0 then 4 else 0)
def rf_room (S ke wt ev : Int32) : Bool := !decide (S - 2 ≤ rf_n ke wt ev) && !decide (50 ≤ rf_n ke wt ev)
theorem rf_ix {S s i : Int32} {n : Nat} (hn : pd_sz S n) (h : pd_holds S s i = true) : vp_in (64 * s + i) 4096 := by
  obtain ⟨a, c, h1, h2, rfl, rfl, e⟩ := pd_holds_nat hn h
  obtain ⟨N, -, hN, hN2⟩ := hn
  have e2 : (64 : Int32) * nI a + nI c = nI (64 * a + c) := by rw [show (64 : Int32) = nI 64 from rfl, pk_mul, nI_add]
  rw [e2]
  exact vp_in_nI (by omega) (by omega)
section PD
variable (l : Launch) (D : va_G) (tc : Nat → ClassId) (b : Nat)
set_option maxHeartbeats 4000000 in
set_option maxRecDepth 100000 in
theorem r_thrown (c0 c1 c2 c3 c4 c5 c6 c7 c8 c9 c10 c11 : am_E) (rest : am_W) (th S wr dn go ga te ge gr ke nx wt sz : Int32) (f so fi nu le bs ma sh : Nat → Int32)  : cM l D tc b yX5_thrown cX5_thrown 1 (some .int) 1 0 0 [.ref 12] (c0 :: c1 :: c2 :: c3 :: c4 :: c5 :: c6 :: c7 :: c8 :: c9 :: c10 :: c11 :: .inr (5, [.int th, .int S, .ref 13, .int wr, .int dn, .int go, .int ga, .int te, .int ge, .int gr, .int ke, .ref 14, .int nx, .int wt, .ref 15, .ref 16, .ref 17, .ref 18, .int sz, .ref 19, .ref 20]) :: .inl (1, 4096, .inl f) :: .inl (1, 50, .inl so) :: .inl (1, 50, .inl fi) :: .inl (1, 50, .inl nu) :: .inl (1, 50, .inl le) :: .inl (1, 2000, .inl bs) :: .inl (1, 40, .inl ma) :: .inl (1, 64, .inl sh) :: rest)
    (am_is (some (.int th)) (c0 :: c1 :: c2 :: c3 :: c4 :: c5 :: c6 :: c7 :: c8 :: c9 :: c10 :: c11 :: .inr (5, [.int th, .int S, .ref 13, .int wr, .int dn, .int go, .int ga, .int te, .int ge, .int gr, .int ke, .ref 14, .int nx, .int wt, .ref 15, .ref 16, .ref 17, .ref 18, .int sz, .ref 19, .ref 20]) :: .inl (1, 4096, .inl f) :: .inl (1, 50, .inl so) :: .inl (1, 50, .inl fi) :: .inl (1, 50, .inl nu) :: .inl (1, 50, .inl le) :: .inl (1, 2000, .inl bs) :: .inl (1, 40, .inl ma) :: .inl (1, 64, .inl sh) :: rest)) := by
  refine am_m (own := RX5) (ini := (false, [])) (L := [some (.ref 12)]) rfl (by decide) (fun h => absurd h (by decide)) rfl (Nat.le_of_ble_eq_true rfl) rfl rfl ?_
  iterate 2 refine am_s am_cls okX5_thrown rfl ?_
  refine am_ri okX5_thrown rfl rfl rfl (Nat.le_refl _) (Nat.le_refl _) ?_
  exact ⟨rfl, rfl⟩
set_option maxHeartbeats 4000000 in
set_option maxRecDepth 100000 in
theorem r_writes (c0 c1 c2 c3 c4 c5 c6 c7 c8 c9 c10 c11 : am_E) (rest : am_W) (th S wr dn go ga te ge gr ke nx wt sz : Int32) (f so fi nu le bs ma sh : Nat → Int32)  : cM l D tc b yX5_writes cX5_writes 1 (some .int) 1 0 0 [.ref 12] (c0 :: c1 :: c2 :: c3 :: c4 :: c5 :: c6 :: c7 :: c8 :: c9 :: c10 :: c11 :: .inr (5, [.int th, .int S, .ref 13, .int wr, .int dn, .int go, .int ga, .int te, .int ge, .int gr, .int ke, .ref 14, .int nx, .int wt, .ref 15, .ref 16, .ref 17, .ref 18, .int sz, .ref 19, .ref 20]) :: .inl (1, 4096, .inl f) :: .inl (1, 50, .inl so) :: .inl (1, 50, .inl fi) :: .inl (1, 50, .inl nu) :: .inl (1, 50, .inl le) :: .inl (1, 2000, .inl bs) :: .inl (1, 40, .inl ma) :: .inl (1, 64, .inl sh) :: rest)
    (am_is (some (.int wr)) (c0 :: c1 :: c2 :: c3 :: c4 :: c5 :: c6 :: c7 :: c8 :: c9 :: c10 :: c11 :: .inr (5, [.int 0, .int S, .ref 13, .int wr, .int dn, .int go, .int ga, .int te, .int ge, .int gr, .int ke, .ref 14, .int nx, .int wt, .ref 15, .ref 16, .ref 17, .ref 18, .int sz, .ref 19, .ref 20]) :: .inl (1, 4096, .inl f) :: .inl (1, 50, .inl so) :: .inl (1, 50, .inl fi) :: .inl (1, 50, .inl nu) :: .inl (1, 50, .inl le) :: .inl (1, 2000, .inl bs) :: .inl (1, 40, .inl ma) :: .inl (1, 64, .inl sh) :: rest)) := by
  refine am_m (own := RX5) (ini := (false, [])) (L := [some (.ref 12)]) rfl (by decide) (fun h => absurd h (by decide)) rfl (Nat.le_of_ble_eq_true rfl) rfl rfl ?_
  iterate 5 refine am_s am_cls okX5_writes rfl ?_
  refine am_ri okX5_writes rfl rfl rfl (Nat.le_refl _) (Nat.le_refl _) ?_
  exact ⟨rfl, rfl⟩
set_option maxHeartbeats 4000000 in
set_option maxRecDepth 100000 in
theorem r_hasRoom (c0 c1 c2 c3 c4 c5 c6 c7 c8 c9 c10 c11 : am_E) (rest : am_W) (th S wr dn go ga te ge gr ke nx wt sz : Int32) (f so fi nu le bs ma sh : Nat → Int32) (ev : Int32)  : cM l D tc b yX5_hasRoom cX5_hasRoom 3 (some .boolean) 1 0 0 [.ref 12, .int ev] (c0 :: c1 :: c2 :: c3 :: c4 :: c5 :: c6 :: c7 :: c8 :: c9 :: c10 :: c11 :: .inr (5, [.int th, .int S, .ref 13, .int wr, .int dn, .int go, .int ga, .int te, .int ge, .int gr, .int ke, .ref 14, .int nx, .int wt, .ref 15, .ref 16, .ref 17, .ref 18, .int sz, .ref 19, .ref 20]) :: .inl (1, 4096, .inl f) :: .inl (1, 50, .inl so) :: .inl (1, 50, .inl fi) :: .inl (1, 50, .inl nu) :: .inl (1, 50, .inl le) :: .inl (1, 2000, .inl bs) :: .inl (1, 40, .inl ma) :: .inl (1, 64, .inl sh) :: rest)
    (am_is (some (.int (pd_b (rf_room S ke wt ev)))) (c0 :: c1 :: c2 :: c3 :: c4 :: c5 :: c6 :: c7 :: c8 :: c9 :: c10 :: c11 :: .inr (5, [.int th, .int S, .ref 13, .int wr, .int dn, .int go, .int ga, .int te, .int ge, .int gr, .int ke, .ref 14, .int nx, .int wt, .ref 15, .ref 16, .ref 17, .ref 18, .int sz, .ref 19, .ref 20]) :: .inl (1, 4096, .inl f) :: .inl (1, 50, .inl so) :: .inl (1, 50, .inl fi) :: .inl (1, 50, .inl nu) :: .inl (1, 50, .inl le) :: .inl (1, 2000, .inl bs) :: .inl (1, 40, .inl ma) :: .inl (1, 64, .inl sh) :: rest)) := by
  refine am_m (own := RX5) (ini := (false, [])) (L := [some (.ref 12), some (.int ev), none]) rfl (by decide) (fun h => absurd h (by decide)) rfl (Nat.le_of_ble_eq_true rfl) rfl rfl ?_
  iterate 6 refine am_s am_cls okX5_hasRoom rfl ?_
  refine am_b okX5_hasRoom rfl (fun h10 => ?_) (fun h10 => ?_)
  · try replace h10 := pd_b0 h10
    iterate 8 refine am_s am_cls okX5_hasRoom rfl ?_
    refine am_b okX5_hasRoom rfl (fun h27 => ?_) (fun h27 => ?_)
    · skip
      refine am_s am_cls okX5_hasRoom rfl ?_
      refine am_rz okX5_hasRoom rfl rfl rfl (by decide) (Nat.le_refl _) (Nat.le_refl _) ?_
      try simp only [Int32.add_zero] at h27
      try simp only [Int32.add_zero] at h33
      exact ⟨by simp [rf_room, rf_n, pd_bt, pd_bf, *], rfl⟩
    · skip
      iterate 2 refine am_s am_cls okX5_hasRoom rfl ?_
      refine am_b okX5_hasRoom rfl (fun h33 => ?_) (fun h33 => ?_)
      · skip
        refine am_s am_cls okX5_hasRoom rfl ?_
        refine am_rz okX5_hasRoom rfl rfl rfl (by decide) (Nat.le_refl _) (Nat.le_refl _) ?_
        try simp only [Int32.add_zero] at h27
        try simp only [Int32.add_zero] at h33
        exact ⟨by simp [rf_room, rf_n, pd_bt, pd_bf, *], rfl⟩
      · skip
        iterate 2 refine am_s am_cls okX5_hasRoom rfl ?_
        refine am_rz okX5_hasRoom rfl rfl rfl (by decide) (Nat.le_refl _) (Nat.le_refl _) ?_
        try simp only [Int32.add_zero] at h27
        try simp only [Int32.add_zero] at h33
        exact ⟨by simp [rf_room, rf_n, pd_bt, pd_bf, *], rfl⟩
  · try replace h10 := pd_b1 h10
    iterate 9 refine am_s am_cls okX5_hasRoom rfl ?_
    refine am_b okX5_hasRoom rfl (fun h27 => ?_) (fun h27 => ?_)
    · skip
      refine am_s am_cls okX5_hasRoom rfl ?_
      refine am_rz okX5_hasRoom rfl rfl rfl (by decide) (Nat.le_refl _) (Nat.le_refl _) ?_
      try simp only [Int32.add_zero] at h27
      try simp only [Int32.add_zero] at h33
      exact ⟨by simp [rf_room, rf_n, pd_bt, pd_bf, *], rfl⟩
    · skip
      iterate 2 refine am_s am_cls okX5_hasRoom rfl ?_
      refine am_b okX5_hasRoom rfl (fun h33 => ?_) (fun h33 => ?_)
      · skip
        refine am_s am_cls okX5_hasRoom rfl ?_
        refine am_rz okX5_hasRoom rfl rfl rfl (by decide) (Nat.le_refl _) (Nat.le_refl _) ?_
        try simp only [Int32.add_zero] at h27
        try simp only [Int32.add_zero] at h33
        exact ⟨by simp [rf_room, rf_n, pd_bt, pd_bf, *], rfl⟩
      · skip
        iterate 2 refine am_s am_cls okX5_hasRoom rfl ?_
        refine am_rz okX5_hasRoom rfl rfl rfl (by decide) (Nat.le_refl _) (Nat.le_refl _) ?_
        try simp only [Int32.add_zero] at h27
        try simp only [Int32.add_zero] at h33
        exact ⟨by simp [rf_room, rf_n, pd_bt, pd_bf, *], rfl⟩
set_option maxHeartbeats 4000000 in
set_option maxRecDepth 100000 in
theorem r_isByte (c0 c1 c2 c3 c4 c5 c6 c7 c8 c9 c10 c11 : am_E) (rest : am_W) (th S wr dn go ga te ge gr ke nx wt sz : Int32) (f so fi nu le bs ma sh : Nat → Int32) (s i : Int32)  : cM l D tc b yX5_isByte cX5_isByte 3 (some .boolean) 1 0 0 [.ref 12, .int s, .int i] (c0 :: c1 :: c2 :: c3 :: c4 :: c5 :: c6 :: c7 :: c8 :: c9 :: c10 :: c11 :: .inr (5, [.int th, .int S, .ref 13, .int wr, .int dn, .int go, .int ga, .int te, .int ge, .int gr, .int ke, .ref 14, .int nx, .int wt, .ref 15, .ref 16, .ref 17, .ref 18, .int sz, .ref 19, .ref 20]) :: .inl (1, 4096, .inl f) :: .inl (1, 50, .inl so) :: .inl (1, 50, .inl fi) :: .inl (1, 50, .inl nu) :: .inl (1, 50, .inl le) :: .inl (1, 2000, .inl bs) :: .inl (1, 40, .inl ma) :: .inl (1, 64, .inl sh) :: rest)
    (am_is (some (.int (pd_b (pd_holds S s i)))) (c0 :: c1 :: c2 :: c3 :: c4 :: c5 :: c6 :: c7 :: c8 :: c9 :: c10 :: c11 :: .inr (5, [.int th, .int S, .ref 13, .int wr, .int dn, .int go, .int ga, .int te, .int ge, .int gr, .int ke, .ref 14, .int nx, .int wt, .ref 15, .ref 16, .ref 17, .ref 18, .int sz, .ref 19, .ref 20]) :: .inl (1, 4096, .inl f) :: .inl (1, 50, .inl so) :: .inl (1, 50, .inl fi) :: .inl (1, 50, .inl nu) :: .inl (1, 50, .inl le) :: .inl (1, 2000, .inl bs) :: .inl (1, 40, .inl ma) :: .inl (1, 64, .inl sh) :: rest)) := by
  refine am_m (own := RX5) (ini := (false, [])) (L := [some (.ref 12), some (.int s), some (.int i)]) rfl (by decide) (fun h => absurd h (by decide)) rfl (Nat.le_of_ble_eq_true rfl) rfl rfl ?_
  refine am_s am_cls okX5_isByte rfl ?_
  refine am_b okX5_isByte rfl (fun h1 => ?_) (fun h1 => ?_)
  · skip
    refine am_s am_cls okX5_isByte rfl ?_
    refine am_rz okX5_isByte rfl rfl rfl (by decide) (Nat.le_refl _) (Nat.le_refl _) ?_
    exact ⟨by simp [pd_holds, pd_bt, pd_bf, *], rfl⟩
  · skip
    iterate 3 refine am_s am_cls okX5_isByte rfl ?_
    refine am_b okX5_isByte rfl (fun h9 => ?_) (fun h9 => ?_)
    · skip
      refine am_s am_cls okX5_isByte rfl ?_
      refine am_rz okX5_isByte rfl rfl rfl (by decide) (Nat.le_refl _) (Nat.le_refl _) ?_
      exact ⟨by simp [pd_holds, pd_bt, pd_bf, *], rfl⟩
    · skip
      refine am_s am_cls okX5_isByte rfl ?_
      refine am_b okX5_isByte rfl (fun h13 => ?_) (fun h13 => ?_)
      · skip
        refine am_s am_cls okX5_isByte rfl ?_
        refine am_rz okX5_isByte rfl rfl rfl (by decide) (Nat.le_refl _) (Nat.le_refl _) ?_
        exact ⟨by simp [pd_holds, pd_bt, pd_bf, *], rfl⟩
      · skip
        iterate 2 refine am_s am_cls okX5_isByte rfl ?_
        refine am_b okX5_isByte rfl (fun h19 => ?_) (fun h19 => ?_)
        · skip
          refine am_s am_cls okX5_isByte rfl ?_
          refine am_rz okX5_isByte rfl rfl rfl (by decide) (Nat.le_refl _) (Nat.le_refl _) ?_
          exact ⟨by simp [pd_holds, pd_bt, pd_bf, *], rfl⟩
        · skip
          iterate 2 refine am_s am_cls okX5_isByte rfl ?_
          refine am_rz okX5_isByte rfl rfl rfl (by decide) (Nat.le_refl _) (Nat.le_refl _) ?_
          exact ⟨by simp [pd_holds, pd_bt, pd_bf, *], rfl⟩
set_option maxHeartbeats 4000000 in
set_option maxRecDepth 100000 in
theorem r_octet (c0 c1 c2 c3 c4 c5 c6 c7 c8 c9 c10 c11 : am_E) (rest : am_W) (th S wr dn go ga te ge gr ke nx wt sz : Int32) (f so fi nu le bs ma sh : Nat → Int32) (s i : Int32) {n : Nat} (hn : pd_sz S n) : cM l D tc b yX5_octet cX5_octet 3 (some .int) 2 0 0 [.ref 12, .int s, .int i] (c0 :: c1 :: c2 :: c3 :: c4 :: c5 :: c6 :: c7 :: c8 :: c9 :: c10 :: c11 :: .inr (5, [.int th, .int S, .ref 13, .int wr, .int dn, .int go, .int ga, .int te, .int ge, .int gr, .int ke, .ref 14, .int nx, .int wt, .ref 15, .ref 16, .ref 17, .ref 18, .int sz, .ref 19, .ref 20]) :: .inl (1, 4096, .inl f) :: .inl (1, 50, .inl so) :: .inl (1, 50, .inl fi) :: .inl (1, 50, .inl nu) :: .inl (1, 50, .inl le) :: .inl (1, 2000, .inl bs) :: .inl (1, 40, .inl ma) :: .inl (1, 64, .inl sh) :: rest)
    (fun v w => (pd_holds S s i = true ∧ am_is (some (.int (f (64 * s + i).toNatClampNeg))) (c0 :: c1 :: c2 :: c3 :: c4 :: c5 :: c6 :: c7 :: c8 :: c9 :: c10 :: c11 :: .inr (5, [.int 0, .int S, .ref 13, .int wr, .int dn, .int go, .int ga, .int te, .int ge, .int gr, .int ke, .ref 14, .int nx, .int wt, .ref 15, .ref 16, .ref 17, .ref 18, .int sz, .ref 19, .ref 20]) :: .inl (1, 4096, .inl f) :: .inl (1, 50, .inl so) :: .inl (1, 50, .inl fi) :: .inl (1, 50, .inl nu) :: .inl (1, 50, .inl le) :: .inl (1, 2000, .inl bs) :: .inl (1, 40, .inl ma) :: .inl (1, 64, .inl sh) :: rest) v w) ∨ (pd_holds S s i = false ∧ am_is (some (.int 0)) (c0 :: c1 :: c2 :: c3 :: c4 :: c5 :: c6 :: c7 :: c8 :: c9 :: c10 :: c11 :: .inr (5, [.int 1, .int S, .ref 13, .int wr, .int dn, .int go, .int ga, .int te, .int ge, .int gr, .int ke, .ref 14, .int nx, .int wt, .ref 15, .ref 16, .ref 17, .ref 18, .int sz, .ref 19, .ref 20]) :: .inl (1, 4096, .inl f) :: .inl (1, 50, .inl so) :: .inl (1, 50, .inl fi) :: .inl (1, 50, .inl nu) :: .inl (1, 50, .inl le) :: .inl (1, 2000, .inl bs) :: .inl (1, 40, .inl ma) :: .inl (1, 64, .inl sh) :: rest) v w)) := by
  refine am_m (own := RX5) (ini := (false, [])) (L := [some (.ref 12), some (.int s), some (.int i)]) rfl (by decide) (fun h => absurd h (by decide)) rfl (Nat.le_of_ble_eq_true rfl) rfl rfl ?_
  iterate 4 refine am_s am_cls okX5_octet rfl ?_
  refine am_cV okX5_octet rfl (r_isByte l D tc b _ _ _ _ _ _ _ _ _ _ _ _ _ _ _ _ _ _ _ _ _ _ _ _ _ _ _ _ _ _ _ _ _ _ _ _) cv_X5_132 coX5_isByte rfl rfl rfl ⟨rfl, rfl, rfl⟩ ⟨Nat.le_refl _, Nat.le_refl _⟩ ?_
  rintro _ _ ⟨rfl, rfl⟩
  refine am_b okX5_octet rfl (fun h7 => ?_) (fun h7 => ?_)
  · try replace h7 := pd_b0 h7
    iterate 4 refine am_s am_cls okX5_octet rfl ?_
    refine am_b okX5_octet rfl (fun h22 => ?_) (fun h22 => ?_)
    · exact absurd h22 (by decide)
    · skip
      iterate 2 refine am_s am_cls okX5_octet rfl ?_
      refine am_ri okX5_octet rfl rfl rfl (Nat.le_refl _) (Nat.le_refl _) ?_
      exact Or.inr ⟨h7, rfl, rfl⟩
  · try replace h7 := pd_b1 h7
    iterate 5 refine am_s am_cls okX5_octet rfl ?_
    refine am_b okX5_octet rfl (fun h22 => ?_) (fun h22 => ?_)
    · skip
      iterate 7 refine am_s am_cls okX5_octet rfl ?_
      refine am_al okX5_octet rfl (rf_ix hn h7) ?_
      refine am_ri okX5_octet rfl rfl rfl (Nat.le_refl _) (Nat.le_refl _) ?_
      exact Or.inl ⟨h7, rfl, rfl⟩
    · exact absurd (by decide) h22
set_option maxHeartbeats 4000000 in
set_option maxRecDepth 100000 in
theorem r_poke (c0 c1 c2 c3 c4 c5 c6 c7 c8 c9 c10 c11 : am_E) (rest : am_W) (th S wr dn go ga te ge gr ke nx wt sz : Int32) (f so fi nu le bs ma sh : Nat → Int32) (s i x : Int32) {n : Nat} (hn : pd_sz S n) : cM l D tc b yX5_poke cX5_poke 4 (some .int) 2 0 0 [.ref 12, .int s, .int i, .int x] (c0 :: c1 :: c2 :: c3 :: c4 :: c5 :: c6 :: c7 :: c8 :: c9 :: c10 :: c11 :: .inr (5, [.int th, .int S, .ref 13, .int wr, .int dn, .int go, .int ga, .int te, .int ge, .int gr, .int ke, .ref 14, .int nx, .int wt, .ref 15, .ref 16, .ref 17, .ref 18, .int sz, .ref 19, .ref 20]) :: .inl (1, 4096, .inl f) :: .inl (1, 50, .inl so) :: .inl (1, 50, .inl fi) :: .inl (1, 50, .inl nu) :: .inl (1, 50, .inl le) :: .inl (1, 2000, .inl bs) :: .inl (1, 40, .inl ma) :: .inl (1, 64, .inl sh) :: rest)
    (fun v w => (pd_holds S s i = true ∧ am_is (some (.int (f (64 * s + i).toNatClampNeg ^^^ (x &&& 255)))) (c0 :: c1 :: c2 :: c3 :: c4 :: c5 :: c6 :: c7 :: c8 :: c9 :: c10 :: c11 :: .inr (5, [.int 0, .int S, .ref 13, .int wr, .int dn, .int go, .int ga, .int te, .int ge, .int gr, .int ke, .ref 14, .int nx, .int wt, .ref 15, .ref 16, .ref 17, .ref 18, .int sz, .ref 19, .ref 20]) :: .inl (1, 4096, .inl (upd f (64 * s + i).toNatClampNeg (f (64 * s + i).toNatClampNeg ^^^ (x &&& 255)))) :: .inl (1, 50, .inl so) :: .inl (1, 50, .inl fi) :: .inl (1, 50, .inl nu) :: .inl (1, 50, .inl le) :: .inl (1, 2000, .inl bs) :: .inl (1, 40, .inl ma) :: .inl (1, 64, .inl sh) :: rest) v w) ∨ (pd_holds S s i = false ∧ am_is (some (.int 0)) (c0 :: c1 :: c2 :: c3 :: c4 :: c5 :: c6 :: c7 :: c8 :: c9 :: c10 :: c11 :: .inr (5, [.int 1, .int S, .ref 13, .int wr, .int dn, .int go, .int ga, .int te, .int ge, .int gr, .int ke, .ref 14, .int nx, .int wt, .ref 15, .ref 16, .ref 17, .ref 18, .int sz, .ref 19, .ref 20]) :: .inl (1, 4096, .inl f) :: .inl (1, 50, .inl so) :: .inl (1, 50, .inl fi) :: .inl (1, 50, .inl nu) :: .inl (1, 50, .inl le) :: .inl (1, 2000, .inl bs) :: .inl (1, 40, .inl ma) :: .inl (1, 64, .inl sh) :: rest) v w)) := by
  refine am_m (own := RX5) (ini := (false, [])) (L := [some (.ref 12), some (.int s), some (.int i), some (.int x)]) rfl (by decide) (fun h => absurd h (by decide)) rfl (Nat.le_of_ble_eq_true rfl) rfl rfl ?_
  iterate 4 refine am_s am_cls okX5_poke rfl ?_
  refine am_cV okX5_poke rfl (r_isByte l D tc b _ _ _ _ _ _ _ _ _ _ _ _ _ _ _ _ _ _ _ _ _ _ _ _ _ _ _ _ _ _ _ _ _ _ _ _) cv_X5_132 coX5_isByte rfl rfl rfl ⟨rfl, rfl, rfl⟩ ⟨Nat.le_refl _, Nat.le_refl _⟩ ?_
  rintro _ _ ⟨rfl, rfl⟩
  refine am_b okX5_poke rfl (fun h7 => ?_) (fun h7 => ?_)
  · try replace h7 := pd_b0 h7
    iterate 4 refine am_s am_cls okX5_poke rfl ?_
    refine am_b okX5_poke rfl (fun h22 => ?_) (fun h22 => ?_)
    · exact absurd h22 (by decide)
    · skip
      refine am_s am_cls okX5_poke rfl ?_
      refine am_ri okX5_poke rfl rfl rfl (Nat.le_refl _) (Nat.le_refl _) ?_
      exact Or.inr ⟨h7, rfl, rfl⟩
  · try replace h7 := pd_b1 h7
    iterate 5 refine am_s am_cls okX5_poke rfl ?_
    refine am_b okX5_poke rfl (fun h22 => ?_) (fun h22 => ?_)
    · skip
      iterate 14 refine am_s am_cls okX5_poke rfl ?_
      refine am_al okX5_poke rfl (rf_ix hn h7) ?_
      iterate 4 refine am_s am_cls okX5_poke rfl ?_
      refine am_as okX5_poke rfl (rf_ix hn h7) ?_
      iterate 7 refine am_s am_cls okX5_poke rfl ?_
      refine am_al okX5_poke rfl (rf_ix hn h7) ?_
      refine am_ri okX5_poke rfl rfl rfl (Nat.le_refl _) (Nat.le_refl _) ?_
      exact Or.inl ⟨h7, by simp [upd], rfl⟩
    · exact absurd (by decide) h22
set_option maxHeartbeats 4000000 in
set_option maxRecDepth 100000 in
theorem r_add_d (c0 c1 c2 c3 c4 c5 c6 c7 c8 c9 c10 c11 : am_E) (rest : am_W) (th S wr go ga te ge gr ke nx wt sz : Int32) (f so fi nu le bs ma sh : Nat → Int32) (x : Int32)  : cM l D tc b yX5_add cX5_add 2 (some .int) 1 0 0 [.ref 12, .int x] (c0 :: c1 :: c2 :: c3 :: c4 :: c5 :: c6 :: c7 :: c8 :: c9 :: c10 :: c11 :: .inr (5, [.int th, .int S, .ref 13, .int wr, .int 1, .int go, .int ga, .int te, .int ge, .int gr, .int ke, .ref 14, .int nx, .int wt, .ref 15, .ref 16, .ref 17, .ref 18, .int sz, .ref 19, .ref 20]) :: .inl (1, 4096, .inl f) :: .inl (1, 50, .inl so) :: .inl (1, 50, .inl fi) :: .inl (1, 50, .inl nu) :: .inl (1, 50, .inl le) :: .inl (1, 2000, .inl bs) :: .inl (1, 40, .inl ma) :: .inl (1, 64, .inl sh) :: rest)
    (am_is (some (.int (-33))) (c0 :: c1 :: c2 :: c3 :: c4 :: c5 :: c6 :: c7 :: c8 :: c9 :: c10 :: c11 :: .inr (5, [.int 0, .int S, .ref 13, .int wr, .int 1, .int go, .int ga, .int te, .int ge, .int gr, .int ke, .ref 14, .int nx, .int wt, .ref 15, .ref 16, .ref 17, .ref 18, .int sz, .ref 19, .ref 20]) :: .inl (1, 4096, .inl f) :: .inl (1, 50, .inl so) :: .inl (1, 50, .inl fi) :: .inl (1, 50, .inl nu) :: .inl (1, 50, .inl le) :: .inl (1, 2000, .inl bs) :: .inl (1, 40, .inl ma) :: .inl (1, 64, .inl sh) :: rest)) := by
  refine am_m (own := RX5) (ini := (false, [])) (L := [some (.ref 12), some (.int x)]) rfl (by decide) (fun h => absurd h (by decide)) rfl (Nat.le_of_ble_eq_true rfl) rfl rfl ?_
  iterate 5 refine am_s am_cls okX5_add rfl ?_
  refine am_b okX5_add rfl (fun h9 => ?_) (fun h9 => ?_)
  · exact absurd h9 (by decide)
  · try replace h9 := pd_b1 h9
    refine am_s am_cls okX5_add rfl ?_
    refine am_ri okX5_add rfl rfl rfl (Nat.le_refl _) (Nat.le_refl _) ?_
    exact ⟨rfl, rfl⟩
set_option maxHeartbeats 4000000 in
set_option maxRecDepth 100000 in
theorem r_sync_d (c0 c1 c2 c3 c4 c5 c6 c7 c8 c9 c10 c11 : am_E) (rest : am_W) (th S wr go ga te ge gr ke nx wt sz : Int32) (f so fi nu le bs ma sh : Nat → Int32)  : cM l D tc b yX5_sync cX5_sync 4 (some .int) 1 0 0 [.ref 12] (c0 :: c1 :: c2 :: c3 :: c4 :: c5 :: c6 :: c7 :: c8 :: c9 :: c10 :: c11 :: .inr (5, [.int th, .int S, .ref 13, .int wr, .int 1, .int go, .int ga, .int te, .int ge, .int gr, .int ke, .ref 14, .int nx, .int wt, .ref 15, .ref 16, .ref 17, .ref 18, .int sz, .ref 19, .ref 20]) :: .inl (1, 4096, .inl f) :: .inl (1, 50, .inl so) :: .inl (1, 50, .inl fi) :: .inl (1, 50, .inl nu) :: .inl (1, 50, .inl le) :: .inl (1, 2000, .inl bs) :: .inl (1, 40, .inl ma) :: .inl (1, 64, .inl sh) :: rest)
    (am_is (some (.int (-33))) (c0 :: c1 :: c2 :: c3 :: c4 :: c5 :: c6 :: c7 :: c8 :: c9 :: c10 :: c11 :: .inr (5, [.int 0, .int S, .ref 13, .int wr, .int 1, .int go, .int ga, .int te, .int ge, .int gr, .int ke, .ref 14, .int nx, .int wt, .ref 15, .ref 16, .ref 17, .ref 18, .int sz, .ref 19, .ref 20]) :: .inl (1, 4096, .inl f) :: .inl (1, 50, .inl so) :: .inl (1, 50, .inl fi) :: .inl (1, 50, .inl nu) :: .inl (1, 50, .inl le) :: .inl (1, 2000, .inl bs) :: .inl (1, 40, .inl ma) :: .inl (1, 64, .inl sh) :: rest)) := by
  refine am_m (own := RX5) (ini := (false, [])) (L := [some (.ref 12), none, none, none]) rfl (by decide) (fun h => absurd h (by decide)) rfl (Nat.le_of_ble_eq_true rfl) rfl rfl ?_
  iterate 5 refine am_s am_cls okX5_sync rfl ?_
  refine am_b okX5_sync rfl (fun h9 => ?_) (fun h9 => ?_)
  · exact absurd h9 (by decide)
  · try replace h9 := pd_b1 h9
    refine am_s am_cls okX5_sync rfl ?_
    refine am_ri okX5_sync rfl rfl rfl (Nat.le_refl _) (Nat.le_refl _) ?_
    exact ⟨rfl, rfl⟩
set_option maxHeartbeats 4000000 in
set_option maxRecDepth 100000 in
theorem r_merge_d (c0 c1 c2 c3 c4 c5 c6 c7 c8 c9 c10 c11 : am_E) (rest : am_W) (th S wr go ga te ge gr ke nx wt sz : Int32) (f so fi nu le bs ma sh : Nat → Int32) (x : Int32)  : cM l D tc b yX5_merge cX5_merge 6 (some .int) 1 0 0 [.ref 12, .int x] (c0 :: c1 :: c2 :: c3 :: c4 :: c5 :: c6 :: c7 :: c8 :: c9 :: c10 :: c11 :: .inr (5, [.int th, .int S, .ref 13, .int wr, .int 1, .int go, .int ga, .int te, .int ge, .int gr, .int ke, .ref 14, .int nx, .int wt, .ref 15, .ref 16, .ref 17, .ref 18, .int sz, .ref 19, .ref 20]) :: .inl (1, 4096, .inl f) :: .inl (1, 50, .inl so) :: .inl (1, 50, .inl fi) :: .inl (1, 50, .inl nu) :: .inl (1, 50, .inl le) :: .inl (1, 2000, .inl bs) :: .inl (1, 40, .inl ma) :: .inl (1, 64, .inl sh) :: rest)
    (am_is (some (.int (-33))) (c0 :: c1 :: c2 :: c3 :: c4 :: c5 :: c6 :: c7 :: c8 :: c9 :: c10 :: c11 :: .inr (5, [.int 0, .int S, .ref 13, .int wr, .int 1, .int go, .int ga, .int te, .int ge, .int gr, .int ke, .ref 14, .int nx, .int wt, .ref 15, .ref 16, .ref 17, .ref 18, .int sz, .ref 19, .ref 20]) :: .inl (1, 4096, .inl f) :: .inl (1, 50, .inl so) :: .inl (1, 50, .inl fi) :: .inl (1, 50, .inl nu) :: .inl (1, 50, .inl le) :: .inl (1, 2000, .inl bs) :: .inl (1, 40, .inl ma) :: .inl (1, 64, .inl sh) :: rest)) := by
  refine am_m (own := RX5) (ini := (false, [])) (L := [some (.ref 12), some (.int x), none, none, none, none]) rfl (by decide) (fun h => absurd h (by decide)) rfl (Nat.le_of_ble_eq_true rfl) rfl rfl ?_
  iterate 5 refine am_s am_cls okX5_merge rfl ?_
  refine am_b okX5_merge rfl (fun h9 => ?_) (fun h9 => ?_)
  · exact absurd h9 (by decide)
  · try replace h9 := pd_b1 h9
    refine am_s am_cls okX5_merge rfl ?_
    refine am_ri okX5_merge rfl rfl rfl (Nat.le_refl _) (Nat.le_refl _) ?_
    exact ⟨rfl, rfl⟩
set_option maxHeartbeats 4000000 in
set_option maxRecDepth 100000 in
theorem r_drop_d (c0 c1 c2 c3 c4 c5 c6 c7 c8 c9 c10 c11 : am_E) (rest : am_W) (th S wr go ga te ge gr ke nx wt sz : Int32) (f so fi nu le bs ma sh : Nat → Int32) (x : Int32)  : cM l D tc b yX5_drop cX5_drop 7 (some .int) 1 0 0 [.ref 12, .int x] (c0 :: c1 :: c2 :: c3 :: c4 :: c5 :: c6 :: c7 :: c8 :: c9 :: c10 :: c11 :: .inr (5, [.int th, .int S, .ref 13, .int wr, .int 1, .int go, .int ga, .int te, .int ge, .int gr, .int ke, .ref 14, .int nx, .int wt, .ref 15, .ref 16, .ref 17, .ref 18, .int sz, .ref 19, .ref 20]) :: .inl (1, 4096, .inl f) :: .inl (1, 50, .inl so) :: .inl (1, 50, .inl fi) :: .inl (1, 50, .inl nu) :: .inl (1, 50, .inl le) :: .inl (1, 2000, .inl bs) :: .inl (1, 40, .inl ma) :: .inl (1, 64, .inl sh) :: rest)
    (am_is (some (.int (-33))) (c0 :: c1 :: c2 :: c3 :: c4 :: c5 :: c6 :: c7 :: c8 :: c9 :: c10 :: c11 :: .inr (5, [.int 0, .int S, .ref 13, .int wr, .int 1, .int go, .int ga, .int te, .int ge, .int gr, .int ke, .ref 14, .int nx, .int wt, .ref 15, .ref 16, .ref 17, .ref 18, .int sz, .ref 19, .ref 20]) :: .inl (1, 4096, .inl f) :: .inl (1, 50, .inl so) :: .inl (1, 50, .inl fi) :: .inl (1, 50, .inl nu) :: .inl (1, 50, .inl le) :: .inl (1, 2000, .inl bs) :: .inl (1, 40, .inl ma) :: .inl (1, 64, .inl sh) :: rest)) := by
  refine am_m (own := RX5) (ini := (false, [])) (L := [some (.ref 12), some (.int x), none, none, none, none, none]) rfl (by decide) (fun h => absurd h (by decide)) rfl (Nat.le_of_ble_eq_true rfl) rfl rfl ?_
  iterate 5 refine am_s am_cls okX5_drop rfl ?_
  refine am_b okX5_drop rfl (fun h9 => ?_) (fun h9 => ?_)
  · exact absurd h9 (by decide)
  · try replace h9 := pd_b1 h9
    refine am_s am_cls okX5_drop rfl ?_
    refine am_ri okX5_drop rfl rfl rfl (Nat.le_refl _) (Nat.le_refl _) ?_
    exact ⟨rfl, rfl⟩
set_option maxHeartbeats 4000000 in
set_option maxRecDepth 100000 in
theorem r_cut_d (c0 c1 c2 c3 c4 c5 c6 c7 c8 c9 c10 c11 : am_E) (rest : am_W) (th S wr go ga te ge gr ke nx wt sz : Int32) (f so fi nu le bs ma sh : Nat → Int32) (x y : Int32)  : cM l D tc b yX5_cut cX5_cut 3 (some .int) 1 0 0 [.ref 12, .int x, .int y] (c0 :: c1 :: c2 :: c3 :: c4 :: c5 :: c6 :: c7 :: c8 :: c9 :: c10 :: c11 :: .inr (5, [.int th, .int S, .ref 13, .int wr, .int 1, .int go, .int ga, .int te, .int ge, .int gr, .int ke, .ref 14, .int nx, .int wt, .ref 15, .ref 16, .ref 17, .ref 18, .int sz, .ref 19, .ref 20]) :: .inl (1, 4096, .inl f) :: .inl (1, 50, .inl so) :: .inl (1, 50, .inl fi) :: .inl (1, 50, .inl nu) :: .inl (1, 50, .inl le) :: .inl (1, 2000, .inl bs) :: .inl (1, 40, .inl ma) :: .inl (1, 64, .inl sh) :: rest)
    (am_is (some (.int (-33))) (c0 :: c1 :: c2 :: c3 :: c4 :: c5 :: c6 :: c7 :: c8 :: c9 :: c10 :: c11 :: .inr (5, [.int 0, .int S, .ref 13, .int wr, .int 1, .int go, .int ga, .int te, .int ge, .int gr, .int ke, .ref 14, .int nx, .int wt, .ref 15, .ref 16, .ref 17, .ref 18, .int sz, .ref 19, .ref 20]) :: .inl (1, 4096, .inl f) :: .inl (1, 50, .inl so) :: .inl (1, 50, .inl fi) :: .inl (1, 50, .inl nu) :: .inl (1, 50, .inl le) :: .inl (1, 2000, .inl bs) :: .inl (1, 40, .inl ma) :: .inl (1, 64, .inl sh) :: rest)) := by
  refine am_m (own := RX5) (ini := (false, [])) (L := [some (.ref 12), some (.int x), some (.int y)]) rfl (by decide) (fun h => absurd h (by decide)) rfl (Nat.le_of_ble_eq_true rfl) rfl rfl ?_
  iterate 5 refine am_s am_cls okX5_cut rfl ?_
  refine am_b okX5_cut rfl (fun h9 => ?_) (fun h9 => ?_)
  · exact absurd h9 (by decide)
  · try replace h9 := pd_b1 h9
    refine am_s am_cls okX5_cut rfl ?_
    refine am_ri okX5_cut rfl rfl rfl (Nat.le_refl _) (Nat.le_refl _) ?_
    exact ⟨rfl, rfl⟩
set_option maxHeartbeats 4000000 in
set_option maxRecDepth 100000 in
theorem r_count_d (c0 c1 c2 c3 c4 c5 c6 c7 c8 c9 c10 c11 : am_E) (rest : am_W) (th S wr go ga te ge gr ke nx wt sz : Int32) (f so fi nu le bs ma sh : Nat → Int32) (x : Int32)  : cM l D tc b yX5_count cX5_count 2 (some .int) 1 0 0 [.ref 12, .int x] (c0 :: c1 :: c2 :: c3 :: c4 :: c5 :: c6 :: c7 :: c8 :: c9 :: c10 :: c11 :: .inr (5, [.int th, .int S, .ref 13, .int wr, .int 1, .int go, .int ga, .int te, .int ge, .int gr, .int ke, .ref 14, .int nx, .int wt, .ref 15, .ref 16, .ref 17, .ref 18, .int sz, .ref 19, .ref 20]) :: .inl (1, 4096, .inl f) :: .inl (1, 50, .inl so) :: .inl (1, 50, .inl fi) :: .inl (1, 50, .inl nu) :: .inl (1, 50, .inl le) :: .inl (1, 2000, .inl bs) :: .inl (1, 40, .inl ma) :: .inl (1, 64, .inl sh) :: rest)
    (am_is (some (.int (-33))) (c0 :: c1 :: c2 :: c3 :: c4 :: c5 :: c6 :: c7 :: c8 :: c9 :: c10 :: c11 :: .inr (5, [.int 0, .int S, .ref 13, .int wr, .int 1, .int go, .int ga, .int te, .int ge, .int gr, .int ke, .ref 14, .int nx, .int wt, .ref 15, .ref 16, .ref 17, .ref 18, .int sz, .ref 19, .ref 20]) :: .inl (1, 4096, .inl f) :: .inl (1, 50, .inl so) :: .inl (1, 50, .inl fi) :: .inl (1, 50, .inl nu) :: .inl (1, 50, .inl le) :: .inl (1, 2000, .inl bs) :: .inl (1, 40, .inl ma) :: .inl (1, 64, .inl sh) :: rest)) := by
  refine am_m (own := RX5) (ini := (false, [])) (L := [some (.ref 12), some (.int x)]) rfl (by decide) (fun h => absurd h (by decide)) rfl (Nat.le_of_ble_eq_true rfl) rfl rfl ?_
  iterate 5 refine am_s am_cls okX5_count rfl ?_
  refine am_b okX5_count rfl (fun h9 => ?_) (fun h9 => ?_)
  · exact absurd h9 (by decide)
  · try replace h9 := pd_b1 h9
    refine am_s am_cls okX5_count rfl ?_
    refine am_ri okX5_count rfl rfl rfl (Nat.le_refl _) (Nat.le_refl _) ?_
    exact ⟨rfl, rfl⟩
set_option maxHeartbeats 4000000 in
set_option maxRecDepth 100000 in
theorem r_row_d (c0 c1 c2 c3 c4 c5 c6 c7 c8 c9 c10 c11 : am_E) (rest : am_W) (th S wr go ga te ge gr ke nx wt sz : Int32) (f so fi nu le bs ma sh : Nat → Int32) (x y : Int32)  : cM l D tc b yX5_row cX5_row 4 (some .int) 1 0 0 [.ref 12, .int x, .int y] (c0 :: c1 :: c2 :: c3 :: c4 :: c5 :: c6 :: c7 :: c8 :: c9 :: c10 :: c11 :: .inr (5, [.int th, .int S, .ref 13, .int wr, .int 1, .int go, .int ga, .int te, .int ge, .int gr, .int ke, .ref 14, .int nx, .int wt, .ref 15, .ref 16, .ref 17, .ref 18, .int sz, .ref 19, .ref 20]) :: .inl (1, 4096, .inl f) :: .inl (1, 50, .inl so) :: .inl (1, 50, .inl fi) :: .inl (1, 50, .inl nu) :: .inl (1, 50, .inl le) :: .inl (1, 2000, .inl bs) :: .inl (1, 40, .inl ma) :: .inl (1, 64, .inl sh) :: rest)
    (am_is (some (.int (-33))) (c0 :: c1 :: c2 :: c3 :: c4 :: c5 :: c6 :: c7 :: c8 :: c9 :: c10 :: c11 :: .inr (5, [.int 0, .int S, .ref 13, .int wr, .int 1, .int go, .int ga, .int te, .int ge, .int gr, .int ke, .ref 14, .int nx, .int wt, .ref 15, .ref 16, .ref 17, .ref 18, .int sz, .ref 19, .ref 20]) :: .inl (1, 4096, .inl f) :: .inl (1, 50, .inl so) :: .inl (1, 50, .inl fi) :: .inl (1, 50, .inl nu) :: .inl (1, 50, .inl le) :: .inl (1, 2000, .inl bs) :: .inl (1, 40, .inl ma) :: .inl (1, 64, .inl sh) :: rest)) := by
  refine am_m (own := RX5) (ini := (false, [])) (L := [some (.ref 12), some (.int x), some (.int y), none]) rfl (by decide) (fun h => absurd h (by decide)) rfl (Nat.le_of_ble_eq_true rfl) rfl rfl ?_
  iterate 5 refine am_s am_cls okX5_row rfl ?_
  refine am_b okX5_row rfl (fun h9 => ?_) (fun h9 => ?_)
  · exact absurd h9 (by decide)
  · try replace h9 := pd_b1 h9
    refine am_s am_cls okX5_row rfl ?_
    refine am_ri okX5_row rfl rfl rfl (Nat.le_refl _) (Nat.le_refl _) ?_
    exact ⟨rfl, rfl⟩
set_option maxHeartbeats 4000000 in
set_option maxRecDepth 100000 in
theorem r_at_d (c0 c1 c2 c3 c4 c5 c6 c7 c8 c9 c10 c11 : am_E) (rest : am_W) (th S wr go ga te ge gr ke nx wt sz : Int32) (f so fi nu le bs ma sh : Nat → Int32) (x y : Int32)  : cM l D tc b yX5_at cX5_at 4 (some .int) 1 0 0 [.ref 12, .int x, .int y] (c0 :: c1 :: c2 :: c3 :: c4 :: c5 :: c6 :: c7 :: c8 :: c9 :: c10 :: c11 :: .inr (5, [.int th, .int S, .ref 13, .int wr, .int 1, .int go, .int ga, .int te, .int ge, .int gr, .int ke, .ref 14, .int nx, .int wt, .ref 15, .ref 16, .ref 17, .ref 18, .int sz, .ref 19, .ref 20]) :: .inl (1, 4096, .inl f) :: .inl (1, 50, .inl so) :: .inl (1, 50, .inl fi) :: .inl (1, 50, .inl nu) :: .inl (1, 50, .inl le) :: .inl (1, 2000, .inl bs) :: .inl (1, 40, .inl ma) :: .inl (1, 64, .inl sh) :: rest)
    (am_is (some (.int (-33))) (c0 :: c1 :: c2 :: c3 :: c4 :: c5 :: c6 :: c7 :: c8 :: c9 :: c10 :: c11 :: .inr (5, [.int 0, .int S, .ref 13, .int wr, .int 1, .int go, .int ga, .int te, .int ge, .int gr, .int ke, .ref 14, .int nx, .int wt, .ref 15, .ref 16, .ref 17, .ref 18, .int sz, .ref 19, .ref 20]) :: .inl (1, 4096, .inl f) :: .inl (1, 50, .inl so) :: .inl (1, 50, .inl fi) :: .inl (1, 50, .inl nu) :: .inl (1, 50, .inl le) :: .inl (1, 2000, .inl bs) :: .inl (1, 40, .inl ma) :: .inl (1, 64, .inl sh) :: rest)) := by
  refine am_m (own := RX5) (ini := (false, [])) (L := [some (.ref 12), some (.int x), some (.int y), none]) rfl (by decide) (fun h => absurd h (by decide)) rfl (Nat.le_of_ble_eq_true rfl) rfl rfl ?_
  iterate 5 refine am_s am_cls okX5_at rfl ?_
  refine am_b okX5_at rfl (fun h9 => ?_) (fun h9 => ?_)
  · exact absurd h9 (by decide)
  · try replace h9 := pd_b1 h9
    refine am_s am_cls okX5_at rfl ?_
    refine am_ri okX5_at rfl rfl rfl (Nat.le_refl _) (Nat.le_refl _) ?_
    exact ⟨rfl, rfl⟩
set_option maxHeartbeats 4000000 in
set_option maxRecDepth 100000 in
theorem r_wrong_d (c0 c1 c2 c3 c4 c5 c6 c7 c8 c9 c10 c11 : am_E) (rest : am_W) (th S wr go ga te ge gr ke nx wt sz : Int32) (f so fi nu le bs ma sh : Nat → Int32) (x : Int32)  : cM l D tc b yX5_wrong cX5_wrong 5 (some .int) 1 0 0 [.ref 12, .int x] (c0 :: c1 :: c2 :: c3 :: c4 :: c5 :: c6 :: c7 :: c8 :: c9 :: c10 :: c11 :: .inr (5, [.int th, .int S, .ref 13, .int wr, .int 1, .int go, .int ga, .int te, .int ge, .int gr, .int ke, .ref 14, .int nx, .int wt, .ref 15, .ref 16, .ref 17, .ref 18, .int sz, .ref 19, .ref 20]) :: .inl (1, 4096, .inl f) :: .inl (1, 50, .inl so) :: .inl (1, 50, .inl fi) :: .inl (1, 50, .inl nu) :: .inl (1, 50, .inl le) :: .inl (1, 2000, .inl bs) :: .inl (1, 40, .inl ma) :: .inl (1, 64, .inl sh) :: rest)
    (am_is (some (.int (-33))) (c0 :: c1 :: c2 :: c3 :: c4 :: c5 :: c6 :: c7 :: c8 :: c9 :: c10 :: c11 :: .inr (5, [.int 0, .int S, .ref 13, .int wr, .int 1, .int go, .int ga, .int te, .int ge, .int gr, .int ke, .ref 14, .int nx, .int wt, .ref 15, .ref 16, .ref 17, .ref 18, .int sz, .ref 19, .ref 20]) :: .inl (1, 4096, .inl f) :: .inl (1, 50, .inl so) :: .inl (1, 50, .inl fi) :: .inl (1, 50, .inl nu) :: .inl (1, 50, .inl le) :: .inl (1, 2000, .inl bs) :: .inl (1, 40, .inl ma) :: .inl (1, 64, .inl sh) :: rest)) := by
  refine am_m (own := RX5) (ini := (false, [])) (L := [some (.ref 12), some (.int x), none, none, none]) rfl (by decide) (fun h => absurd h (by decide)) rfl (Nat.le_of_ble_eq_true rfl) rfl rfl ?_
  iterate 5 refine am_s am_cls okX5_wrong rfl ?_
  refine am_b okX5_wrong rfl (fun h9 => ?_) (fun h9 => ?_)
  · exact absurd h9 (by decide)
  · try replace h9 := pd_b1 h9
    refine am_s am_cls okX5_wrong rfl ?_
    refine am_ri okX5_wrong rfl rfl rfl (Nat.le_refl _) (Nat.le_refl _) ?_
    exact ⟨rfl, rfl⟩
set_option maxHeartbeats 4000000 in
set_option maxRecDepth 100000 in
theorem r_end_d (c0 c1 c2 c3 c4 c5 c6 c7 c8 c9 c10 c11 : am_E) (rest : am_W) (th S wr go ga te ge gr ke nx wt sz : Int32) (f so fi nu le bs ma sh : Nat → Int32) (x y : Int32)  : cM l D tc b yX5_end cX5_end 5 (some .int) 1 0 0 [.ref 12, .int x, .int y] (c0 :: c1 :: c2 :: c3 :: c4 :: c5 :: c6 :: c7 :: c8 :: c9 :: c10 :: c11 :: .inr (5, [.int th, .int S, .ref 13, .int wr, .int 1, .int go, .int ga, .int te, .int ge, .int gr, .int ke, .ref 14, .int nx, .int wt, .ref 15, .ref 16, .ref 17, .ref 18, .int sz, .ref 19, .ref 20]) :: .inl (1, 4096, .inl f) :: .inl (1, 50, .inl so) :: .inl (1, 50, .inl fi) :: .inl (1, 50, .inl nu) :: .inl (1, 50, .inl le) :: .inl (1, 2000, .inl bs) :: .inl (1, 40, .inl ma) :: .inl (1, 64, .inl sh) :: rest)
    (am_is (some (.int (-1))) (c0 :: c1 :: c2 :: c3 :: c4 :: c5 :: c6 :: c7 :: c8 :: c9 :: c10 :: c11 :: .inr (5, [.int 0, .int S, .ref 13, .int wr, .int 1, .int go, .int ga, .int te, .int ge, .int gr, .int ke, .ref 14, .int nx, .int wt, .ref 15, .ref 16, .ref 17, .ref 18, .int sz, .ref 19, .ref 20]) :: .inl (1, 4096, .inl f) :: .inl (1, 50, .inl so) :: .inl (1, 50, .inl fi) :: .inl (1, 50, .inl nu) :: .inl (1, 50, .inl le) :: .inl (1, 2000, .inl bs) :: .inl (1, 40, .inl ma) :: .inl (1, 64, .inl sh) :: rest)) := by
  refine am_m (own := RX5) (ini := (false, [])) (L := [some (.ref 12), some (.int x), some (.int y), none, none]) rfl (by decide) (fun h => absurd h (by decide)) rfl (Nat.le_of_ble_eq_true rfl) rfl rfl ?_
  iterate 5 refine am_s am_cls okX5_end rfl ?_
  refine am_b okX5_end rfl (fun h9 => ?_) (fun h9 => ?_)
  · exact absurd h9 (by decide)
  · try replace h9 := pd_b1 h9
    refine am_s am_cls okX5_end rfl ?_
    refine am_ri okX5_end rfl rfl rfl (Nat.le_refl _) (Nat.le_refl _) ?_
    exact ⟨rfl, rfl⟩
set_option maxHeartbeats 4000000 in
set_option maxRecDepth 100000 in
theorem r_start_u (c0 c1 c2 c3 c4 c5 c6 c7 c8 c9 c10 c11 : am_E) (rest : am_W) (th S wr go ga te ge gr ke nx wt sz : Int32) (f so fi nu le bs ma sh : Nat → Int32)  : cM l D tc b yX5_start cX5_start 3 (some .int) 1 0 0 [.ref 12] (c0 :: c1 :: c2 :: c3 :: c4 :: c5 :: c6 :: c7 :: c8 :: c9 :: c10 :: c11 :: .inr (5, [.int th, .int S, .ref 13, .int wr, .int 0, .int go, .int ga, .int te, .int ge, .int gr, .int ke, .ref 14, .int nx, .int wt, .ref 15, .ref 16, .ref 17, .ref 18, .int sz, .ref 19, .ref 20]) :: .inl (1, 4096, .inl f) :: .inl (1, 50, .inl so) :: .inl (1, 50, .inl fi) :: .inl (1, 50, .inl nu) :: .inl (1, 50, .inl le) :: .inl (1, 2000, .inl bs) :: .inl (1, 40, .inl ma) :: .inl (1, 64, .inl sh) :: rest)
    (am_is (some (.int (-13))) (c0 :: c1 :: c2 :: c3 :: c4 :: c5 :: c6 :: c7 :: c8 :: c9 :: c10 :: c11 :: .inr (5, [.int 0, .int S, .ref 13, .int wr, .int 0, .int go, .int ga, .int te, .int ge, .int gr, .int ke, .ref 14, .int nx, .int wt, .ref 15, .ref 16, .ref 17, .ref 18, .int sz, .ref 19, .ref 20]) :: .inl (1, 4096, .inl f) :: .inl (1, 50, .inl so) :: .inl (1, 50, .inl fi) :: .inl (1, 50, .inl nu) :: .inl (1, 50, .inl le) :: .inl (1, 2000, .inl bs) :: .inl (1, 40, .inl ma) :: .inl (1, 64, .inl sh) :: rest)) := by
  refine am_m (own := RX5) (ini := (false, [])) (L := [some (.ref 12), none, none]) rfl (by decide) (fun h => absurd h (by decide)) rfl (Nat.le_of_ble_eq_true rfl) rfl rfl ?_
  iterate 5 refine am_s am_cls okX5_start rfl ?_
  refine am_b okX5_start rfl (fun h9 => ?_) (fun h9 => ?_)
  · try replace h9 := pd_b0 h9
    refine am_s am_cls okX5_start rfl ?_
    refine am_ri okX5_start rfl rfl rfl (Nat.le_refl _) (Nat.le_refl _) ?_
    exact ⟨rfl, rfl⟩
  · exact absurd rfl h9
set_option maxHeartbeats 4000000 in
set_option maxRecDepth 100000 in
theorem r_add_u (c0 c1 c2 c3 c4 c5 c6 c7 c8 c9 c10 c11 : am_E) (rest : am_W) (th S wr go ga te ge gr ke nx wt sz : Int32) (f so fi nu le bs ma sh : Nat → Int32) (x : Int32) (hz : ¬ sz = 40 → vp_in sz 40) : cM l D tc b yX5_add cX5_add 2 (some .int) 1 0 0 [.ref 12, .int x] (c0 :: c1 :: c2 :: c3 :: c4 :: c5 :: c6 :: c7 :: c8 :: c9 :: c10 :: c11 :: .inr (5, [.int th, .int S, .ref 13, .int wr, .int 0, .int go, .int ga, .int te, .int ge, .int gr, .int ke, .ref 14, .int nx, .int wt, .ref 15, .ref 16, .ref 17, .ref 18, .int sz, .ref 19, .ref 20]) :: .inl (1, 4096, .inl f) :: .inl (1, 50, .inl so) :: .inl (1, 50, .inl fi) :: .inl (1, 50, .inl nu) :: .inl (1, 50, .inl le) :: .inl (1, 2000, .inl bs) :: .inl (1, 40, .inl ma) :: .inl (1, 64, .inl sh) :: rest)
    (fun v w => (sz = 40 ∧ am_is (some (.int (-14))) (c0 :: c1 :: c2 :: c3 :: c4 :: c5 :: c6 :: c7 :: c8 :: c9 :: c10 :: c11 :: .inr (5, [.int 0, .int S, .ref 13, .int wr, .int 0, .int go, .int ga, .int te, .int ge, .int gr, .int ke, .ref 14, .int nx, .int wt, .ref 15, .ref 16, .ref 17, .ref 18, .int sz, .ref 19, .ref 20]) :: .inl (1, 4096, .inl f) :: .inl (1, 50, .inl so) :: .inl (1, 50, .inl fi) :: .inl (1, 50, .inl nu) :: .inl (1, 50, .inl le) :: .inl (1, 2000, .inl bs) :: .inl (1, 40, .inl ma) :: .inl (1, 64, .inl sh) :: rest) v w) ∨ (¬ sz = 40 ∧ am_is (some (.int (sz + 1))) (c0 :: c1 :: c2 :: c3 :: c4 :: c5 :: c6 :: c7 :: c8 :: c9 :: c10 :: c11 :: .inr (5, [.int 0, .int S, .ref 13, .int wr, .int 0, .int go, .int ga, .int te, .int ge, .int gr, .int ke, .ref 14, .int nx, .int wt, .ref 15, .ref 16, .ref 17, .ref 18, .int (sz + 1), .ref 19, .ref 20]) :: .inl (1, 4096, .inl f) :: .inl (1, 50, .inl so) :: .inl (1, 50, .inl fi) :: .inl (1, 50, .inl nu) :: .inl (1, 50, .inl le) :: .inl (1, 2000, .inl bs) :: .inl (1, 40, .inl (upd ma sz.toNatClampNeg (x &&& 255))) :: .inl (1, 64, .inl sh) :: rest) v w)) := by
  refine am_m (own := RX5) (ini := (false, [])) (L := [some (.ref 12), some (.int x)]) rfl (by decide) (fun h => absurd h (by decide)) rfl (Nat.le_of_ble_eq_true rfl) rfl rfl ?_
  iterate 5 refine am_s am_cls okX5_add rfl ?_
  refine am_b okX5_add rfl (fun h9 => ?_) (fun h9 => ?_)
  · try replace h9 := pd_b0 h9
    iterate 3 refine am_s am_cls okX5_add rfl ?_
    refine am_b okX5_add rfl (fun h21 => ?_) (fun h21 => ?_)
    · skip
      refine am_s am_cls okX5_add rfl ?_
      refine am_ri okX5_add rfl rfl rfl (Nat.le_refl _) (Nat.le_refl _) ?_
      exact Or.inl ⟨h21, rfl, rfl⟩
    · skip
      iterate 7 refine am_s am_cls okX5_add rfl ?_
      refine am_as okX5_add rfl (hz h21) ?_
      iterate 8 refine am_s am_cls okX5_add rfl ?_
      refine am_ri okX5_add rfl rfl rfl (Nat.le_refl _) (Nat.le_refl _) ?_
      exact Or.inr ⟨h21, rfl, rfl⟩
  · exact absurd rfl h9
set_option maxHeartbeats 4000000 in
set_option maxRecDepth 100000 in
theorem r_cut_u (c0 c1 c2 c3 c4 c5 c6 c7 c8 c9 c10 c11 : am_E) (rest : am_W) (th S wr go ga te ge gr ke nx wt sz : Int32) (f so fi nu le bs ma sh : Nat → Int32) (x y : Int32)  : cM l D tc b yX5_cut cX5_cut 3 (some .int) 1 0 0 [.ref 12, .int x, .int y] (c0 :: c1 :: c2 :: c3 :: c4 :: c5 :: c6 :: c7 :: c8 :: c9 :: c10 :: c11 :: .inr (5, [.int th, .int S, .ref 13, .int wr, .int 0, .int go, .int ga, .int te, .int ge, .int gr, .int ke, .ref 14, .int nx, .int wt, .ref 15, .ref 16, .ref 17, .ref 18, .int sz, .ref 19, .ref 20]) :: .inl (1, 4096, .inl f) :: .inl (1, 50, .inl so) :: .inl (1, 50, .inl fi) :: .inl (1, 50, .inl nu) :: .inl (1, 50, .inl le) :: .inl (1, 2000, .inl bs) :: .inl (1, 40, .inl ma) :: .inl (1, 64, .inl sh) :: rest)
    (fun v w => ((x < -1 ∨ 1000 < x ∨ y < 0 ∨ ¬ y ≤ 63) ∧ am_is (some (.int (-12))) (c0 :: c1 :: c2 :: c3 :: c4 :: c5 :: c6 :: c7 :: c8 :: c9 :: c10 :: c11 :: .inr (5, [.int 0, .int S, .ref 13, .int wr, .int 0, .int go, .int ga, .int te, .int ge, .int gr, .int ke, .ref 14, .int nx, .int wt, .ref 15, .ref 16, .ref 17, .ref 18, .int sz, .ref 19, .ref 20]) :: .inl (1, 4096, .inl f) :: .inl (1, 50, .inl so) :: .inl (1, 50, .inl fi) :: .inl (1, 50, .inl nu) :: .inl (1, 50, .inl le) :: .inl (1, 2000, .inl bs) :: .inl (1, 40, .inl ma) :: .inl (1, 64, .inl sh) :: rest) v w) ∨ ((¬ x < -1 ∧ ¬ 1000 < x ∧ ¬ y < 0 ∧ y ≤ 63) ∧ am_is (some (.int 1)) (c0 :: c1 :: c2 :: c3 :: c4 :: c5 :: c6 :: c7 :: c8 :: c9 :: c10 :: c11 :: .inr (5, [.int 0, .int S, .ref 13, .int wr, .int 0, .int (if x < 0 then 0 else 1), .int x, .int y, .int ge, .int gr, .int ke, .ref 14, .int nx, .int wt, .ref 15, .ref 16, .ref 17, .ref 18, .int sz, .ref 19, .ref 20]) :: .inl (1, 4096, .inl f) :: .inl (1, 50, .inl so) :: .inl (1, 50, .inl fi) :: .inl (1, 50, .inl nu) :: .inl (1, 50, .inl le) :: .inl (1, 2000, .inl bs) :: .inl (1, 40, .inl ma) :: .inl (1, 64, .inl sh) :: rest) v w)) := by
  refine am_m (own := RX5) (ini := (false, [])) (L := [some (.ref 12), some (.int x), some (.int y)]) rfl (by decide) (fun h => absurd h (by decide)) rfl (Nat.le_of_ble_eq_true rfl) rfl rfl ?_
  iterate 5 refine am_s am_cls okX5_cut rfl ?_
  refine am_b okX5_cut rfl (fun h9 => ?_) (fun h9 => ?_)
  · try replace h9 := pd_b0 h9
    iterate 2 refine am_s am_cls okX5_cut rfl ?_
    refine am_b okX5_cut rfl (fun h17 => ?_) (fun h17 => ?_)
    · skip
      refine am_s am_cls okX5_cut rfl ?_
      refine am_ri okX5_cut rfl rfl rfl (Nat.le_refl _) (Nat.le_refl _) ?_
      exact Or.inl ⟨Or.inl h17, rfl, rfl⟩
    · skip
      iterate 2 refine am_s am_cls okX5_cut rfl ?_
      refine am_b okX5_cut rfl (fun h24 => ?_) (fun h24 => ?_)
      · skip
        refine am_s am_cls okX5_cut rfl ?_
        refine am_ri okX5_cut rfl rfl rfl (Nat.le_refl _) (Nat.le_refl _) ?_
        exact Or.inl ⟨Or.inr (Or.inl h24), rfl, rfl⟩
      · skip
        refine am_s am_cls okX5_cut rfl ?_
        refine am_b okX5_cut rfl (fun h28 => ?_) (fun h28 => ?_)
        · skip
          refine am_s am_cls okX5_cut rfl ?_
          refine am_ri okX5_cut rfl rfl rfl (Nat.le_refl _) (Nat.le_refl _) ?_
          exact Or.inl ⟨Or.inr (Or.inr (Or.inl h28)), rfl, rfl⟩
        · skip
          iterate 2 refine am_s am_cls okX5_cut rfl ?_
          refine am_b okX5_cut rfl (fun h34 => ?_) (fun h34 => ?_)
          · skip
            iterate 2 refine am_s am_cls okX5_cut rfl ?_
            refine am_b okX5_cut rfl (fun h42 => ?_) (fun h42 => ?_)
            · skip
              refine am_s am_cls okX5_cut rfl ?_
              refine am_pz am_cls okX5_cut rfl rfl (by decide) rfl rfl ?_
              iterate 7 refine am_s am_cls okX5_cut rfl ?_
              refine am_ri okX5_cut rfl rfl rfl (Nat.le_refl _) (Nat.le_refl _) ?_
              exact Or.inr ⟨⟨h17, h24, h28, h34⟩, rfl, by simp [*]⟩
            · skip
              iterate 2 refine am_s am_cls okX5_cut rfl ?_
              refine am_pz am_cls okX5_cut rfl rfl (by decide) rfl rfl ?_
              iterate 7 refine am_s am_cls okX5_cut rfl ?_
              refine am_ri okX5_cut rfl rfl rfl (Nat.le_refl _) (Nat.le_refl _) ?_
              exact Or.inr ⟨⟨h17, h24, h28, h34⟩, rfl, by simp [*]⟩
          · skip
            refine am_s am_cls okX5_cut rfl ?_
            refine am_ri okX5_cut rfl rfl rfl (Nat.le_refl _) (Nat.le_refl _) ?_
            exact Or.inl ⟨Or.inr (Or.inr (Or.inr h34)), rfl, rfl⟩
  · exact absurd rfl h9
set_option maxHeartbeats 4000000 in
set_option maxRecDepth 100000 in
theorem r_count_u (c0 c1 c2 c3 c4 c5 c6 c7 c8 c9 c10 c11 : am_E) (rest : am_W) (th S wr go ga te ge gr ke nx wt sz : Int32) (f so fi nu le bs ma sh : Nat → Int32) (x : Int32)  : cM l D tc b yX5_count cX5_count 2 (some .int) 1 0 0 [.ref 12, .int x] (c0 :: c1 :: c2 :: c3 :: c4 :: c5 :: c6 :: c7 :: c8 :: c9 :: c10 :: c11 :: .inr (5, [.int th, .int S, .ref 13, .int wr, .int 0, .int go, .int ga, .int te, .int ge, .int gr, .int ke, .ref 14, .int nx, .int wt, .ref 15, .ref 16, .ref 17, .ref 18, .int sz, .ref 19, .ref 20]) :: .inl (1, 4096, .inl f) :: .inl (1, 50, .inl so) :: .inl (1, 50, .inl fi) :: .inl (1, 50, .inl nu) :: .inl (1, 50, .inl le) :: .inl (1, 2000, .inl bs) :: .inl (1, 40, .inl ma) :: .inl (1, 64, .inl sh) :: rest)
    (am_is (some (.int (if x < 0 then -12 else if ¬ x ≤ 4 then -12 else if ¬ 2 ≤ x then (if x = 0 then ke else wt) else if x = 2 then ge else if x = 3 then gr else sz))) (c0 :: c1 :: c2 :: c3 :: c4 :: c5 :: c6 :: c7 :: c8 :: c9 :: c10 :: c11 :: .inr (5, [.int 0, .int S, .ref 13, .int wr, .int 0, .int go, .int ga, .int te, .int ge, .int gr, .int ke, .ref 14, .int nx, .int wt, .ref 15, .ref 16, .ref 17, .ref 18, .int sz, .ref 19, .ref 20]) :: .inl (1, 4096, .inl f) :: .inl (1, 50, .inl so) :: .inl (1, 50, .inl fi) :: .inl (1, 50, .inl nu) :: .inl (1, 50, .inl le) :: .inl (1, 2000, .inl bs) :: .inl (1, 40, .inl ma) :: .inl (1, 64, .inl sh) :: rest)) := by
  refine am_m (own := RX5) (ini := (false, [])) (L := [some (.ref 12), some (.int x)]) rfl (by decide) (fun h => absurd h (by decide)) rfl (Nat.le_of_ble_eq_true rfl) rfl rfl ?_
  iterate 5 refine am_s am_cls okX5_count rfl ?_
  refine am_b okX5_count rfl (fun h9 => ?_) (fun h9 => ?_)
  · try replace h9 := pd_b0 h9
    refine am_s am_cls okX5_count rfl ?_
    refine am_b okX5_count rfl (fun h16 => ?_) (fun h16 => ?_)
    · skip
      refine am_s am_cls okX5_count rfl ?_
      refine am_ri okX5_count rfl rfl rfl (Nat.le_refl _) (Nat.le_refl _) ?_
      exact ⟨by simp [*], rfl⟩
    · skip
      iterate 2 refine am_s am_cls okX5_count rfl ?_
      refine am_b okX5_count rfl (fun h21 => ?_) (fun h21 => ?_)
      · skip
        iterate 2 refine am_s am_cls okX5_count rfl ?_
        refine am_b okX5_count rfl (fun h29 => ?_) (fun h29 => ?_)
        · skip
          iterate 2 refine am_s am_cls okX5_count rfl ?_
          refine am_b okX5_count rfl (fun h50 => ?_) (fun h50 => ?_)
          · skip
            iterate 3 refine am_s am_cls okX5_count rfl ?_
            refine am_ri okX5_count rfl rfl rfl (Nat.le_refl _) (Nat.le_refl _) ?_
            exact ⟨by simp [*], rfl⟩
          · skip
            iterate 2 refine am_s am_cls okX5_count rfl ?_
            refine am_b okX5_count rfl (fun h62 => ?_) (fun h62 => ?_)
            · skip
              iterate 3 refine am_s am_cls okX5_count rfl ?_
              refine am_ri okX5_count rfl rfl rfl (Nat.le_refl _) (Nat.le_refl _) ?_
              exact ⟨by simp [*], rfl⟩
            · skip
              iterate 2 refine am_s am_cls okX5_count rfl ?_
              refine am_ri okX5_count rfl rfl rfl (Nat.le_refl _) (Nat.le_refl _) ?_
              exact ⟨by simp [*], rfl⟩
        · skip
          refine am_s am_cls okX5_count rfl ?_
          refine am_b okX5_count rfl (fun h33 => ?_) (fun h33 => ?_)
          · try replace h33 := pd_b0 h33
            iterate 3 refine am_s am_cls okX5_count rfl ?_
            refine am_ri okX5_count rfl rfl rfl (Nat.le_refl _) (Nat.le_refl _) ?_
            exact ⟨by simp [*], rfl⟩
          · try replace h33 := pd_b1 h33
            iterate 2 refine am_s am_cls okX5_count rfl ?_
            refine am_ri okX5_count rfl rfl rfl (Nat.le_refl _) (Nat.le_refl _) ?_
            exact ⟨by simp [*], rfl⟩
      · skip
        refine am_s am_cls okX5_count rfl ?_
        refine am_ri okX5_count rfl rfl rfl (Nat.le_refl _) (Nat.le_refl _) ?_
        exact ⟨by simp [*], rfl⟩
  · exact absurd rfl h9
end PD
