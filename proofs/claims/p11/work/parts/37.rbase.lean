/-! ===== printed by wip/pd_refg.py: the reference, its sums, its sheet, its writes ===== -/
def rf_ok (s : Int32) : Prop := ∃ q : Nat, s = nI q ∧ q < 64
def rf_p (x : Int32) (m N : Nat) : Prop := ∃ j : Nat, x = nI j ∧ j + m < N
theorem rf_pi {x : Int32} {m N : Nat} (h : rf_p x m N) (hN : N < 2 ^ 31) : vp_in x N := by
  obtain ⟨j, rfl, hj⟩ := h
  exact vp_in_nI (by omega) hN
theorem rf_pk {x : Int32} {m N : Nat} (h : rf_p x m N) (hN : N < 2 ^ 31) (k : Nat) (hk : k ≤ m) : vp_in (x + nI k) N := by
  obtain ⟨j, rfl, hj⟩ := h
  rw [nI_add]
  exact vp_in_nI (by omega) hN
theorem rf_pa {x : Int32} {m N : Nat} (h : rf_p x m N) (k c : Nat) (hk : k + c ≤ m) : rf_p (x + nI k) c N := by
  obtain ⟨j, rfl, hj⟩ := h
  exact ⟨j + k, nI_add j k, by omega⟩
theorem rf_pm {x : Int32} {m N : Nat} (h : rf_p x m N) (c : Nat) (hk : c ≤ m) : rf_p x c N := by
  obtain ⟨j, rfl, hj⟩ := h
  exact ⟨j, rfl, by omega⟩
theorem rf_64 {s : Int32} (h : rf_ok s) : rf_p (64 * s) 63 4096 := by
  obtain ⟨q, rfl, hq⟩ := h
  exact ⟨64 * q, pk_mul 64 q, by omega⟩
theorem rf_vk {s : Int32} (h : rf_ok s) {k : Nat} (hk : k < 64) : vp_in (64 * s + nI k) 4096 := rf_pk (rf_64 h) (by decide) k (by omega)
theorem rf_v0 {s : Int32} (h : rf_ok s) : vp_in (64 * s) 4096 := rf_pi (rf_64 h) (by decide)
def rf_sum (f : Nat → Int32) (s : Int32) : Nat → Int32
  | 0 => 0
  | k + 1 => pd_sw (rf_sum f s k) (f (64 * s + nI k).toNatClampNeg)
theorem rf_sum_0 (f : Nat → Int32) (s : Int32) : rf_sum f s 0 = 0 := by simp only [rf_sum]
theorem rf_sum_s (f : Nat → Int32) (s : Int32) (k : Nat) : rf_sum f s (k + 1) = pd_sw (rf_sum f s k) (f (64 * s + nI k).toNatClampNeg) := by simp only [rf_sum]
def rf_four (f : Nat → Int32) (x : Int32) : Int32 := (f x.toNatClampNeg <<< (24 &&& 31)) ||| (f (x + 1).toNatClampNeg <<< (16 &&& 31)) ||| (f (x + 2).toNatClampNeg <<< (8 &&& 31)) ||| f (x + 3).toNatClampNeg
def rf_whole (f : Nat → Int32) (s : Int32) : Bool := !decide (f (64 * s).toNatClampNeg = 0) && decide (rf_four f (64 * s + 60) = rf_sum f s 60)
def rf_wr (f : Nat → Int32) (s : Int32) (sh : Nat → Int32) : Nat → (Nat → Int32)
  | 0 => f
  | k + 1 => upd (rf_wr f s sh k) (64 * s + nI k).toNatClampNeg (sh (nI k).toNatClampNeg)
theorem rf_wr_0 (f : Nat → Int32) (s : Int32) (sh : Nat → Int32) : rf_wr f s sh 0 = f := by simp only [rf_wr]
theorem rf_wr_s (f : Nat → Int32) (s : Int32) (sh : Nat → Int32) (k : Nat) : rf_wr f s sh (k + 1) = upd (rf_wr f s sh k) (64 * s + nI k).toNatClampNeg (sh (nI k).toNatClampNeg) := by simp only [rf_wr]
def rf_z (sh : Nat → Int32) : Nat → (Nat → Int32)
  | 0 => sh
  | k + 1 => upd (rf_z sh k) (nI k).toNatClampNeg 0
theorem rf_z_0 (sh : Nat → Int32) : rf_z sh 0 = sh := by simp only [rf_z]
theorem rf_z_s (sh : Nat → Int32) (k : Nat) : rf_z sh (k + 1) = upd (rf_z sh k) (nI k).toNatClampNeg 0 := by simp only [rf_z]
def rf_put (sh : Nat → Int32) (x v : Int32) : Nat → (Nat → Int32)
  | 0 => sh
  | k + 1 => upd (rf_put sh x v k) (x + nI k).toNatClampNeg ((v >>> ((24 - 8 * nI k) &&& 31)) &&& 255)
theorem rf_put_0 (sh : Nat → Int32) (x v : Int32) : rf_put sh x v 0 = sh := by simp only [rf_put]
theorem rf_put_s (sh : Nat → Int32) (x v : Int32) (k : Nat) : rf_put sh x v (k + 1) = upd (rf_put sh x v k) (x + nI k).toNatClampNeg ((v >>> ((24 - 8 * nI k) &&& 31)) &&& 255) := by simp only [rf_put]
def rf_ss (sh : Nat → Int32) : Nat → Int32
  | 0 => 0
  | k + 1 => pd_sw (rf_ss sh k) (sh (nI k).toNatClampNeg)
theorem rf_ss_0 (sh : Nat → Int32) : rf_ss sh 0 = 0 := by simp only [rf_ss]
theorem rf_ss_s (sh : Nat → Int32) (k : Nat) : rf_ss sh (k + 1) = pd_sw (rf_ss sh k) (sh (nI k).toNatClampNeg) := by simp only [rf_ss]
def rf_seal (sh : Nat → Int32) : Nat → Int32 := rf_put sh 60 (rf_ss sh 60) 4
def rf_now (go ga : Int32) : Bool := !decide (go = 0) && decide (ga = 0)
def rf_ga (go ga : Int32) : Int32 := bif decide (go = 0) then ga else ga - 1
section PD
variable (l : Launch) (D : va_G) (tc : Nat → ClassId) (b : Nat)
set_option maxHeartbeats 4000000 in
set_option maxRecDepth 100000 in
theorem r_step (w : am_W) (x y : Int32)  : cM l D tc b yX5_step cX5_step 3 (some .int) 1 0 0 [.int x, .int y] w
    (am_is (some (.int (pd_sw x y))) w) := by
  refine am_m (own := RX5) (ini := (false, [])) (L := [some (.int x), some (.int y), none]) rfl (by decide) (fun h => absurd h (by decide)) rfl (Nat.le_of_ble_eq_true rfl) rfl rfl ?_
  iterate 13 refine am_s am_cls okX5_step rfl ?_
  refine am_ri okX5_step rfl rfl rfl (Nat.le_refl _) (Nat.le_refl _) ?_
  exact ⟨rfl, rfl⟩
set_option maxHeartbeats 4000000 in
set_option maxRecDepth 100000 in
theorem r_sumOf_l (c0 c1 c2 c3 c4 c5 c6 c7 c8 c9 c10 c11 : am_E) (rest : am_W) (th S wr dn go ga te ge gr ke nx wt sz : Int32) (f so fi nu le bs ma sh : Nat → Int32) (s : Int32) (hs : rf_ok s) (m : Nat) : ∀ (k : Nat), k + m = 60 → am_R lw_tbl vwCl l D tc b RX5 cX5_sumOf 4 (some .int) (false, []) (am_rm 2 0 0) 0 0 (am_is (some (.int (rf_sum f s 60))) (c0 :: c1 :: c2 :: c3 :: c4 :: c5 :: c6 :: c7 :: c8 :: c9 :: c10 :: c11 :: .inr (5, [.int th, .int S, .ref 13, .int wr, .int dn, .int go, .int ga, .int te, .int ge, .int gr, .int ke, .ref 14, .int nx, .int wt, .ref 15, .ref 16, .ref 17, .ref 18, .int sz, .ref 19, .ref 20]) :: .inl (1, 4096, .inl f) :: .inl (1, 50, .inl so) :: .inl (1, 50, .inl fi) :: .inl (1, 50, .inl nu) :: .inl (1, 50, .inl le) :: .inl (1, 2000, .inl bs) :: .inl (1, 40, .inl ma) :: .inl (1, 64, .inl sh) :: rest)) 0 0 4 [some (.ref 12), some (.int s), some (.int (rf_sum f s k)), some (.int (nI k))] [] (c0 :: c1 :: c2 :: c3 :: c4 :: c5 :: c6 :: c7 :: c8 :: c9 :: c10 :: c11 :: .inr (5, [.int th, .int S, .ref 13, .int wr, .int dn, .int go, .int ga, .int te, .int ge, .int gr, .int ke, .ref 14, .int nx, .int wt, .ref 15, .ref 16, .ref 17, .ref 18, .int sz, .ref 19, .ref 20]) :: .inl (1, 4096, .inl f) :: .inl (1, 50, .inl so) :: .inl (1, 50, .inl fi) :: .inl (1, 50, .inl nu) :: .inl (1, 50, .inl le) :: .inl (1, 2000, .inl bs) :: .inl (1, 40, .inl ma) :: .inl (1, 64, .inl sh) :: rest) := by
  induction m with
  | zero =>
    intro k hk
    have hk : k = 60 := by omega
    subst hk
    iterate 2 refine am_s am_cls okX5_sumOf rfl ?_
    refine am_b okX5_sumOf rfl (fun h7 => ?_) (fun h7 => ?_)
    · skip
      refine am_s am_cls okX5_sumOf rfl ?_
      refine am_ri okX5_sumOf rfl rfl rfl (Nat.le_refl _) (Nat.le_refl _) ?_
      exact ⟨rfl, rfl⟩
    · exact absurd (nI_le (a := 60) (b := 60) (Nat.le_refl _) (by decide)) h7
  | succ m ih =>
    intro k hk
    iterate 2 refine am_s am_cls okX5_sumOf rfl ?_
    refine am_b okX5_sumOf rfl (fun h7 => ?_) (fun h7 => ?_)
    · exact absurd h7 (nI_ge (a := k) (b := 60) (by omega) (by decide))
    · skip
      iterate 8 refine am_s am_cls okX5_sumOf rfl ?_
      refine am_al okX5_sumOf rfl (rf_vk hs (by omega)) ?_
      refine am_cS okX5_sumOf rfl (r_step l D tc b _ _ _) cs_X5_45 coX5_step rfl ⟨rfl, rfl, rfl⟩ ⟨Nat.le_refl _, Nat.le_refl _⟩ ?_
      rintro _ _ ⟨rfl, rfl⟩
      iterate 3 refine am_s am_cls okX5_sumOf rfl ?_
      have q := ih (k + 1) (by omega)
      rw [rf_sum_s f s k, nI_succ k] at q
      exact q
set_option maxHeartbeats 4000000 in
set_option maxRecDepth 100000 in
theorem r_sumOf (c0 c1 c2 c3 c4 c5 c6 c7 c8 c9 c10 c11 : am_E) (rest : am_W) (th S wr dn go ga te ge gr ke nx wt sz : Int32) (f so fi nu le bs ma sh : Nat → Int32) (s : Int32) (hs : rf_ok s) : cM l D tc b yX5_sumOf cX5_sumOf 4 (some .int) 2 0 0 [.ref 12, .int s] (c0 :: c1 :: c2 :: c3 :: c4 :: c5 :: c6 :: c7 :: c8 :: c9 :: c10 :: c11 :: .inr (5, [.int th, .int S, .ref 13, .int wr, .int dn, .int go, .int ga, .int te, .int ge, .int gr, .int ke, .ref 14, .int nx, .int wt, .ref 15, .ref 16, .ref 17, .ref 18, .int sz, .ref 19, .ref 20]) :: .inl (1, 4096, .inl f) :: .inl (1, 50, .inl so) :: .inl (1, 50, .inl fi) :: .inl (1, 50, .inl nu) :: .inl (1, 50, .inl le) :: .inl (1, 2000, .inl bs) :: .inl (1, 40, .inl ma) :: .inl (1, 64, .inl sh) :: rest)
    (am_is (some (.int (rf_sum f s 60))) (c0 :: c1 :: c2 :: c3 :: c4 :: c5 :: c6 :: c7 :: c8 :: c9 :: c10 :: c11 :: .inr (5, [.int th, .int S, .ref 13, .int wr, .int dn, .int go, .int ga, .int te, .int ge, .int gr, .int ke, .ref 14, .int nx, .int wt, .ref 15, .ref 16, .ref 17, .ref 18, .int sz, .ref 19, .ref 20]) :: .inl (1, 4096, .inl f) :: .inl (1, 50, .inl so) :: .inl (1, 50, .inl fi) :: .inl (1, 50, .inl nu) :: .inl (1, 50, .inl le) :: .inl (1, 2000, .inl bs) :: .inl (1, 40, .inl ma) :: .inl (1, 64, .inl sh) :: rest)) := by
  refine am_m (own := RX5) (ini := (false, [])) (L := [some (.ref 12), some (.int s), none, none]) rfl (by decide) (fun h => absurd h (by decide)) rfl (Nat.le_of_ble_eq_true rfl) rfl rfl ?_
  iterate 4 refine am_s am_cls okX5_sumOf rfl ?_
  have q := r_sumOf_l l D tc b c0 c1 c2 c3 c4 c5 c6 c7 c8 c9 c10 c11 rest th S wr dn go ga te ge gr ke nx wt sz f so fi nu le bs ma sh s hs 60 0 rfl
  rw [rf_sum_0, nI_0] at q
  exact q
set_option maxHeartbeats 4000000 in
set_option maxRecDepth 100000 in
theorem r_four (c0 c1 c2 c3 c4 c5 c6 c7 c8 c9 c10 c11 : am_E) (rest : am_W) (th S wr dn go ga te ge gr ke nx wt sz : Int32) (f so fi nu le bs ma sh : Nat → Int32) (x : Int32) (hx : rf_p x 3 4096) : cM l D tc b yX5_fourAt cX5_fourAt 2 (some .int) 1 0 0 [.ref 12, .int x] (c0 :: c1 :: c2 :: c3 :: c4 :: c5 :: c6 :: c7 :: c8 :: c9 :: c10 :: c11 :: .inr (5, [.int th, .int S, .ref 13, .int wr, .int dn, .int go, .int ga, .int te, .int ge, .int gr, .int ke, .ref 14, .int nx, .int wt, .ref 15, .ref 16, .ref 17, .ref 18, .int sz, .ref 19, .ref 20]) :: .inl (1, 4096, .inl f) :: .inl (1, 50, .inl so) :: .inl (1, 50, .inl fi) :: .inl (1, 50, .inl nu) :: .inl (1, 50, .inl le) :: .inl (1, 2000, .inl bs) :: .inl (1, 40, .inl ma) :: .inl (1, 64, .inl sh) :: rest)
    (am_is (some (.int (rf_four f x))) (c0 :: c1 :: c2 :: c3 :: c4 :: c5 :: c6 :: c7 :: c8 :: c9 :: c10 :: c11 :: .inr (5, [.int th, .int S, .ref 13, .int wr, .int dn, .int go, .int ga, .int te, .int ge, .int gr, .int ke, .ref 14, .int nx, .int wt, .ref 15, .ref 16, .ref 17, .ref 18, .int sz, .ref 19, .ref 20]) :: .inl (1, 4096, .inl f) :: .inl (1, 50, .inl so) :: .inl (1, 50, .inl fi) :: .inl (1, 50, .inl nu) :: .inl (1, 50, .inl le) :: .inl (1, 2000, .inl bs) :: .inl (1, 40, .inl ma) :: .inl (1, 64, .inl sh) :: rest)) := by
  refine am_m (own := RX5) (ini := (false, [])) (L := [some (.ref 12), some (.int x)]) rfl (by decide) (fun h => absurd h (by decide)) rfl (Nat.le_of_ble_eq_true rfl) rfl rfl ?_
  iterate 3 refine am_s am_cls okX5_fourAt rfl ?_
  refine am_al okX5_fourAt rfl (rf_pi hx (by decide)) ?_
  iterate 7 refine am_s am_cls okX5_fourAt rfl ?_
  refine am_al okX5_fourAt rfl (rf_pk hx (by decide) 1 (by decide)) ?_
  iterate 8 refine am_s am_cls okX5_fourAt rfl ?_
  refine am_al okX5_fourAt rfl (rf_pk hx (by decide) 2 (by decide)) ?_
  iterate 8 refine am_s am_cls okX5_fourAt rfl ?_
  refine am_al okX5_fourAt rfl (rf_pk hx (by decide) 3 (by decide)) ?_
  refine am_s am_cls okX5_fourAt rfl ?_
  refine am_ri okX5_fourAt rfl rfl rfl (Nat.le_refl _) (Nat.le_refl _) ?_
  exact ⟨rfl, rfl⟩
set_option maxHeartbeats 4000000 in
set_option maxRecDepth 100000 in
theorem r_isWhole (c0 c1 c2 c3 c4 c5 c6 c7 c8 c9 c10 c11 : am_E) (rest : am_W) (th S wr dn go ga te ge gr ke nx wt sz : Int32) (f so fi nu le bs ma sh : Nat → Int32) (s : Int32) (hs : rf_ok s) : cM l D tc b yX5_isWhole cX5_isWhole 2 (some .boolean) 3 0 0 [.ref 12, .int s] (c0 :: c1 :: c2 :: c3 :: c4 :: c5 :: c6 :: c7 :: c8 :: c9 :: c10 :: c11 :: .inr (5, [.int th, .int S, .ref 13, .int wr, .int dn, .int go, .int ga, .int te, .int ge, .int gr, .int ke, .ref 14, .int nx, .int wt, .ref 15, .ref 16, .ref 17, .ref 18, .int sz, .ref 19, .ref 20]) :: .inl (1, 4096, .inl f) :: .inl (1, 50, .inl so) :: .inl (1, 50, .inl fi) :: .inl (1, 50, .inl nu) :: .inl (1, 50, .inl le) :: .inl (1, 2000, .inl bs) :: .inl (1, 40, .inl ma) :: .inl (1, 64, .inl sh) :: rest)
    (am_is (some (.int (pd_b (rf_whole f s)))) (c0 :: c1 :: c2 :: c3 :: c4 :: c5 :: c6 :: c7 :: c8 :: c9 :: c10 :: c11 :: .inr (5, [.int th, .int S, .ref 13, .int wr, .int dn, .int go, .int ga, .int te, .int ge, .int gr, .int ke, .ref 14, .int nx, .int wt, .ref 15, .ref 16, .ref 17, .ref 18, .int sz, .ref 19, .ref 20]) :: .inl (1, 4096, .inl f) :: .inl (1, 50, .inl so) :: .inl (1, 50, .inl fi) :: .inl (1, 50, .inl nu) :: .inl (1, 50, .inl le) :: .inl (1, 2000, .inl bs) :: .inl (1, 40, .inl ma) :: .inl (1, 64, .inl sh) :: rest)) := by
  refine am_m (own := RX5) (ini := (false, [])) (L := [some (.ref 12), some (.int s)]) rfl (by decide) (fun h => absurd h (by decide)) rfl (Nat.le_of_ble_eq_true rfl) rfl rfl ?_
  iterate 5 refine am_s am_cls okX5_isWhole rfl ?_
  refine am_al okX5_isWhole rfl (rf_v0 hs) ?_
  refine am_b okX5_isWhole rfl (fun h9 => ?_) (fun h9 => ?_)
  · try replace h9 := pd_b0 h9
    refine am_s am_cls okX5_isWhole rfl ?_
    refine am_rz okX5_isWhole rfl rfl rfl (by decide) (Nat.le_refl _) (Nat.le_refl _) ?_
    exact ⟨by simp [rf_whole, pd_bt, pd_bf, *], rfl⟩
  · try replace h9 := pd_b1 h9
    iterate 6 refine am_s am_cls okX5_isWhole rfl ?_
    refine am_cV okX5_isWhole rfl (r_four l D tc b _ _ _ _ _ _ _ _ _ _ _ _ _ _ _ _ _ _ _ _ _ _ _ _ _ _ _ _ _ _ _ _ _ _ (64 * s + 60) (rf_pa (rf_64 hs) 60 3 (by decide))) cv_X5_49 coX5_fourAt rfl rfl rfl ⟨rfl, rfl, rfl⟩ ⟨Nat.le_refl _, Nat.le_refl _⟩ ?_
    rintro _ _ ⟨rfl, rfl⟩
    iterate 2 refine am_s am_cls okX5_isWhole rfl ?_
    refine am_cV okX5_isWhole rfl (r_sumOf l D tc b _ _ _ _ _ _ _ _ _ _ _ _ _ _ _ _ _ _ _ _ _ _ _ _ _ _ _ _ _ _ _ _ _ _ _ hs) cv_X5_53 coX5_sumOf rfl rfl rfl ⟨rfl, rfl, rfl⟩ ⟨Nat.le_refl _, Nat.le_refl _⟩ ?_
    rintro _ _ ⟨rfl, rfl⟩
    refine am_b okX5_isWhole rfl (fun h28 => ?_) (fun h28 => ?_)
    · skip
      iterate 2 refine am_s am_cls okX5_isWhole rfl ?_
      refine am_rz okX5_isWhole rfl rfl rfl (by decide) (Nat.le_refl _) (Nat.le_refl _) ?_
      exact ⟨by simp [rf_whole, pd_bt, pd_bf, *], rfl⟩
    · skip
      refine am_s am_cls okX5_isWhole rfl ?_
      refine am_rz okX5_isWhole rfl rfl rfl (by decide) (Nat.le_refl _) (Nat.le_refl _) ?_
      exact ⟨by simp [rf_whole, pd_bt, pd_bf, *], rfl⟩
set_option maxHeartbeats 4000000 in
set_option maxRecDepth 100000 in
theorem r_lose (c0 c1 c2 c3 c4 c5 c6 c7 c8 c9 c10 c11 : am_E) (rest : am_W) (th S wr dn go ga te ge gr ke nx wt sz : Int32) (f so fi nu le bs ma sh : Nat → Int32)  : cM l D tc b yX5_lose cX5_lose 1 none 1 0 0 [.ref 12] (c0 :: c1 :: c2 :: c3 :: c4 :: c5 :: c6 :: c7 :: c8 :: c9 :: c10 :: c11 :: .inr (5, [.int th, .int S, .ref 13, .int wr, .int dn, .int go, .int ga, .int te, .int ge, .int gr, .int ke, .ref 14, .int nx, .int wt, .ref 15, .ref 16, .ref 17, .ref 18, .int sz, .ref 19, .ref 20]) :: .inl (1, 4096, .inl f) :: .inl (1, 50, .inl so) :: .inl (1, 50, .inl fi) :: .inl (1, 50, .inl nu) :: .inl (1, 50, .inl le) :: .inl (1, 2000, .inl bs) :: .inl (1, 40, .inl ma) :: .inl (1, 64, .inl sh) :: rest)
    (am_is none (c0 :: c1 :: c2 :: c3 :: c4 :: c5 :: c6 :: c7 :: c8 :: c9 :: c10 :: c11 :: .inr (5, [.int th, .int S, .ref 13, .int wr, .int 1, .int 0, .int ga, .int te, .int ge, .int gr, .int ke, .ref 14, .int nx, .int 0, .ref 15, .ref 16, .ref 17, .ref 18, .int 0, .ref 19, .ref 20]) :: .inl (1, 4096, .inl f) :: .inl (1, 50, .inl so) :: .inl (1, 50, .inl fi) :: .inl (1, 50, .inl nu) :: .inl (1, 50, .inl le) :: .inl (1, 2000, .inl bs) :: .inl (1, 40, .inl ma) :: .inl (1, 64, .inl sh) :: rest)) := by
  refine am_m (own := RX5) (ini := (false, [])) (L := [some (.ref 12)]) rfl (by decide) (fun h => absurd h (by decide)) rfl (Nat.le_of_ble_eq_true rfl) rfl rfl ?_
  iterate 2 refine am_s am_cls okX5_lose rfl ?_
  refine am_pz am_cls okX5_lose rfl rfl (by decide) rfl rfl ?_
  iterate 2 refine am_s am_cls okX5_lose rfl ?_
  refine am_pz am_cls okX5_lose rfl rfl (by decide) rfl rfl ?_
  iterate 6 refine am_s am_cls okX5_lose rfl ?_
  refine am_rv okX5_lose rfl rfl rfl (Nat.le_refl _) (Nat.le_refl _) ?_
  exact ⟨rfl, rfl⟩
set_option maxHeartbeats 4000000 in
set_option maxRecDepth 100000 in
theorem r_write_l (c0 c1 c2 c3 c4 c5 c6 c7 c8 c9 c10 c11 : am_E) (rest : am_W) (th S wr dn go ga te ge gr ke nx wt sz : Int32) (f so fi nu le bs ma sh : Nat → Int32) (s x : Int32) (M : Nat) (hs : rf_ok s) (hx : x = 0 ∨ x = 1) (hM : M ≤ 64) (m : Nat) : ∀ (k : Nat), k + m = M → am_R lw_tbl vwCl l D tc b RX5 cX5_write 5 (some .boolean) (false, []) (am_rm 2 0 0) 0 0 (fun v w => (x = 1 ∧ am_is (some (.int 0)) (c0 :: c1 :: c2 :: c3 :: c4 :: c5 :: c6 :: c7 :: c8 :: c9 :: c10 :: c11 :: .inr (5, [.int th, .int S, .ref 13, .int (wr + 1), .int 1, .int 0, .int ga, .int te, .int ge, .int gr, .int ke, .ref 14, .int nx, .int 0, .ref 15, .ref 16, .ref 17, .ref 18, .int 0, .ref 19, .ref 20]) :: .inl (1, 4096, .inl (rf_wr f s sh M)) :: .inl (1, 50, .inl so) :: .inl (1, 50, .inl fi) :: .inl (1, 50, .inl nu) :: .inl (1, 50, .inl le) :: .inl (1, 2000, .inl bs) :: .inl (1, 40, .inl ma) :: .inl (1, 64, .inl sh) :: rest) v w) ∨ (x = 0 ∧ am_is (some (.int 1)) (c0 :: c1 :: c2 :: c3 :: c4 :: c5 :: c6 :: c7 :: c8 :: c9 :: c10 :: c11 :: .inr (5, [.int th, .int S, .ref 13, .int (wr + 1), .int dn, .int go, .int (rf_ga go ga), .int te, .int ge, .int gr, .int ke, .ref 14, .int nx, .int wt, .ref 15, .ref 16, .ref 17, .ref 18, .int sz, .ref 19, .ref 20]) :: .inl (1, 4096, .inl (rf_wr f s sh M)) :: .inl (1, 50, .inl so) :: .inl (1, 50, .inl fi) :: .inl (1, 50, .inl nu) :: .inl (1, 50, .inl le) :: .inl (1, 2000, .inl bs) :: .inl (1, 40, .inl ma) :: .inl (1, 64, .inl sh) :: rest) v w)) 0 0 47 [some (.ref 12), some (.int s), some (.int x), some (.int (nI M)), some (.int (nI k))] [] (c0 :: c1 :: c2 :: c3 :: c4 :: c5 :: c6 :: c7 :: c8 :: c9 :: c10 :: c11 :: .inr (5, [.int th, .int S, .ref 13, .int (wr + 1), .int dn, .int go, .int ga, .int te, .int ge, .int gr, .int ke, .ref 14, .int nx, .int wt, .ref 15, .ref 16, .ref 17, .ref 18, .int sz, .ref 19, .ref 20]) :: .inl (1, 4096, .inl (rf_wr f s sh k)) :: .inl (1, 50, .inl so) :: .inl (1, 50, .inl fi) :: .inl (1, 50, .inl nu) :: .inl (1, 50, .inl le) :: .inl (1, 2000, .inl bs) :: .inl (1, 40, .inl ma) :: .inl (1, 64, .inl sh) :: rest) := by
  induction m with
  | zero =>
    intro k hk
    have hk : k = M := by omega
    subst hk
    iterate 2 refine am_s am_cls okX5_write rfl ?_
    refine am_b okX5_write rfl (fun h50 => ?_) (fun h50 => ?_)
    · skip
      refine am_s am_cls okX5_write rfl ?_
      refine am_b okX5_write rfl (fun h79 => ?_) (fun h79 => ?_)
      · try replace h79 := pd_b0 h79
        iterate 2 refine am_s am_cls okX5_write rfl ?_
        refine am_b okX5_write rfl (fun h93 => ?_) (fun h93 => ?_)
        · try replace h93 := pd_b0 h93
          refine am_s am_cls okX5_write rfl ?_
          refine am_b okX5_write rfl (fun h107 => ?_) (fun h107 => ?_)
          · try replace h107 := pd_b0 h107
            iterate 2 refine am_s am_cls okX5_write rfl ?_
            refine am_rz okX5_write rfl rfl rfl (by decide) (Nat.le_refl _) (Nat.le_refl _) ?_
            exact Or.inr ⟨h79, rfl, by simp [rf_ga, *]⟩
          · exact absurd h79 h107
        · try replace h93 := pd_b1 h93
          iterate 7 refine am_s am_cls okX5_write rfl ?_
          refine am_b okX5_write rfl (fun h107 => ?_) (fun h107 => ?_)
          · try replace h107 := pd_b0 h107
            iterate 2 refine am_s am_cls okX5_write rfl ?_
            refine am_rz okX5_write rfl rfl rfl (by decide) (Nat.le_refl _) (Nat.le_refl _) ?_
            exact Or.inr ⟨h79, rfl, by simp [rf_ga, *]⟩
          · exact absurd h79 h107
      · try replace h79 := pd_b1 h79
        refine am_s am_cls okX5_write rfl ?_
        refine am_cV okX5_write rfl (r_lose l D tc b _ _ _ _ _ _ _ _ _ _ _ _ _ _ _ _ _ _ _ _ _ _ _ _ _ _ _ _ _ _ _ _ _ _) cv_X5_78 coX5_lose rfl rfl rfl ⟨rfl, rfl, rfl⟩ ⟨Nat.le_refl _, Nat.le_refl _⟩ ?_
        rintro _ _ ⟨rfl, rfl⟩
        iterate 2 refine am_s am_cls okX5_write rfl ?_
        refine am_b okX5_write rfl (fun h107 => ?_) (fun h107 => ?_)
        · exact absurd h107 h79
        · try replace h107 := pd_b1 h107
          refine am_s am_cls okX5_write rfl ?_
          refine am_rz okX5_write rfl rfl rfl (by decide) (Nat.le_refl _) (Nat.le_refl _) ?_
          exact Or.inl ⟨hx.resolve_left h79, rfl, rfl⟩
    · exact absurd (nI_le (a := k) (b := k) (Nat.le_refl _) (by omega)) h50
  | succ m ih =>
    intro k hk
    iterate 2 refine am_s am_cls okX5_write rfl ?_
    refine am_b okX5_write rfl (fun h50 => ?_) (fun h50 => ?_)
    · exact absurd h50 (nI_ge (a := k) (b := M) (by omega) (by omega))
    · skip
      iterate 10 refine am_s am_cls okX5_write rfl ?_
      refine am_al okX5_write rfl (vp_in_nI (n := k) (N := 64) (by omega) (by decide)) ?_
      refine am_as okX5_write rfl (rf_vk hs (by omega)) ?_
      iterate 2 refine am_s am_cls okX5_write rfl ?_
      have q := ih (k + 1) (by omega)
      rw [rf_wr_s f s sh k, nI_succ k] at q
      exact q
set_option maxHeartbeats 4000000 in
set_option maxRecDepth 100000 in
theorem r_write (c0 c1 c2 c3 c4 c5 c6 c7 c8 c9 c10 c11 : am_E) (rest : am_W) (th S wr dn go ga ge gr ke nx wt sz : Int32) (f so fi nu le bs ma sh : Nat → Int32) (s : Int32) (t : Nat) (hs : rf_ok s) (ht : t ≤ 64) : cM l D tc b yX5_write cX5_write 5 (some .boolean) 2 0 0 [.ref 12, .int s] (c0 :: c1 :: c2 :: c3 :: c4 :: c5 :: c6 :: c7 :: c8 :: c9 :: c10 :: c11 :: .inr (5, [.int th, .int S, .ref 13, .int wr, .int dn, .int go, .int ga, .int (nI t), .int ge, .int gr, .int ke, .ref 14, .int nx, .int wt, .ref 15, .ref 16, .ref 17, .ref 18, .int sz, .ref 19, .ref 20]) :: .inl (1, 4096, .inl f) :: .inl (1, 50, .inl so) :: .inl (1, 50, .inl fi) :: .inl (1, 50, .inl nu) :: .inl (1, 50, .inl le) :: .inl (1, 2000, .inl bs) :: .inl (1, 40, .inl ma) :: .inl (1, 64, .inl sh) :: rest)
    (fun v w => (rf_now go ga = true ∧ am_is (some (.int 0)) (c0 :: c1 :: c2 :: c3 :: c4 :: c5 :: c6 :: c7 :: c8 :: c9 :: c10 :: c11 :: .inr (5, [.int th, .int S, .ref 13, .int (wr + 1), .int 1, .int 0, .int ga, .int (nI t), .int ge, .int gr, .int ke, .ref 14, .int nx, .int 0, .ref 15, .ref 16, .ref 17, .ref 18, .int 0, .ref 19, .ref 20]) :: .inl (1, 4096, .inl (rf_wr f s sh t)) :: .inl (1, 50, .inl so) :: .inl (1, 50, .inl fi) :: .inl (1, 50, .inl nu) :: .inl (1, 50, .inl le) :: .inl (1, 2000, .inl bs) :: .inl (1, 40, .inl ma) :: .inl (1, 64, .inl sh) :: rest) v w) ∨ (rf_now go ga = false ∧ am_is (some (.int 1)) (c0 :: c1 :: c2 :: c3 :: c4 :: c5 :: c6 :: c7 :: c8 :: c9 :: c10 :: c11 :: .inr (5, [.int th, .int S, .ref 13, .int (wr + 1), .int dn, .int go, .int (rf_ga go ga), .int (nI t), .int ge, .int gr, .int ke, .ref 14, .int nx, .int wt, .ref 15, .ref 16, .ref 17, .ref 18, .int sz, .ref 19, .ref 20]) :: .inl (1, 4096, .inl (rf_wr f s sh 64)) :: .inl (1, 50, .inl so) :: .inl (1, 50, .inl fi) :: .inl (1, 50, .inl nu) :: .inl (1, 50, .inl le) :: .inl (1, 2000, .inl bs) :: .inl (1, 40, .inl ma) :: .inl (1, 64, .inl sh) :: rest) v w)) := by
  refine am_m (own := RX5) (ini := (false, [])) (L := [some (.ref 12), some (.int s), none, none, none]) rfl (by decide) (fun h => absurd h (by decide)) rfl (Nat.le_of_ble_eq_true rfl) rfl rfl ?_
  iterate 8 refine am_s am_cls okX5_write rfl ?_
  refine am_b okX5_write rfl (fun h14 => ?_) (fun h14 => ?_)
  · try replace h14 := pd_b0 h14
    iterate 3 refine am_s am_cls okX5_write rfl ?_
    refine am_b okX5_write rfl (fun h31 => ?_) (fun h31 => ?_)
    · try replace h31 := pd_b0 h31
      iterate 4 refine am_s am_cls okX5_write rfl ?_
      have q := r_write_l l D tc b c0 c1 c2 c3 c4 c5 c6 c7 c8 c9 c10 c11 rest th S wr dn go ga (nI t) ge gr ke nx wt sz f so fi nu le bs ma sh s 0 64 hs (by decide) (by omega) 64 0 (Nat.zero_add _)
      rw [rf_wr_0, nI_0] at q
      refine am_po (fun v w z => ?_) q
      rcases z with ⟨z, -⟩ | ⟨-, z⟩
      · exact absurd z (by decide)
      · exact Or.inr ⟨by simp only [rf_now, h14, decide_true, Bool.not_true, Bool.false_and], z⟩
    · exact absurd rfl h31
  · try replace h14 := pd_b1 h14
    iterate 2 refine am_s am_cls okX5_write rfl ?_
    refine am_b okX5_write rfl (fun h21 => ?_) (fun h21 => ?_)
    · try replace h21 := pd_b0 h21
      iterate 4 refine am_s am_cls okX5_write rfl ?_
      refine am_b okX5_write rfl (fun h31 => ?_) (fun h31 => ?_)
      · exact absurd h31 (by decide)
      · try replace h31 := pd_b1 h31
        iterate 6 refine am_s am_cls okX5_write rfl ?_
        have q := r_write_l l D tc b c0 c1 c2 c3 c4 c5 c6 c7 c8 c9 c10 c11 rest th S wr dn go ga (nI t) ge gr ke nx wt sz f so fi nu le bs ma sh s 1 t hs (by decide) (by omega) t 0 (Nat.zero_add _)
        rw [rf_wr_0, nI_0] at q
        refine am_po (fun v w z => ?_) q
        rcases z with ⟨-, z⟩ | ⟨z, -⟩
        · exact Or.inl ⟨by simp only [rf_now, h14, h21, decide_true, decide_false, Bool.not_false, Bool.true_and], z⟩
        · exact absurd z (by decide)
    · try replace h21 := pd_b1 h21
      iterate 3 refine am_s am_cls okX5_write rfl ?_
      refine am_b okX5_write rfl (fun h31 => ?_) (fun h31 => ?_)
      · try replace h31 := pd_b0 h31
        iterate 4 refine am_s am_cls okX5_write rfl ?_
        have q := r_write_l l D tc b c0 c1 c2 c3 c4 c5 c6 c7 c8 c9 c10 c11 rest th S wr dn go ga (nI t) ge gr ke nx wt sz f so fi nu le bs ma sh s 0 64 hs (by decide) (by omega) 64 0 (Nat.zero_add _)
        rw [rf_wr_0, nI_0] at q
        refine am_po (fun v w z => ?_) q
        rcases z with ⟨z, -⟩ | ⟨-, z⟩
        · exact absurd z (by decide)
        · exact Or.inr ⟨by simp only [rf_now, h14, h21, decide_false, Bool.not_false, Bool.true_and], z⟩
      · exact absurd rfl h31
set_option maxHeartbeats 4000000 in
set_option maxRecDepth 100000 in
theorem r_empty_l (c0 c1 c2 c3 c4 c5 c6 c7 c8 c9 c10 c11 : am_E) (rest : am_W) (th S wr dn go ga te ge gr ke nx wt sz : Int32) (f so fi nu le bs ma sh : Nat → Int32)  (m : Nat) : ∀ (k : Nat), k + m = 64 → am_R lw_tbl vwCl l D tc b RX5 cX5_empty 2 none (false, []) (am_rm 1 0 0) 0 0 (am_is none (c0 :: c1 :: c2 :: c3 :: c4 :: c5 :: c6 :: c7 :: c8 :: c9 :: c10 :: c11 :: .inr (5, [.int th, .int S, .ref 13, .int wr, .int dn, .int go, .int ga, .int te, .int ge, .int gr, .int ke, .ref 14, .int nx, .int wt, .ref 15, .ref 16, .ref 17, .ref 18, .int sz, .ref 19, .ref 20]) :: .inl (1, 4096, .inl f) :: .inl (1, 50, .inl so) :: .inl (1, 50, .inl fi) :: .inl (1, 50, .inl nu) :: .inl (1, 50, .inl le) :: .inl (1, 2000, .inl bs) :: .inl (1, 40, .inl ma) :: .inl (1, 64, .inl (rf_z sh 64)) :: rest)) 0 0 2 [some (.ref 12), some (.int (nI k))] [] (c0 :: c1 :: c2 :: c3 :: c4 :: c5 :: c6 :: c7 :: c8 :: c9 :: c10 :: c11 :: .inr (5, [.int th, .int S, .ref 13, .int wr, .int dn, .int go, .int ga, .int te, .int ge, .int gr, .int ke, .ref 14, .int nx, .int wt, .ref 15, .ref 16, .ref 17, .ref 18, .int sz, .ref 19, .ref 20]) :: .inl (1, 4096, .inl f) :: .inl (1, 50, .inl so) :: .inl (1, 50, .inl fi) :: .inl (1, 50, .inl nu) :: .inl (1, 50, .inl le) :: .inl (1, 2000, .inl bs) :: .inl (1, 40, .inl ma) :: .inl (1, 64, .inl (rf_z sh k)) :: rest) := by
  induction m with
  | zero =>
    intro k hk
    have hk : k = 64 := by omega
    subst hk
    iterate 2 refine am_s am_cls okX5_empty rfl ?_
    refine am_b okX5_empty rfl (fun h5 => ?_) (fun h5 => ?_)
    · skip
      refine am_rv okX5_empty rfl rfl rfl (Nat.le_refl _) (Nat.le_refl _) ?_
      exact ⟨rfl, rfl⟩
    · exact absurd (nI_le (a := 64) (b := 64) (Nat.le_refl _) (by decide)) h5
  | succ m ih =>
    intro k hk
    iterate 2 refine am_s am_cls okX5_empty rfl ?_
    refine am_b okX5_empty rfl (fun h5 => ?_) (fun h5 => ?_)
    · exact absurd h5 (nI_ge (a := k) (b := 64) (by omega) (by decide))
    · skip
      iterate 4 refine am_s am_cls okX5_empty rfl ?_
      refine am_as okX5_empty rfl (vp_in_nI (n := k) (N := 64) (by omega) (by decide)) ?_
      iterate 2 refine am_s am_cls okX5_empty rfl ?_
      have q := ih (k + 1) (by omega)
      rw [rf_z_s sh k, nI_succ k] at q
      exact q
set_option maxHeartbeats 4000000 in
set_option maxRecDepth 100000 in
theorem r_empty (c0 c1 c2 c3 c4 c5 c6 c7 c8 c9 c10 c11 : am_E) (rest : am_W) (th S wr dn go ga te ge gr ke nx wt sz : Int32) (f so fi nu le bs ma sh : Nat → Int32)  : cM l D tc b yX5_empty cX5_empty 2 none 1 0 0 [.ref 12] (c0 :: c1 :: c2 :: c3 :: c4 :: c5 :: c6 :: c7 :: c8 :: c9 :: c10 :: c11 :: .inr (5, [.int th, .int S, .ref 13, .int wr, .int dn, .int go, .int ga, .int te, .int ge, .int gr, .int ke, .ref 14, .int nx, .int wt, .ref 15, .ref 16, .ref 17, .ref 18, .int sz, .ref 19, .ref 20]) :: .inl (1, 4096, .inl f) :: .inl (1, 50, .inl so) :: .inl (1, 50, .inl fi) :: .inl (1, 50, .inl nu) :: .inl (1, 50, .inl le) :: .inl (1, 2000, .inl bs) :: .inl (1, 40, .inl ma) :: .inl (1, 64, .inl sh) :: rest)
    (am_is none (c0 :: c1 :: c2 :: c3 :: c4 :: c5 :: c6 :: c7 :: c8 :: c9 :: c10 :: c11 :: .inr (5, [.int th, .int S, .ref 13, .int wr, .int dn, .int go, .int ga, .int te, .int ge, .int gr, .int ke, .ref 14, .int nx, .int wt, .ref 15, .ref 16, .ref 17, .ref 18, .int sz, .ref 19, .ref 20]) :: .inl (1, 4096, .inl f) :: .inl (1, 50, .inl so) :: .inl (1, 50, .inl fi) :: .inl (1, 50, .inl nu) :: .inl (1, 50, .inl le) :: .inl (1, 2000, .inl bs) :: .inl (1, 40, .inl ma) :: .inl (1, 64, .inl (rf_z sh 64)) :: rest)) := by
  refine am_m (own := RX5) (ini := (false, [])) (L := [some (.ref 12), none]) rfl (by decide) (fun h => absurd h (by decide)) rfl (Nat.le_of_ble_eq_true rfl) rfl rfl ?_
  iterate 2 refine am_s am_cls okX5_empty rfl ?_
  have q := r_empty_l l D tc b c0 c1 c2 c3 c4 c5 c6 c7 c8 c9 c10 c11 rest th S wr dn go ga te ge gr ke nx wt sz f so fi nu le bs ma sh 64 0 rfl
  rw [rf_z_0, nI_0] at q
  exact q
set_option maxHeartbeats 4000000 in
set_option maxRecDepth 100000 in
theorem r_put_l (c0 c1 c2 c3 c4 c5 c6 c7 c8 c9 c10 c11 : am_E) (rest : am_W) (th S wr dn go ga te ge gr ke nx wt sz : Int32) (f so fi nu le bs ma sh : Nat → Int32) (x y : Int32) (hx : rf_p x 3 64) (m : Nat) : ∀ (k : Nat), k + m = 4 → am_R lw_tbl vwCl l D tc b RX5 cX5_putFour 4 none (false, []) (am_rm 1 0 0) 0 0 (am_is none (c0 :: c1 :: c2 :: c3 :: c4 :: c5 :: c6 :: c7 :: c8 :: c9 :: c10 :: c11 :: .inr (5, [.int th, .int S, .ref 13, .int wr, .int dn, .int go, .int ga, .int te, .int ge, .int gr, .int ke, .ref 14, .int nx, .int wt, .ref 15, .ref 16, .ref 17, .ref 18, .int sz, .ref 19, .ref 20]) :: .inl (1, 4096, .inl f) :: .inl (1, 50, .inl so) :: .inl (1, 50, .inl fi) :: .inl (1, 50, .inl nu) :: .inl (1, 50, .inl le) :: .inl (1, 2000, .inl bs) :: .inl (1, 40, .inl ma) :: .inl (1, 64, .inl (rf_put sh x y 4)) :: rest)) 0 0 2 [some (.ref 12), some (.int x), some (.int y), some (.int (nI k))] [] (c0 :: c1 :: c2 :: c3 :: c4 :: c5 :: c6 :: c7 :: c8 :: c9 :: c10 :: c11 :: .inr (5, [.int th, .int S, .ref 13, .int wr, .int dn, .int go, .int ga, .int te, .int ge, .int gr, .int ke, .ref 14, .int nx, .int wt, .ref 15, .ref 16, .ref 17, .ref 18, .int sz, .ref 19, .ref 20]) :: .inl (1, 4096, .inl f) :: .inl (1, 50, .inl so) :: .inl (1, 50, .inl fi) :: .inl (1, 50, .inl nu) :: .inl (1, 50, .inl le) :: .inl (1, 2000, .inl bs) :: .inl (1, 40, .inl ma) :: .inl (1, 64, .inl (rf_put sh x y k)) :: rest) := by
  induction m with
  | zero =>
    intro k hk
    have hk : k = 4 := by omega
    subst hk
    iterate 2 refine am_s am_cls okX5_putFour rfl ?_
    refine am_b okX5_putFour rfl (fun h4 => ?_) (fun h4 => ?_)
    · skip
      refine am_rv okX5_putFour rfl rfl rfl (Nat.le_refl _) (Nat.le_refl _) ?_
      exact ⟨rfl, rfl⟩
    · exact absurd (nI_le (a := 4) (b := 4) (Nat.le_refl _) (by decide)) h4
  | succ m ih =>
    intro k hk
    iterate 2 refine am_s am_cls okX5_putFour rfl ?_
    refine am_b okX5_putFour rfl (fun h4 => ?_) (fun h4 => ?_)
    · exact absurd h4 (nI_ge (a := k) (b := 4) (by omega) (by decide))
    · skip
      iterate 14 refine am_s am_cls okX5_putFour rfl ?_
      refine am_as okX5_putFour rfl (rf_pk hx (by decide) k (by omega)) ?_
      iterate 2 refine am_s am_cls okX5_putFour rfl ?_
      have q := ih (k + 1) (by omega)
      rw [rf_put_s sh x y k, nI_succ k] at q
      exact q
set_option maxHeartbeats 4000000 in
set_option maxRecDepth 100000 in
theorem r_put (c0 c1 c2 c3 c4 c5 c6 c7 c8 c9 c10 c11 : am_E) (rest : am_W) (th S wr dn go ga te ge gr ke nx wt sz : Int32) (f so fi nu le bs ma sh : Nat → Int32) (x y : Int32) (hx : rf_p x 3 64) : cM l D tc b yX5_putFour cX5_putFour 4 none 1 0 0 [.ref 12, .int x, .int y] (c0 :: c1 :: c2 :: c3 :: c4 :: c5 :: c6 :: c7 :: c8 :: c9 :: c10 :: c11 :: .inr (5, [.int th, .int S, .ref 13, .int wr, .int dn, .int go, .int ga, .int te, .int ge, .int gr, .int ke, .ref 14, .int nx, .int wt, .ref 15, .ref 16, .ref 17, .ref 18, .int sz, .ref 19, .ref 20]) :: .inl (1, 4096, .inl f) :: .inl (1, 50, .inl so) :: .inl (1, 50, .inl fi) :: .inl (1, 50, .inl nu) :: .inl (1, 50, .inl le) :: .inl (1, 2000, .inl bs) :: .inl (1, 40, .inl ma) :: .inl (1, 64, .inl sh) :: rest)
    (am_is none (c0 :: c1 :: c2 :: c3 :: c4 :: c5 :: c6 :: c7 :: c8 :: c9 :: c10 :: c11 :: .inr (5, [.int th, .int S, .ref 13, .int wr, .int dn, .int go, .int ga, .int te, .int ge, .int gr, .int ke, .ref 14, .int nx, .int wt, .ref 15, .ref 16, .ref 17, .ref 18, .int sz, .ref 19, .ref 20]) :: .inl (1, 4096, .inl f) :: .inl (1, 50, .inl so) :: .inl (1, 50, .inl fi) :: .inl (1, 50, .inl nu) :: .inl (1, 50, .inl le) :: .inl (1, 2000, .inl bs) :: .inl (1, 40, .inl ma) :: .inl (1, 64, .inl (rf_put sh x y 4)) :: rest)) := by
  refine am_m (own := RX5) (ini := (false, [])) (L := [some (.ref 12), some (.int x), some (.int y), none]) rfl (by decide) (fun h => absurd h (by decide)) rfl (Nat.le_of_ble_eq_true rfl) rfl rfl ?_
  iterate 2 refine am_s am_cls okX5_putFour rfl ?_
  have q := r_put_l l D tc b c0 c1 c2 c3 c4 c5 c6 c7 c8 c9 c10 c11 rest th S wr dn go ga te ge gr ke nx wt sz f so fi nu le bs ma sh x y hx 4 0 rfl
  rw [rf_put_0, nI_0] at q
  exact q
set_option maxHeartbeats 4000000 in
set_option maxRecDepth 100000 in
theorem r_seal_l (c0 c1 c2 c3 c4 c5 c6 c7 c8 c9 c10 c11 : am_E) (rest : am_W) (th S wr dn go ga te ge gr ke nx wt sz : Int32) (f so fi nu le bs ma sh : Nat → Int32)  (m : Nat) : ∀ (k : Nat), k + m = 60 → am_R lw_tbl vwCl l D tc b RX5 cX5_seal 3 none (false, []) (am_rm 2 0 0) 0 0 (am_is none (c0 :: c1 :: c2 :: c3 :: c4 :: c5 :: c6 :: c7 :: c8 :: c9 :: c10 :: c11 :: .inr (5, [.int th, .int S, .ref 13, .int wr, .int dn, .int go, .int ga, .int te, .int ge, .int gr, .int ke, .ref 14, .int nx, .int wt, .ref 15, .ref 16, .ref 17, .ref 18, .int sz, .ref 19, .ref 20]) :: .inl (1, 4096, .inl f) :: .inl (1, 50, .inl so) :: .inl (1, 50, .inl fi) :: .inl (1, 50, .inl nu) :: .inl (1, 50, .inl le) :: .inl (1, 2000, .inl bs) :: .inl (1, 40, .inl ma) :: .inl (1, 64, .inl (rf_seal sh)) :: rest)) 0 0 4 [some (.ref 12), some (.int (rf_ss sh k)), some (.int (nI k))] [] (c0 :: c1 :: c2 :: c3 :: c4 :: c5 :: c6 :: c7 :: c8 :: c9 :: c10 :: c11 :: .inr (5, [.int th, .int S, .ref 13, .int wr, .int dn, .int go, .int ga, .int te, .int ge, .int gr, .int ke, .ref 14, .int nx, .int wt, .ref 15, .ref 16, .ref 17, .ref 18, .int sz, .ref 19, .ref 20]) :: .inl (1, 4096, .inl f) :: .inl (1, 50, .inl so) :: .inl (1, 50, .inl fi) :: .inl (1, 50, .inl nu) :: .inl (1, 50, .inl le) :: .inl (1, 2000, .inl bs) :: .inl (1, 40, .inl ma) :: .inl (1, 64, .inl sh) :: rest) := by
  induction m with
  | zero =>
    intro k hk
    have hk : k = 60 := by omega
    subst hk
    iterate 2 refine am_s am_cls okX5_seal rfl ?_
    refine am_b okX5_seal rfl (fun h7 => ?_) (fun h7 => ?_)
    · skip
      iterate 3 refine am_s am_cls okX5_seal rfl ?_
      refine am_cV okX5_seal rfl (r_put l D tc b _ _ _ _ _ _ _ _ _ _ _ _ _ _ _ _ _ _ _ _ _ _ _ _ _ _ _ _ _ _ _ _ _ _ _ _ ⟨60, rfl, by decide⟩) cv_X5_81 coX5_putFour rfl rfl rfl ⟨rfl, rfl, rfl⟩ ⟨Nat.le_refl _, Nat.le_refl _⟩ ?_
      rintro _ _ ⟨rfl, rfl⟩
      refine am_rv okX5_seal rfl rfl rfl (Nat.le_refl _) (Nat.le_refl _) ?_
      exact ⟨rfl, rfl⟩
    · exact absurd (nI_le (a := 60) (b := 60) (Nat.le_refl _) (by decide)) h7
  | succ m ih =>
    intro k hk
    iterate 2 refine am_s am_cls okX5_seal rfl ?_
    refine am_b okX5_seal rfl (fun h7 => ?_) (fun h7 => ?_)
    · exact absurd h7 (nI_ge (a := k) (b := 60) (by omega) (by decide))
    · skip
      iterate 4 refine am_s am_cls okX5_seal rfl ?_
      refine am_al okX5_seal rfl (vp_in_nI (n := k) (N := 64) (by omega) (by decide)) ?_
      refine am_cS okX5_seal rfl (r_step l D tc b _ _ _) cs_X5_45 coX5_step rfl ⟨rfl, rfl, rfl⟩ ⟨Nat.le_refl _, Nat.le_refl _⟩ ?_
      rintro _ _ ⟨rfl, rfl⟩
      iterate 3 refine am_s am_cls okX5_seal rfl ?_
      have q := ih (k + 1) (by omega)
      rw [rf_ss_s sh k, nI_succ k] at q
      exact q
set_option maxHeartbeats 4000000 in
set_option maxRecDepth 100000 in
theorem r_seal (c0 c1 c2 c3 c4 c5 c6 c7 c8 c9 c10 c11 : am_E) (rest : am_W) (th S wr dn go ga te ge gr ke nx wt sz : Int32) (f so fi nu le bs ma sh : Nat → Int32)  : cM l D tc b yX5_seal cX5_seal 3 none 2 0 0 [.ref 12] (c0 :: c1 :: c2 :: c3 :: c4 :: c5 :: c6 :: c7 :: c8 :: c9 :: c10 :: c11 :: .inr (5, [.int th, .int S, .ref 13, .int wr, .int dn, .int go, .int ga, .int te, .int ge, .int gr, .int ke, .ref 14, .int nx, .int wt, .ref 15, .ref 16, .ref 17, .ref 18, .int sz, .ref 19, .ref 20]) :: .inl (1, 4096, .inl f) :: .inl (1, 50, .inl so) :: .inl (1, 50, .inl fi) :: .inl (1, 50, .inl nu) :: .inl (1, 50, .inl le) :: .inl (1, 2000, .inl bs) :: .inl (1, 40, .inl ma) :: .inl (1, 64, .inl sh) :: rest)
    (am_is none (c0 :: c1 :: c2 :: c3 :: c4 :: c5 :: c6 :: c7 :: c8 :: c9 :: c10 :: c11 :: .inr (5, [.int th, .int S, .ref 13, .int wr, .int dn, .int go, .int ga, .int te, .int ge, .int gr, .int ke, .ref 14, .int nx, .int wt, .ref 15, .ref 16, .ref 17, .ref 18, .int sz, .ref 19, .ref 20]) :: .inl (1, 4096, .inl f) :: .inl (1, 50, .inl so) :: .inl (1, 50, .inl fi) :: .inl (1, 50, .inl nu) :: .inl (1, 50, .inl le) :: .inl (1, 2000, .inl bs) :: .inl (1, 40, .inl ma) :: .inl (1, 64, .inl (rf_seal sh)) :: rest)) := by
  refine am_m (own := RX5) (ini := (false, [])) (L := [some (.ref 12), none, none]) rfl (by decide) (fun h => absurd h (by decide)) rfl (Nat.le_of_ble_eq_true rfl) rfl rfl ?_
  iterate 4 refine am_s am_cls okX5_seal rfl ?_
  have q := r_seal_l l D tc b c0 c1 c2 c3 c4 c5 c6 c7 c8 c9 c10 c11 rest th S wr dn go ga te ge gr ke nx wt sz f so fi nu le bs ma sh 60 0 rfl
  rw [rf_ss_0, nI_0] at q
  exact q
end PD
