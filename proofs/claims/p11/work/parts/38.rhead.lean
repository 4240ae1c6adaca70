/-! ===== printed by wip/pd_refg.py: the reference, free sectors, heads, rows ===== -/
def rf_kept (so : Nat → Int32) (s : Int32) : Nat → Nat → Bool
  | 0, _ => false
  | m + 1, k => bif decide (so (nI k).toNatClampNeg = s) then true else rf_kept so s m (k + 1)
theorem rf_kept_0 (so : Nat → Int32) (s : Int32) (k : Nat) : rf_kept so s 0 k = false := by simp only [rf_kept]
theorem rf_kept_s (so : Nat → Int32) (s : Int32) (m k : Nat) : rf_kept so s (m + 1) k = bif decide (so (nI k).toNatClampNeg = s) then true else rf_kept so s m (k + 1) := by simp only [rf_kept]
def rf_free (so : Nat → Int32) (K : Nat) : Nat → Nat → Int32
  | 0, k => nI k
  | m + 1, k => bif rf_kept so (nI k) K 0 then rf_free so K m (k + 1) else nI k
theorem rf_free_0 (so : Nat → Int32) (K k : Nat) : rf_free so K 0 k = nI k := by simp only [rf_free]
theorem rf_free_s (so : Nat → Int32) (K m k : Nat) : rf_free so K (m + 1) k = bif rf_kept so (nI k) K 0 then rf_free so K m (k + 1) else nI k := by simp only [rf_free]
def rf_hl (sh so : Nat → Int32) : Nat → (Nat → Int32)
  | 0 => sh
  | k + 1 => upd (rf_hl sh so k) (10 + nI k).toNatClampNeg (so (nI k).toNatClampNeg)
theorem rf_hl_0 (sh so : Nat → Int32) : rf_hl sh so 0 = sh := by simp only [rf_hl]
theorem rf_hl_s (sh so : Nat → Int32) (k : Nat) : rf_hl sh so (k + 1) = upd (rf_hl sh so k) (10 + nI k).toNatClampNeg (so (nI k).toNatClampNeg) := by simp only [rf_hl]
def rf_hs (sh : Nat → Int32) (ge gr : Int32) (K : Nat) (so : Nat → Int32) : Nat → Int32 := rf_hl (upd (rf_put (rf_put (upd (rf_z sh 64) (0 : Int32).toNatClampNeg 200) 1 ge 4) 5 gr 4) (9 : Int32).toNatClampNeg (nI K)) so K
def rf_hd (sh : Nat → Int32) (ge gr : Int32) (K : Nat) (so : Nat → Int32) : Nat → Int32 := rf_seal (rf_hs sh ge gr K so)
def rf_par (x : Int32) : Int32 := if x - x / 2 * 2 = 0 then 0 else 1
theorem rf_10 {k : Nat} (h : k < 50) : vp_in (10 + nI k) 64 := by
  rw [show (10 : Int32) = nI 10 from rfl, nI_add]
  exact vp_in_nI (by omega) (by decide)
theorem rf_6 {k : Nat} (h : k < 40) : vp_in (6 + nI k) 64 := by
  rw [show (6 : Int32) = nI 6 from rfl, nI_add]
  exact vp_in_nI (by omega) (by decide)
theorem rf_40 {w : Int32} (h : rf_p w 0 50) {k : Nat} (hk : k < 40) : vp_in (40 * w + nI k) 2000 := by
  obtain ⟨j, rfl, hj⟩ := h
  rw [show (40 : Int32) = nI 40 from rfl, pk_mul, nI_add]
  exact vp_in_nI (by omega) (by decide)
def rf_fl (sh bs : Nat → Int32) (w : Int32) : Nat → (Nat → Int32)
  | 0 => sh
  | k + 1 => upd (rf_fl sh bs w k) (6 + nI k).toNatClampNeg (bs (40 * w + nI k).toNatClampNeg)
theorem rf_fl_0 (sh bs : Nat → Int32) (w : Int32) : rf_fl sh bs w 0 = sh := by simp only [rf_fl]
theorem rf_fl_s (sh bs : Nat → Int32) (w : Int32) (k : Nat) : rf_fl sh bs w (k + 1) = upd (rf_fl sh bs w k) (6 + nI k).toNatClampNeg (bs (40 * w + nI k).toNatClampNeg) := by simp only [rf_fl]
def rf_rs (sh fi nu le bs : Nat → Int32) (w : Int32) (L : Nat) : Nat → Int32 := rf_fl (upd (rf_put (upd (rf_z sh 64) (0 : Int32).toNatClampNeg (fi w.toNatClampNeg)) 1 (nu w.toNatClampNeg) 4) (5 : Int32).toNatClampNeg (le w.toNatClampNeg)) bs w L
def rf_rw (sh fi nu le bs : Nat → Int32) (w : Int32) (L : Nat) : Nat → Int32 := rf_seal (rf_rs sh fi nu le bs w L)
def rf_mb (bs ma : Nat → Int32) (w : Int32) : Nat → (Nat → Int32)
  | 0 => bs
  | k + 1 => upd (rf_mb bs ma w k) (40 * w + nI k).toNatClampNeg (ma (nI k).toNatClampNeg)
theorem rf_mb_0 (bs ma : Nat → Int32) (w : Int32) : rf_mb bs ma w 0 = bs := by simp only [rf_mb]
theorem rf_mb_s (bs ma : Nat → Int32) (w : Int32) (k : Nat) : rf_mb bs ma w (k + 1) = upd (rf_mb bs ma w k) (40 * w + nI k).toNatClampNeg (ma (nI k).toNatClampNeg) := by simp only [rf_mb]
def rf_mark (c : Int32) : Bool := (!decide (c < 1) && decide (c ≤ 10)) || (!decide (c < 17) && !decide (26 < c))
def rf_wrong (f : Nat → Int32) (s : Int32) : Bool := !rf_whole f s || !rf_mark (f (64 * s).toNatClampNeg) || !decide (f (64 * s + 5).toNatClampNeg ≤ 40)
def rf_hb (f : Nat → Int32) (S s : Int32) : Nat → Nat → Bool
  | 0, _ => true
  | m + 1, k => bif decide (f (64 * s + 10 + nI k).toNatClampNeg < 2) || !decide (f (64 * s + 10 + nI k).toNatClampNeg < S) then false else rf_hb f S s m (k + 1)
theorem rf_hb_0 (f : Nat → Int32) (S s : Int32) (k : Nat) : rf_hb f S s 0 k = true := by simp only [rf_hb]
theorem rf_hb_s (f : Nat → Int32) (S s : Int32) (m k : Nat) : rf_hb f S s (m + 1) k = bif decide (f (64 * s + 10 + nI k).toNatClampNeg < 2) || !decide (f (64 * s + 10 + nI k).toNatClampNeg < S) then false else rf_hb f S s m (k + 1) := by simp only [rf_hb]
def rf_head (f : Nat → Int32) (S s : Int32) : Bool := rf_whole f s && decide (f (64 * s).toNatClampNeg = 200) && decide (f (64 * s + 9).toNatClampNeg ≤ 50) && rf_hb f S s (f (64 * s + 9).toNatClampNeg).toNatClampNeg 0
theorem rf_le {x : Int32} {n : Nat} (h : x ≤ nI n) (hn : n < 2 ^ 31) : x.toNatClampNeg ≤ n := by
  have h1 : x.toNatClampNeg = x.toInt.toNat := rfl
  rw [Int32.le_iff_toInt_le, nI_toInt hn] at h
  omega
section PD
variable (l : Launch) (D : va_G) (tc : Nat → ClassId) (b : Nat)
set_option maxHeartbeats 4000000 in
set_option maxRecDepth 100000 in
theorem r_isKept_l (c0 c1 c2 c3 c4 c5 c6 c7 c8 c9 c10 c11 : am_E) (rest : am_W) (th S wr dn go ga te ge gr nx wt sz : Int32) (f so fi nu le bs ma sh : Nat → Int32) (s : Int32) (K : Nat) (hK : K ≤ 50) (m : Nat) : ∀ (k : Nat), k + m = K → am_R lw_tbl vwCl l D tc b RX5 cX5_isKept 3 (some .boolean) (false, []) (am_rm 1 0 0) 0 0 (am_is (some (.int (pd_b (rf_kept so s m k)))) (c0 :: c1 :: c2 :: c3 :: c4 :: c5 :: c6 :: c7 :: c8 :: c9 :: c10 :: c11 :: .inr (5, [.int th, .int S, .ref 13, .int wr, .int dn, .int go, .int ga, .int te, .int ge, .int gr, .int (nI K), .ref 14, .int nx, .int wt, .ref 15, .ref 16, .ref 17, .ref 18, .int sz, .ref 19, .ref 20]) :: .inl (1, 4096, .inl f) :: .inl (1, 50, .inl so) :: .inl (1, 50, .inl fi) :: .inl (1, 50, .inl nu) :: .inl (1, 50, .inl le) :: .inl (1, 2000, .inl bs) :: .inl (1, 40, .inl ma) :: .inl (1, 64, .inl sh) :: rest)) 0 0 2 [some (.ref 12), some (.int s), some (.int (nI k))] [] (c0 :: c1 :: c2 :: c3 :: c4 :: c5 :: c6 :: c7 :: c8 :: c9 :: c10 :: c11 :: .inr (5, [.int th, .int S, .ref 13, .int wr, .int dn, .int go, .int ga, .int te, .int ge, .int gr, .int (nI K), .ref 14, .int nx, .int wt, .ref 15, .ref 16, .ref 17, .ref 18, .int sz, .ref 19, .ref 20]) :: .inl (1, 4096, .inl f) :: .inl (1, 50, .inl so) :: .inl (1, 50, .inl fi) :: .inl (1, 50, .inl nu) :: .inl (1, 50, .inl le) :: .inl (1, 2000, .inl bs) :: .inl (1, 40, .inl ma) :: .inl (1, 64, .inl sh) :: rest) := by
  induction m with
  | zero =>
    intro k hk
    have hk : k = K := by omega
    subst hk
    iterate 3 refine am_s am_cls okX5_isKept rfl ?_
    refine am_b okX5_isKept rfl (fun h7 => ?_) (fun h7 => ?_)
    · skip
      refine am_s am_cls okX5_isKept rfl ?_
      refine am_rz okX5_isKept rfl rfl rfl (by decide) (Nat.le_refl _) (Nat.le_refl _) ?_
      exact ⟨by rw [rf_kept_0]; rfl, rfl⟩
    · exact absurd (nI_le (a := k) (b := k) (Nat.le_refl _) (by omega)) h7
  | succ m ih =>
    intro k hk
    iterate 3 refine am_s am_cls okX5_isKept rfl ?_
    refine am_b okX5_isKept rfl (fun h7 => ?_) (fun h7 => ?_)
    · exact absurd h7 (nI_ge (a := k) (b := K) (by omega) (by omega))
    · skip
      iterate 3 refine am_s am_cls okX5_isKept rfl ?_
      refine am_al okX5_isKept rfl (vp_in_nI (n := k) (N := 50) (by omega) (by decide)) ?_
      refine am_s am_cls okX5_isKept rfl ?_
      refine am_b okX5_isKept rfl (fun h17 => ?_) (fun h17 => ?_)
      · skip
        refine am_s am_cls okX5_isKept rfl ?_
        refine am_rz okX5_isKept rfl rfl rfl (by decide) (Nat.le_refl _) (Nat.le_refl _) ?_
        exact ⟨by rw [rf_kept_s]; simp [h17, pd_b], rfl⟩
      · skip
        iterate 2 refine am_s am_cls okX5_isKept rfl ?_
        have q := ih (k + 1) (by omega)
        rw [nI_succ k] at q
        rw [show rf_kept so s (m + 1) k = rf_kept so s m (k + 1) from by rw [rf_kept_s]; simp [h17]]
        exact q
set_option maxHeartbeats 4000000 in
set_option maxRecDepth 100000 in
theorem r_isKept (c0 c1 c2 c3 c4 c5 c6 c7 c8 c9 c10 c11 : am_E) (rest : am_W) (th S wr dn go ga te ge gr nx wt sz : Int32) (f so fi nu le bs ma sh : Nat → Int32) (s : Int32) (K : Nat) (hK : K ≤ 50) : cM l D tc b yX5_isKept cX5_isKept 3 (some .boolean) 1 0 0 [.ref 12, .int s] (c0 :: c1 :: c2 :: c3 :: c4 :: c5 :: c6 :: c7 :: c8 :: c9 :: c10 :: c11 :: .inr (5, [.int th, .int S, .ref 13, .int wr, .int dn, .int go, .int ga, .int te, .int ge, .int gr, .int (nI K), .ref 14, .int nx, .int wt, .ref 15, .ref 16, .ref 17, .ref 18, .int sz, .ref 19, .ref 20]) :: .inl (1, 4096, .inl f) :: .inl (1, 50, .inl so) :: .inl (1, 50, .inl fi) :: .inl (1, 50, .inl nu) :: .inl (1, 50, .inl le) :: .inl (1, 2000, .inl bs) :: .inl (1, 40, .inl ma) :: .inl (1, 64, .inl sh) :: rest)
    (am_is (some (.int (pd_b (rf_kept so s K 0)))) (c0 :: c1 :: c2 :: c3 :: c4 :: c5 :: c6 :: c7 :: c8 :: c9 :: c10 :: c11 :: .inr (5, [.int th, .int S, .ref 13, .int wr, .int dn, .int go, .int ga, .int te, .int ge, .int gr, .int (nI K), .ref 14, .int nx, .int wt, .ref 15, .ref 16, .ref 17, .ref 18, .int sz, .ref 19, .ref 20]) :: .inl (1, 4096, .inl f) :: .inl (1, 50, .inl so) :: .inl (1, 50, .inl fi) :: .inl (1, 50, .inl nu) :: .inl (1, 50, .inl le) :: .inl (1, 2000, .inl bs) :: .inl (1, 40, .inl ma) :: .inl (1, 64, .inl sh) :: rest)) := by
  refine am_m (own := RX5) (ini := (false, [])) (L := [some (.ref 12), some (.int s), none]) rfl (by decide) (fun h => absurd h (by decide)) rfl (Nat.le_of_ble_eq_true rfl) rfl rfl ?_
  iterate 2 refine am_s am_cls okX5_isKept rfl ?_
  have q := r_isKept_l l D tc b c0 c1 c2 c3 c4 c5 c6 c7 c8 c9 c10 c11 rest th S wr dn go ga te ge gr nx wt sz f so fi nu le bs ma sh s K hK K 0 (Nat.zero_add _)
  rw [nI_0] at q
  exact q
set_option maxHeartbeats 4000000 in
set_option maxRecDepth 100000 in
theorem r_free_l (c0 c1 c2 c3 c4 c5 c6 c7 c8 c9 c10 c11 : am_E) (rest : am_W) (th S wr dn go ga te ge gr nx wt sz : Int32) (f so fi nu le bs ma sh : Nat → Int32) (K : Nat) (hK : K ≤ 50) (hB : rf_kept so (nI 64) K 0 = false) (m : Nat) : ∀ (k : Nat), k + m = 64 → am_R lw_tbl vwCl l D tc b RX5 cX5_free 2 (some .int) (false, []) (am_rm 2 0 0) 0 0 (am_is (some (.int (rf_free so K m k))) (c0 :: c1 :: c2 :: c3 :: c4 :: c5 :: c6 :: c7 :: c8 :: c9 :: c10 :: c11 :: .inr (5, [.int th, .int S, .ref 13, .int wr, .int dn, .int go, .int ga, .int te, .int ge, .int gr, .int (nI K), .ref 14, .int nx, .int wt, .ref 15, .ref 16, .ref 17, .ref 18, .int sz, .ref 19, .ref 20]) :: .inl (1, 4096, .inl f) :: .inl (1, 50, .inl so) :: .inl (1, 50, .inl fi) :: .inl (1, 50, .inl nu) :: .inl (1, 50, .inl le) :: .inl (1, 2000, .inl bs) :: .inl (1, 40, .inl ma) :: .inl (1, 64, .inl sh) :: rest)) 0 0 2 [some (.ref 12), some (.int (nI k))] [] (c0 :: c1 :: c2 :: c3 :: c4 :: c5 :: c6 :: c7 :: c8 :: c9 :: c10 :: c11 :: .inr (5, [.int th, .int S, .ref 13, .int wr, .int dn, .int go, .int ga, .int te, .int ge, .int gr, .int (nI K), .ref 14, .int nx, .int wt, .ref 15, .ref 16, .ref 17, .ref 18, .int sz, .ref 19, .ref 20]) :: .inl (1, 4096, .inl f) :: .inl (1, 50, .inl so) :: .inl (1, 50, .inl fi) :: .inl (1, 50, .inl nu) :: .inl (1, 50, .inl le) :: .inl (1, 2000, .inl bs) :: .inl (1, 40, .inl ma) :: .inl (1, 64, .inl sh) :: rest) := by
  induction m with
  | zero =>
    intro k hk
    have hk : k = 64 := by omega
    subst hk
    iterate 2 refine am_s am_cls okX5_free rfl ?_
    refine am_cV okX5_free rfl (r_isKept l D tc b _ _ _ _ _ _ _ _ _ _ _ _ _ _ _ _ _ _ _ _ _ _ _ _ _ _ _ _ _ _ _ _ _ _ _ hK) cv_X5_104 coX5_isKept rfl rfl rfl ⟨rfl, rfl, rfl⟩ ⟨Nat.le_refl _, Nat.le_refl _⟩ ?_
    rintro _ _ ⟨rfl, rfl⟩
    refine am_b okX5_free rfl (fun h7 => ?_) (fun h7 => ?_)
    · try replace h7 := pd_b0 h7
      refine am_s am_cls okX5_free rfl ?_
      refine am_ri okX5_free rfl rfl rfl (Nat.le_refl _) (Nat.le_refl _) ?_
      exact ⟨by rw [rf_free_0], rfl⟩
    · exact absurd (pd_b1 h7) (by rw [hB]; decide)
  | succ m ih =>
    intro k hk
    iterate 2 refine am_s am_cls okX5_free rfl ?_
    refine am_cV okX5_free rfl (r_isKept l D tc b _ _ _ _ _ _ _ _ _ _ _ _ _ _ _ _ _ _ _ _ _ _ _ _ _ _ _ _ _ _ _ _ _ _ _ hK) cv_X5_104 coX5_isKept rfl rfl rfl ⟨rfl, rfl, rfl⟩ ⟨Nat.le_refl _, Nat.le_refl _⟩ ?_
    rintro _ _ ⟨rfl, rfl⟩
    refine am_b okX5_free rfl (fun h7 => ?_) (fun h7 => ?_)
    · try replace h7 := pd_b0 h7
      refine am_s am_cls okX5_free rfl ?_
      refine am_ri okX5_free rfl rfl rfl (Nat.le_refl _) (Nat.le_refl _) ?_
      exact ⟨by rw [rf_free_s]; simp [h7], rfl⟩
    · try replace h7 := pd_b1 h7
      iterate 2 refine am_s am_cls okX5_free rfl ?_
      have q := ih (k + 1) (by omega)
      rw [nI_succ k] at q
      rw [show rf_free so K (m + 1) k = rf_free so K m (k + 1) from by rw [rf_free_s]; simp [h7]]
      exact q
set_option maxHeartbeats 4000000 in
set_option maxRecDepth 100000 in
theorem r_free (c0 c1 c2 c3 c4 c5 c6 c7 c8 c9 c10 c11 : am_E) (rest : am_W) (th S wr dn go ga te ge gr nx wt sz : Int32) (f so fi nu le bs ma sh : Nat → Int32) (K : Nat) (hK : K ≤ 50) (hB : rf_kept so (nI 64) K 0 = false) : cM l D tc b yX5_free cX5_free 2 (some .int) 2 0 0 [.ref 12] (c0 :: c1 :: c2 :: c3 :: c4 :: c5 :: c6 :: c7 :: c8 :: c9 :: c10 :: c11 :: .inr (5, [.int th, .int S, .ref 13, .int wr, .int dn, .int go, .int ga, .int te, .int ge, .int gr, .int (nI K), .ref 14, .int nx, .int wt, .ref 15, .ref 16, .ref 17, .ref 18, .int sz, .ref 19, .ref 20]) :: .inl (1, 4096, .inl f) :: .inl (1, 50, .inl so) :: .inl (1, 50, .inl fi) :: .inl (1, 50, .inl nu) :: .inl (1, 50, .inl le) :: .inl (1, 2000, .inl bs) :: .inl (1, 40, .inl ma) :: .inl (1, 64, .inl sh) :: rest)
    (am_is (some (.int (rf_free so K 62 2))) (c0 :: c1 :: c2 :: c3 :: c4 :: c5 :: c6 :: c7 :: c8 :: c9 :: c10 :: c11 :: .inr (5, [.int th, .int S, .ref 13, .int wr, .int dn, .int go, .int ga, .int te, .int ge, .int gr, .int (nI K), .ref 14, .int nx, .int wt, .ref 15, .ref 16, .ref 17, .ref 18, .int sz, .ref 19, .ref 20]) :: .inl (1, 4096, .inl f) :: .inl (1, 50, .inl so) :: .inl (1, 50, .inl fi) :: .inl (1, 50, .inl nu) :: .inl (1, 50, .inl le) :: .inl (1, 2000, .inl bs) :: .inl (1, 40, .inl ma) :: .inl (1, 64, .inl sh) :: rest)) := by
  refine am_m (own := RX5) (ini := (false, [])) (L := [some (.ref 12), none]) rfl (by decide) (fun h => absurd h (by decide)) rfl (Nat.le_of_ble_eq_true rfl) rfl rfl ?_
  iterate 2 refine am_s am_cls okX5_free rfl ?_
  exact r_free_l l D tc b c0 c1 c2 c3 c4 c5 c6 c7 c8 c9 c10 c11 rest th S wr dn go ga te ge gr nx wt sz f so fi nu le bs ma sh K hK hB 62 2 rfl
set_option maxHeartbeats 4000000 in
set_option maxRecDepth 100000 in
theorem r_wh_l (c0 c1 c2 c3 c4 c5 c6 c7 c8 c9 c10 c11 : am_E) (rest : am_W) (th S wr dn go ga ge gr nx wt sz : Int32) (f so fi nu le bs ma sh : Nat → Int32) (K t : Nat) (hK : K ≤ 50) (ht : t ≤ 64) (m : Nat) : ∀ (k : Nat), k + m = K → am_R lw_tbl vwCl l D tc b RX5 cX5_writeHead 2 (some .boolean) (false, []) (am_rm 3 0 0) 0 0 (fun v w => (rf_now go ga = true ∧ am_is (some (.int 0)) (c0 :: c1 :: c2 :: c3 :: c4 :: c5 :: c6 :: c7 :: c8 :: c9 :: c10 :: c11 :: .inr (5, [.int th, .int S, .ref 13, .int (wr + 1), .int 1, .int 0, .int ga, .int (nI t), .int ge, .int gr, .int (nI K), .ref 14, .int nx, .int 0, .ref 15, .ref 16, .ref 17, .ref 18, .int 0, .ref 19, .ref 20]) :: .inl (1, 4096, .inl (rf_wr f (rf_par ge) (rf_seal (rf_hl sh so K)) t)) :: .inl (1, 50, .inl so) :: .inl (1, 50, .inl fi) :: .inl (1, 50, .inl nu) :: .inl (1, 50, .inl le) :: .inl (1, 2000, .inl bs) :: .inl (1, 40, .inl ma) :: .inl (1, 64, .inl (rf_seal (rf_hl sh so K))) :: rest) v w) ∨ (rf_now go ga = false ∧ am_is (some (.int 1)) (c0 :: c1 :: c2 :: c3 :: c4 :: c5 :: c6 :: c7 :: c8 :: c9 :: c10 :: c11 :: .inr (5, [.int th, .int S, .ref 13, .int (wr + 1), .int dn, .int go, .int (rf_ga go ga), .int (nI t), .int ge, .int gr, .int (nI K), .ref 14, .int nx, .int wt, .ref 15, .ref 16, .ref 17, .ref 18, .int sz, .ref 19, .ref 20]) :: .inl (1, 4096, .inl (rf_wr f (rf_par ge) (rf_seal (rf_hl sh so K)) 64)) :: .inl (1, 50, .inl so) :: .inl (1, 50, .inl fi) :: .inl (1, 50, .inl nu) :: .inl (1, 50, .inl le) :: .inl (1, 2000, .inl bs) :: .inl (1, 40, .inl ma) :: .inl (1, 64, .inl (rf_seal (rf_hl sh so K))) :: rest) v w)) 0 0 54 [some (.ref 12), some (.int (nI k))] [] (c0 :: c1 :: c2 :: c3 :: c4 :: c5 :: c6 :: c7 :: c8 :: c9 :: c10 :: c11 :: .inr (5, [.int th, .int S, .ref 13, .int wr, .int dn, .int go, .int ga, .int (nI t), .int ge, .int gr, .int (nI K), .ref 14, .int nx, .int wt, .ref 15, .ref 16, .ref 17, .ref 18, .int sz, .ref 19, .ref 20]) :: .inl (1, 4096, .inl f) :: .inl (1, 50, .inl so) :: .inl (1, 50, .inl fi) :: .inl (1, 50, .inl nu) :: .inl (1, 50, .inl le) :: .inl (1, 2000, .inl bs) :: .inl (1, 40, .inl ma) :: .inl (1, 64, .inl (rf_hl sh so k)) :: rest) := by
  induction m with
  | zero =>
    intro k hk
    have hk : k = K := by omega
    subst hk
    iterate 3 refine am_s am_cls okX5_writeHead rfl ?_
    refine am_b okX5_writeHead rfl (fun h59 => ?_) (fun h59 => ?_)
    · skip
      refine am_s am_cls okX5_writeHead rfl ?_
      refine am_cV okX5_writeHead rfl (r_seal l D tc b _ _ _ _ _ _ _ _ _ _ _ _ _ _ _ _ _ _ _ _ _ _ _ _ _ _ _ _ _ _ _ _ _ _) cv_X5_97 coX5_seal rfl rfl rfl ⟨rfl, rfl, rfl⟩ ⟨Nat.le_refl _, Nat.le_refl _⟩ ?_
      rintro _ _ ⟨rfl, rfl⟩
      iterate 4 refine am_s am_cls okX5_writeHead rfl ?_
      refine am_rem okX5_writeHead rfl rfl (by decide) ?_
      refine am_b okX5_writeHead rfl (fun h94 => ?_) (fun h94 => ?_)
      · try replace h94 := pd_b0 h94
        iterate 2 refine am_s am_cls okX5_writeHead rfl ?_
        refine am_cV okX5_writeHead rfl (r_write l D tc b _ _ _ _ _ _ _ _ _ _ _ _ _ _ _ _ _ _ _ _ _ _ _ _ _ _ _ _ _ _ _ _ _ _ _ (by first | exact ⟨0, rfl, by decide⟩ | exact ⟨1, rfl, by decide⟩) ht) cv_X5_100 coX5_write rfl rfl rfl ⟨rfl, rfl, rfl⟩ ⟨Nat.le_refl _, Nat.le_refl _⟩ ?_
        rintro _ _ (⟨hw, rfl, rfl⟩ | ⟨hw, rfl, rfl⟩)
        · skip
          refine am_rz okX5_writeHead rfl rfl rfl (by decide) (Nat.le_refl _) (Nat.le_refl _) ?_
          exact Or.inl ⟨hw, rfl, by rw [show rf_par ge = 0 from if_pos h94]⟩
        · skip
          refine am_rz okX5_writeHead rfl rfl rfl (by decide) (Nat.le_refl _) (Nat.le_refl _) ?_
          exact Or.inr ⟨hw, rfl, by rw [show rf_par ge = 0 from if_pos h94]⟩
      · try replace h94 := pd_b1 h94
        refine am_s am_cls okX5_writeHead rfl ?_
        refine am_cV okX5_writeHead rfl (r_write l D tc b _ _ _ _ _ _ _ _ _ _ _ _ _ _ _ _ _ _ _ _ _ _ _ _ _ _ _ _ _ _ _ _ _ _ _ (by first | exact ⟨0, rfl, by decide⟩ | exact ⟨1, rfl, by decide⟩) ht) cv_X5_100 coX5_write rfl rfl rfl ⟨rfl, rfl, rfl⟩ ⟨Nat.le_refl _, Nat.le_refl _⟩ ?_
        rintro _ _ (⟨hw, rfl, rfl⟩ | ⟨hw, rfl, rfl⟩)
        · skip
          refine am_rz okX5_writeHead rfl rfl rfl (by decide) (Nat.le_refl _) (Nat.le_refl _) ?_
          exact Or.inl ⟨hw, rfl, by rw [show rf_par ge = 1 from if_neg h94]⟩
        · skip
          refine am_rz okX5_writeHead rfl rfl rfl (by decide) (Nat.le_refl _) (Nat.le_refl _) ?_
          exact Or.inr ⟨hw, rfl, by rw [show rf_par ge = 1 from if_neg h94]⟩
    · exact absurd (nI_le (a := k) (b := k) (Nat.le_refl _) (by omega)) h59
  | succ m ih =>
    intro k hk
    iterate 3 refine am_s am_cls okX5_writeHead rfl ?_
    refine am_b okX5_writeHead rfl (fun h59 => ?_) (fun h59 => ?_)
    · exact absurd h59 (nI_ge (a := k) (b := K) (by omega) (by omega))
    · skip
      iterate 8 refine am_s am_cls okX5_writeHead rfl ?_
      refine am_al okX5_writeHead rfl (vp_in_nI (n := k) (N := 50) (by omega) (by decide)) ?_
      refine am_as okX5_writeHead rfl (rf_10 (by omega)) ?_
      iterate 2 refine am_s am_cls okX5_writeHead rfl ?_
      have q := ih (k + 1) (by omega)
      rw [rf_hl_s sh so k, nI_succ k] at q
      exact q
set_option maxHeartbeats 4000000 in
set_option maxRecDepth 100000 in
theorem r_wh (c0 c1 c2 c3 c4 c5 c6 c7 c8 c9 c10 c11 : am_E) (rest : am_W) (th S wr dn go ga ge gr nx wt sz : Int32) (f so fi nu le bs ma sh : Nat → Int32) (K t : Nat) (hK : K ≤ 50) (ht : t ≤ 64) : cM l D tc b yX5_writeHead cX5_writeHead 2 (some .boolean) 3 0 0 [.ref 12] (c0 :: c1 :: c2 :: c3 :: c4 :: c5 :: c6 :: c7 :: c8 :: c9 :: c10 :: c11 :: .inr (5, [.int th, .int S, .ref 13, .int wr, .int dn, .int go, .int ga, .int (nI t), .int ge, .int gr, .int (nI K), .ref 14, .int nx, .int wt, .ref 15, .ref 16, .ref 17, .ref 18, .int sz, .ref 19, .ref 20]) :: .inl (1, 4096, .inl f) :: .inl (1, 50, .inl so) :: .inl (1, 50, .inl fi) :: .inl (1, 50, .inl nu) :: .inl (1, 50, .inl le) :: .inl (1, 2000, .inl bs) :: .inl (1, 40, .inl ma) :: .inl (1, 64, .inl sh) :: rest)
    (fun v w => (rf_now go ga = true ∧ am_is (some (.int 0)) (c0 :: c1 :: c2 :: c3 :: c4 :: c5 :: c6 :: c7 :: c8 :: c9 :: c10 :: c11 :: .inr (5, [.int th, .int S, .ref 13, .int (wr + 1), .int 1, .int 0, .int ga, .int (nI t), .int (ge + 1), .int gr, .int (nI K), .ref 14, .int nx, .int 0, .ref 15, .ref 16, .ref 17, .ref 18, .int 0, .ref 19, .ref 20]) :: .inl (1, 4096, .inl (rf_wr f (rf_par (ge + 1)) (rf_hd sh (ge + 1) gr K so) t)) :: .inl (1, 50, .inl so) :: .inl (1, 50, .inl fi) :: .inl (1, 50, .inl nu) :: .inl (1, 50, .inl le) :: .inl (1, 2000, .inl bs) :: .inl (1, 40, .inl ma) :: .inl (1, 64, .inl (rf_hd sh (ge + 1) gr K so)) :: rest) v w) ∨ (rf_now go ga = false ∧ am_is (some (.int 1)) (c0 :: c1 :: c2 :: c3 :: c4 :: c5 :: c6 :: c7 :: c8 :: c9 :: c10 :: c11 :: .inr (5, [.int th, .int S, .ref 13, .int (wr + 1), .int dn, .int go, .int (rf_ga go ga), .int (nI t), .int (ge + 1), .int gr, .int (nI K), .ref 14, .int nx, .int wt, .ref 15, .ref 16, .ref 17, .ref 18, .int sz, .ref 19, .ref 20]) :: .inl (1, 4096, .inl (rf_wr f (rf_par (ge + 1)) (rf_hd sh (ge + 1) gr K so) 64)) :: .inl (1, 50, .inl so) :: .inl (1, 50, .inl fi) :: .inl (1, 50, .inl nu) :: .inl (1, 50, .inl le) :: .inl (1, 2000, .inl bs) :: .inl (1, 40, .inl ma) :: .inl (1, 64, .inl (rf_hd sh (ge + 1) gr K so)) :: rest) v w)) := by
  refine am_m (own := RX5) (ini := (false, [])) (L := [some (.ref 12), none]) rfl (by decide) (fun h => absurd h (by decide)) rfl (Nat.le_of_ble_eq_true rfl) rfl rfl ?_
  iterate 7 refine am_s am_cls okX5_writeHead rfl ?_
  refine am_cV okX5_writeHead rfl (r_empty l D tc b _ _ _ _ _ _ _ _ _ _ _ _ _ _ _ _ _ _ _ _ _ _ _ _ _ _ _ _ _ _ _ _ _ _) cv_X5_88 coX5_empty rfl rfl rfl ⟨rfl, rfl, rfl⟩ ⟨Nat.le_refl _, Nat.le_refl _⟩ ?_
  rintro _ _ ⟨rfl, rfl⟩
  iterate 4 refine am_s am_cls okX5_writeHead rfl ?_
  refine am_as okX5_writeHead rfl (vp_in_nI (n := 0) (N := 64) (by decide) (by decide)) ?_
  iterate 4 refine am_s am_cls okX5_writeHead rfl ?_
  refine am_cV okX5_writeHead rfl (r_put l D tc b _ _ _ _ _ _ _ _ _ _ _ _ _ _ _ _ _ _ _ _ _ _ _ _ _ _ _ _ _ _ _ _ _ _ _ _ ⟨1, rfl, by decide⟩) cv_X5_81 coX5_putFour rfl rfl rfl ⟨rfl, rfl, rfl⟩ ⟨Nat.le_refl _, Nat.le_refl _⟩ ?_
  rintro _ _ ⟨rfl, rfl⟩
  iterate 4 refine am_s am_cls okX5_writeHead rfl ?_
  refine am_cV okX5_writeHead rfl (r_put l D tc b _ _ _ _ _ _ _ _ _ _ _ _ _ _ _ _ _ _ _ _ _ _ _ _ _ _ _ _ _ _ _ _ _ _ _ _ ⟨5, rfl, by decide⟩) cv_X5_81 coX5_putFour rfl rfl rfl ⟨rfl, rfl, rfl⟩ ⟨Nat.le_refl _, Nat.le_refl _⟩ ?_
  rintro _ _ ⟨rfl, rfl⟩
  iterate 5 refine am_s am_cls okX5_writeHead rfl ?_
  refine am_as okX5_writeHead rfl (vp_in_nI (n := 9) (N := 64) (by decide) (by decide)) ?_
  iterate 2 refine am_s am_cls okX5_writeHead rfl ?_
  have q := r_wh_l l D tc b c0 c1 c2 c3 c4 c5 c6 c7 c8 c9 c10 c11 rest th S wr dn go ga (ge + 1) gr nx wt sz f so fi nu le bs ma (upd (rf_put (rf_put (upd (rf_z sh 64) (0 : Int32).toNatClampNeg 200) 1 (ge + 1) 4) 5 gr 4) (9 : Int32).toNatClampNeg (nI K)) K t hK ht K 0 (Nat.zero_add _)
  rw [rf_hl_0, nI_0] at q
  exact q
set_option maxHeartbeats 4000000 in
set_option maxRecDepth 100000 in
theorem r_fill_l (c0 c1 c2 c3 c4 c5 c6 c7 c8 c9 c10 c11 : am_E) (rest : am_W) (th S wr dn go ga te ge gr ke nx wt sz : Int32) (f so fi nu le bs ma sh : Nat → Int32) (w : Int32) (L : Nat) (hw : rf_p w 0 50) (hl : le w.toNatClampNeg = nI L) (hL : L ≤ 40) (m : Nat) : ∀ (k : Nat), k + m = L → am_R lw_tbl vwCl l D tc b RX5 cX5_fill 3 none (false, []) (am_rm 3 0 0) 0 0 (am_is none (c0 :: c1 :: c2 :: c3 :: c4 :: c5 :: c6 :: c7 :: c8 :: c9 :: c10 :: c11 :: .inr (5, [.int th, .int S, .ref 13, .int wr, .int dn, .int go, .int ga, .int te, .int ge, .int gr, .int ke, .ref 14, .int nx, .int wt, .ref 15, .ref 16, .ref 17, .ref 18, .int sz, .ref 19, .ref 20]) :: .inl (1, 4096, .inl f) :: .inl (1, 50, .inl so) :: .inl (1, 50, .inl fi) :: .inl (1, 50, .inl nu) :: .inl (1, 50, .inl le) :: .inl (1, 2000, .inl bs) :: .inl (1, 40, .inl ma) :: .inl (1, 64, .inl (rf_seal (rf_fl sh bs w L))) :: rest)) 0 0 41 [some (.ref 12), some (.int w), some (.int (nI k))] [] (c0 :: c1 :: c2 :: c3 :: c4 :: c5 :: c6 :: c7 :: c8 :: c9 :: c10 :: c11 :: .inr (5, [.int th, .int S, .ref 13, .int wr, .int dn, .int go, .int ga, .int te, .int ge, .int gr, .int ke, .ref 14, .int nx, .int wt, .ref 15, .ref 16, .ref 17, .ref 18, .int sz, .ref 19, .ref 20]) :: .inl (1, 4096, .inl f) :: .inl (1, 50, .inl so) :: .inl (1, 50, .inl fi) :: .inl (1, 50, .inl nu) :: .inl (1, 50, .inl le) :: .inl (1, 2000, .inl bs) :: .inl (1, 40, .inl ma) :: .inl (1, 64, .inl (rf_fl sh bs w k)) :: rest) := by
  induction m with
  | zero =>
    intro k hk
    have hk : k = L := by omega
    subst hk
    iterate 4 refine am_s am_cls okX5_fill rfl ?_
    refine am_al okX5_fill rfl (rf_pi hw (by decide)) ?_
    refine am_b okX5_fill rfl (fun h48 => ?_) (fun h48 => ?_)
    · skip
      refine am_s am_cls okX5_fill rfl ?_
      refine am_cV okX5_fill rfl (r_seal l D tc b _ _ _ _ _ _ _ _ _ _ _ _ _ _ _ _ _ _ _ _ _ _ _ _ _ _ _ _ _ _ _ _ _ _) cv_X5_97 coX5_seal rfl rfl rfl ⟨rfl, rfl, rfl⟩ ⟨Nat.le_refl _, Nat.le_refl _⟩ ?_
      rintro _ _ ⟨rfl, rfl⟩
      refine am_rv okX5_fill rfl rfl rfl (Nat.le_refl _) (Nat.le_refl _) ?_
      exact ⟨rfl, rfl⟩
    · exact absurd (by rw [hl]; exact nI_le (a := k) (b := k) (Nat.le_refl _) (by omega)) h48
  | succ m ih =>
    intro k hk
    iterate 4 refine am_s am_cls okX5_fill rfl ?_
    refine am_al okX5_fill rfl (rf_pi hw (by decide)) ?_
    refine am_b okX5_fill rfl (fun h48 => ?_) (fun h48 => ?_)
    · exact absurd h48 (by rw [hl]; exact nI_ge (a := k) (b := L) (by omega) (by omega))
    · skip
      iterate 12 refine am_s am_cls okX5_fill rfl ?_
      refine am_al okX5_fill rfl (rf_40 hw (by omega)) ?_
      refine am_as okX5_fill rfl (rf_6 (by omega)) ?_
      iterate 2 refine am_s am_cls okX5_fill rfl ?_
      have q := ih (k + 1) (by omega)
      rw [rf_fl_s sh bs w k, nI_succ k] at q
      exact q
set_option maxHeartbeats 4000000 in
set_option maxRecDepth 100000 in
theorem r_fill (c0 c1 c2 c3 c4 c5 c6 c7 c8 c9 c10 c11 : am_E) (rest : am_W) (th S wr dn go ga te ge gr ke nx wt sz : Int32) (f so fi nu le bs ma sh : Nat → Int32) (w : Int32) (L : Nat) (hw : rf_p w 0 50) (hl : le w.toNatClampNeg = nI L) (hL : L ≤ 40) : cM l D tc b yX5_fill cX5_fill 3 none 3 0 0 [.ref 12, .int w] (c0 :: c1 :: c2 :: c3 :: c4 :: c5 :: c6 :: c7 :: c8 :: c9 :: c10 :: c11 :: .inr (5, [.int th, .int S, .ref 13, .int wr, .int dn, .int go, .int ga, .int te, .int ge, .int gr, .int ke, .ref 14, .int nx, .int wt, .ref 15, .ref 16, .ref 17, .ref 18, .int sz, .ref 19, .ref 20]) :: .inl (1, 4096, .inl f) :: .inl (1, 50, .inl so) :: .inl (1, 50, .inl fi) :: .inl (1, 50, .inl nu) :: .inl (1, 50, .inl le) :: .inl (1, 2000, .inl bs) :: .inl (1, 40, .inl ma) :: .inl (1, 64, .inl sh) :: rest)
    (am_is none (c0 :: c1 :: c2 :: c3 :: c4 :: c5 :: c6 :: c7 :: c8 :: c9 :: c10 :: c11 :: .inr (5, [.int th, .int S, .ref 13, .int wr, .int dn, .int go, .int ga, .int te, .int ge, .int gr, .int ke, .ref 14, .int nx, .int wt, .ref 15, .ref 16, .ref 17, .ref 18, .int sz, .ref 19, .ref 20]) :: .inl (1, 4096, .inl f) :: .inl (1, 50, .inl so) :: .inl (1, 50, .inl fi) :: .inl (1, 50, .inl nu) :: .inl (1, 50, .inl le) :: .inl (1, 2000, .inl bs) :: .inl (1, 40, .inl ma) :: .inl (1, 64, .inl (rf_rw sh fi nu le bs w L)) :: rest)) := by
  refine am_m (own := RX5) (ini := (false, [])) (L := [some (.ref 12), some (.int w), none]) rfl (by decide) (fun h => absurd h (by decide)) rfl (Nat.le_of_ble_eq_true rfl) rfl rfl ?_
  refine am_s am_cls okX5_fill rfl ?_
  refine am_cV okX5_fill rfl (r_empty l D tc b _ _ _ _ _ _ _ _ _ _ _ _ _ _ _ _ _ _ _ _ _ _ _ _ _ _ _ _ _ _ _ _ _ _) cv_X5_88 coX5_empty rfl rfl rfl ⟨rfl, rfl, rfl⟩ ⟨Nat.le_refl _, Nat.le_refl _⟩ ?_
  rintro _ _ ⟨rfl, rfl⟩
  iterate 6 refine am_s am_cls okX5_fill rfl ?_
  refine am_al okX5_fill rfl (rf_pi hw (by decide)) ?_
  refine am_as okX5_fill rfl (vp_in_nI (n := 0) (N := 64) (by decide) (by decide)) ?_
  iterate 5 refine am_s am_cls okX5_fill rfl ?_
  refine am_al okX5_fill rfl (rf_pi hw (by decide)) ?_
  refine am_cV okX5_fill rfl (r_put l D tc b _ _ _ _ _ _ _ _ _ _ _ _ _ _ _ _ _ _ _ _ _ _ _ _ _ _ _ _ _ _ _ _ _ _ _ _ ⟨1, rfl, by decide⟩) cv_X5_81 coX5_putFour rfl rfl rfl ⟨rfl, rfl, rfl⟩ ⟨Nat.le_refl _, Nat.le_refl _⟩ ?_
  rintro _ _ ⟨rfl, rfl⟩
  iterate 6 refine am_s am_cls okX5_fill rfl ?_
  refine am_al okX5_fill rfl (rf_pi hw (by decide)) ?_
  refine am_as okX5_fill rfl (vp_in_nI (n := 5) (N := 64) (by decide) (by decide)) ?_
  iterate 2 refine am_s am_cls okX5_fill rfl ?_
  have q := r_fill_l l D tc b c0 c1 c2 c3 c4 c5 c6 c7 c8 c9 c10 c11 rest th S wr dn go ga te ge gr ke nx wt sz f so fi nu le bs ma (upd (rf_put (upd (rf_z sh 64) (0 : Int32).toNatClampNeg (fi w.toNatClampNeg)) 1 (nu w.toNatClampNeg) 4) (5 : Int32).toNatClampNeg (le w.toNatClampNeg)) w L hw hl hL L 0 (Nat.zero_add _)
  rw [rf_fl_0, nI_0] at q
  exact q
set_option maxHeartbeats 4000000 in
set_option maxRecDepth 100000 in
theorem r_isWrong (c0 c1 c2 c3 c4 c5 c6 c7 c8 c9 c10 c11 : am_E) (rest : am_W) (th S wr dn go ga te ge gr ke nx wt sz : Int32) (f so fi nu le bs ma sh : Nat → Int32) (k : Int32) (hk : vp_in k 50) (hs : rf_ok (so k.toNatClampNeg)) : cM l D tc b yX5_isWrong cX5_isWrong 5 (some .boolean) 4 0 0 [.ref 12, .int k] (c0 :: c1 :: c2 :: c3 :: c4 :: c5 :: c6 :: c7 :: c8 :: c9 :: c10 :: c11 :: .inr (5, [.int th, .int S, .ref 13, .int wr, .int dn, .int go, .int ga, .int te, .int ge, .int gr, .int ke, .ref 14, .int nx, .int wt, .ref 15, .ref 16, .ref 17, .ref 18, .int sz, .ref 19, .ref 20]) :: .inl (1, 4096, .inl f) :: .inl (1, 50, .inl so) :: .inl (1, 50, .inl fi) :: .inl (1, 50, .inl nu) :: .inl (1, 50, .inl le) :: .inl (1, 2000, .inl bs) :: .inl (1, 40, .inl ma) :: .inl (1, 64, .inl sh) :: rest)
    (am_is (some (.int (pd_b (rf_wrong f (so k.toNatClampNeg))))) (c0 :: c1 :: c2 :: c3 :: c4 :: c5 :: c6 :: c7 :: c8 :: c9 :: c10 :: c11 :: .inr (5, [.int th, .int S, .ref 13, .int wr, .int dn, .int go, .int ga, .int te, .int ge, .int gr, .int ke, .ref 14, .int nx, .int wt, .ref 15, .ref 16, .ref 17, .ref 18, .int sz, .ref 19, .ref 20]) :: .inl (1, 4096, .inl f) :: .inl (1, 50, .inl so) :: .inl (1, 50, .inl fi) :: .inl (1, 50, .inl nu) :: .inl (1, 50, .inl le) :: .inl (1, 2000, .inl bs) :: .inl (1, 40, .inl ma) :: .inl (1, 64, .inl sh) :: rest)) := by
  refine am_m (own := RX5) (ini := (false, [])) (L := [some (.ref 12), some (.int k), none, none, none]) rfl (by decide) (fun h => absurd h (by decide)) rfl (Nat.le_of_ble_eq_true rfl) rfl rfl ?_
  iterate 4 refine am_s am_cls okX5_isWrong rfl ?_
  refine am_al okX5_isWrong rfl hk ?_
  iterate 5 refine am_s am_cls okX5_isWrong rfl ?_
  refine am_al okX5_isWrong rfl (rf_v0 hs) ?_
  iterate 3 refine am_s am_cls okX5_isWrong rfl ?_
  refine am_b okX5_isWrong rfl (fun h19 => ?_) (fun h19 => ?_)
  · skip
    iterate 2 refine am_s am_cls okX5_isWrong rfl ?_
    refine am_b okX5_isWrong rfl (fun h31 => ?_) (fun h31 => ?_)
    · skip
      iterate 6 refine am_s am_cls okX5_isWrong rfl ?_
      refine am_al okX5_isWrong rfl hk ?_
      refine am_cV okX5_isWrong rfl (r_isWhole l D tc b _ _ _ _ _ _ _ _ _ _ _ _ _ _ _ _ _ _ _ _ _ _ _ _ _ _ _ _ _ _ _ _ _ _ _ hs) cv_X5_123 coX5_isWhole rfl rfl rfl ⟨rfl, rfl, rfl⟩ ⟨Nat.le_refl _, Nat.le_refl _⟩ ?_
      rintro _ _ ⟨rfl, rfl⟩
      refine am_b okX5_isWrong rfl (fun h57 => ?_) (fun h57 => ?_)
      · try replace h57 := pd_b0 h57
        iterate 2 refine am_s am_cls okX5_isWrong rfl ?_
        refine am_rz okX5_isWrong rfl rfl rfl (by decide) (Nat.le_refl _) (Nat.le_refl _) ?_
        exact ⟨by simp [rf_wrong, rf_mark, pd_bt, pd_bf, *], rfl⟩
      · try replace h57 := pd_b1 h57
        refine am_s am_cls okX5_isWrong rfl ?_
        refine am_b okX5_isWrong rfl (fun h62 => ?_) (fun h62 => ?_)
        · try replace h62 := pd_b0 h62
          iterate 2 refine am_s am_cls okX5_isWrong rfl ?_
          refine am_rz okX5_isWrong rfl rfl rfl (by decide) (Nat.le_refl _) (Nat.le_refl _) ?_
          exact ⟨by simp [rf_wrong, rf_mark, pd_bt, pd_bf, *], rfl⟩
        · exact absurd rfl h62
    · skip
      iterate 2 refine am_s am_cls okX5_isWrong rfl ?_
      refine am_b okX5_isWrong rfl (fun h37 => ?_) (fun h37 => ?_)
      · skip
        iterate 6 refine am_s am_cls okX5_isWrong rfl ?_
        refine am_al okX5_isWrong rfl hk ?_
        refine am_cV okX5_isWrong rfl (r_isWhole l D tc b _ _ _ _ _ _ _ _ _ _ _ _ _ _ _ _ _ _ _ _ _ _ _ _ _ _ _ _ _ _ _ _ _ _ _ hs) cv_X5_123 coX5_isWhole rfl rfl rfl ⟨rfl, rfl, rfl⟩ ⟨Nat.le_refl _, Nat.le_refl _⟩ ?_
        rintro _ _ ⟨rfl, rfl⟩
        refine am_b okX5_isWrong rfl (fun h57 => ?_) (fun h57 => ?_)
        · try replace h57 := pd_b0 h57
          iterate 2 refine am_s am_cls okX5_isWrong rfl ?_
          refine am_rz okX5_isWrong rfl rfl rfl (by decide) (Nat.le_refl _) (Nat.le_refl _) ?_
          exact ⟨by simp [rf_wrong, rf_mark, pd_bt, pd_bf, *], rfl⟩
        · try replace h57 := pd_b1 h57
          refine am_s am_cls okX5_isWrong rfl ?_
          refine am_b okX5_isWrong rfl (fun h62 => ?_) (fun h62 => ?_)
          · try replace h62 := pd_b0 h62
            iterate 2 refine am_s am_cls okX5_isWrong rfl ?_
            refine am_rz okX5_isWrong rfl rfl rfl (by decide) (Nat.le_refl _) (Nat.le_refl _) ?_
            exact ⟨by simp [rf_wrong, rf_mark, pd_bt, pd_bf, *], rfl⟩
          · exact absurd rfl h62
      · skip
        iterate 7 refine am_s am_cls okX5_isWrong rfl ?_
        refine am_al okX5_isWrong rfl hk ?_
        refine am_cV okX5_isWrong rfl (r_isWhole l D tc b _ _ _ _ _ _ _ _ _ _ _ _ _ _ _ _ _ _ _ _ _ _ _ _ _ _ _ _ _ _ _ _ _ _ _ hs) cv_X5_123 coX5_isWhole rfl rfl rfl ⟨rfl, rfl, rfl⟩ ⟨Nat.le_refl _, Nat.le_refl _⟩ ?_
        rintro _ _ ⟨rfl, rfl⟩
        refine am_b okX5_isWrong rfl (fun h57 => ?_) (fun h57 => ?_)
        · try replace h57 := pd_b0 h57
          iterate 2 refine am_s am_cls okX5_isWrong rfl ?_
          refine am_rz okX5_isWrong rfl rfl rfl (by decide) (Nat.le_refl _) (Nat.le_refl _) ?_
          exact ⟨by simp [rf_wrong, rf_mark, pd_bt, pd_bf, *], rfl⟩
        · try replace h57 := pd_b1 h57
          refine am_s am_cls okX5_isWrong rfl ?_
          refine am_b okX5_isWrong rfl (fun h62 => ?_) (fun h62 => ?_)
          · exact absurd h62 (by decide)
          · try replace h62 := pd_b1 h62
            iterate 5 refine am_s am_cls okX5_isWrong rfl ?_
            refine am_al okX5_isWrong rfl (rf_pk (rf_64 hs) (by decide) 5 (by decide)) ?_
            refine am_s am_cls okX5_isWrong rfl ?_
            refine am_b okX5_isWrong rfl (fun h75 => ?_) (fun h75 => ?_)
            · skip
              refine am_s am_cls okX5_isWrong rfl ?_
              refine am_rz okX5_isWrong rfl rfl rfl (by decide) (Nat.le_refl _) (Nat.le_refl _) ?_
              exact ⟨by simp [rf_wrong, rf_mark, pd_bt, pd_bf, *], rfl⟩
            · skip
              iterate 2 refine am_s am_cls okX5_isWrong rfl ?_
              refine am_rz okX5_isWrong rfl rfl rfl (by decide) (Nat.le_refl _) (Nat.le_refl _) ?_
              exact ⟨by simp [rf_wrong, rf_mark, pd_bt, pd_bf, *], rfl⟩
  · skip
    iterate 2 refine am_s am_cls okX5_isWrong rfl ?_
    refine am_b okX5_isWrong rfl (fun h25 => ?_) (fun h25 => ?_)
    · skip
      iterate 7 refine am_s am_cls okX5_isWrong rfl ?_
      refine am_al okX5_isWrong rfl hk ?_
      refine am_cV okX5_isWrong rfl (r_isWhole l D tc b _ _ _ _ _ _ _ _ _ _ _ _ _ _ _ _ _ _ _ _ _ _ _ _ _ _ _ _ _ _ _ _ _ _ _ hs) cv_X5_123 coX5_isWhole rfl rfl rfl ⟨rfl, rfl, rfl⟩ ⟨Nat.le_refl _, Nat.le_refl _⟩ ?_
      rintro _ _ ⟨rfl, rfl⟩
      refine am_b okX5_isWrong rfl (fun h57 => ?_) (fun h57 => ?_)
      · try replace h57 := pd_b0 h57
        iterate 2 refine am_s am_cls okX5_isWrong rfl ?_
        refine am_rz okX5_isWrong rfl rfl rfl (by decide) (Nat.le_refl _) (Nat.le_refl _) ?_
        exact ⟨by simp [rf_wrong, rf_mark, pd_bt, pd_bf, *], rfl⟩
      · try replace h57 := pd_b1 h57
        refine am_s am_cls okX5_isWrong rfl ?_
        refine am_b okX5_isWrong rfl (fun h62 => ?_) (fun h62 => ?_)
        · exact absurd h62 (by decide)
        · try replace h62 := pd_b1 h62
          iterate 5 refine am_s am_cls okX5_isWrong rfl ?_
          refine am_al okX5_isWrong rfl (rf_pk (rf_64 hs) (by decide) 5 (by decide)) ?_
          refine am_s am_cls okX5_isWrong rfl ?_
          refine am_b okX5_isWrong rfl (fun h75 => ?_) (fun h75 => ?_)
          · skip
            refine am_s am_cls okX5_isWrong rfl ?_
            refine am_rz okX5_isWrong rfl rfl rfl (by decide) (Nat.le_refl _) (Nat.le_refl _) ?_
            exact ⟨by simp [rf_wrong, rf_mark, pd_bt, pd_bf, *], rfl⟩
          · skip
            iterate 2 refine am_s am_cls okX5_isWrong rfl ?_
            refine am_rz okX5_isWrong rfl rfl rfl (by decide) (Nat.le_refl _) (Nat.le_refl _) ?_
            exact ⟨by simp [rf_wrong, rf_mark, pd_bt, pd_bf, *], rfl⟩
    · skip
      iterate 2 refine am_s am_cls okX5_isWrong rfl ?_
      refine am_b okX5_isWrong rfl (fun h31 => ?_) (fun h31 => ?_)
      · skip
        iterate 6 refine am_s am_cls okX5_isWrong rfl ?_
        refine am_al okX5_isWrong rfl hk ?_
        refine am_cV okX5_isWrong rfl (r_isWhole l D tc b _ _ _ _ _ _ _ _ _ _ _ _ _ _ _ _ _ _ _ _ _ _ _ _ _ _ _ _ _ _ _ _ _ _ _ hs) cv_X5_123 coX5_isWhole rfl rfl rfl ⟨rfl, rfl, rfl⟩ ⟨Nat.le_refl _, Nat.le_refl _⟩ ?_
        rintro _ _ ⟨rfl, rfl⟩
        refine am_b okX5_isWrong rfl (fun h57 => ?_) (fun h57 => ?_)
        · try replace h57 := pd_b0 h57
          iterate 2 refine am_s am_cls okX5_isWrong rfl ?_
          refine am_rz okX5_isWrong rfl rfl rfl (by decide) (Nat.le_refl _) (Nat.le_refl _) ?_
          exact ⟨by simp [rf_wrong, rf_mark, pd_bt, pd_bf, *], rfl⟩
        · try replace h57 := pd_b1 h57
          refine am_s am_cls okX5_isWrong rfl ?_
          refine am_b okX5_isWrong rfl (fun h62 => ?_) (fun h62 => ?_)
          · try replace h62 := pd_b0 h62
            iterate 2 refine am_s am_cls okX5_isWrong rfl ?_
            refine am_rz okX5_isWrong rfl rfl rfl (by decide) (Nat.le_refl _) (Nat.le_refl _) ?_
            exact ⟨by simp [rf_wrong, rf_mark, pd_bt, pd_bf, *], rfl⟩
          · exact absurd rfl h62
      · skip
        iterate 2 refine am_s am_cls okX5_isWrong rfl ?_
        refine am_b okX5_isWrong rfl (fun h37 => ?_) (fun h37 => ?_)
        · skip
          iterate 6 refine am_s am_cls okX5_isWrong rfl ?_
          refine am_al okX5_isWrong rfl hk ?_
          refine am_cV okX5_isWrong rfl (r_isWhole l D tc b _ _ _ _ _ _ _ _ _ _ _ _ _ _ _ _ _ _ _ _ _ _ _ _ _ _ _ _ _ _ _ _ _ _ _ hs) cv_X5_123 coX5_isWhole rfl rfl rfl ⟨rfl, rfl, rfl⟩ ⟨Nat.le_refl _, Nat.le_refl _⟩ ?_
          rintro _ _ ⟨rfl, rfl⟩
          refine am_b okX5_isWrong rfl (fun h57 => ?_) (fun h57 => ?_)
          · try replace h57 := pd_b0 h57
            iterate 2 refine am_s am_cls okX5_isWrong rfl ?_
            refine am_rz okX5_isWrong rfl rfl rfl (by decide) (Nat.le_refl _) (Nat.le_refl _) ?_
            exact ⟨by simp [rf_wrong, rf_mark, pd_bt, pd_bf, *], rfl⟩
          · try replace h57 := pd_b1 h57
            refine am_s am_cls okX5_isWrong rfl ?_
            refine am_b okX5_isWrong rfl (fun h62 => ?_) (fun h62 => ?_)
            · try replace h62 := pd_b0 h62
              iterate 2 refine am_s am_cls okX5_isWrong rfl ?_
              refine am_rz okX5_isWrong rfl rfl rfl (by decide) (Nat.le_refl _) (Nat.le_refl _) ?_
              exact ⟨by simp [rf_wrong, rf_mark, pd_bt, pd_bf, *], rfl⟩
            · exact absurd rfl h62
        · skip
          iterate 7 refine am_s am_cls okX5_isWrong rfl ?_
          refine am_al okX5_isWrong rfl hk ?_
          refine am_cV okX5_isWrong rfl (r_isWhole l D tc b _ _ _ _ _ _ _ _ _ _ _ _ _ _ _ _ _ _ _ _ _ _ _ _ _ _ _ _ _ _ _ _ _ _ _ hs) cv_X5_123 coX5_isWhole rfl rfl rfl ⟨rfl, rfl, rfl⟩ ⟨Nat.le_refl _, Nat.le_refl _⟩ ?_
          rintro _ _ ⟨rfl, rfl⟩
          refine am_b okX5_isWrong rfl (fun h57 => ?_) (fun h57 => ?_)
          · try replace h57 := pd_b0 h57
            iterate 2 refine am_s am_cls okX5_isWrong rfl ?_
            refine am_rz okX5_isWrong rfl rfl rfl (by decide) (Nat.le_refl _) (Nat.le_refl _) ?_
            exact ⟨by simp [rf_wrong, rf_mark, pd_bt, pd_bf, *], rfl⟩
          · try replace h57 := pd_b1 h57
            refine am_s am_cls okX5_isWrong rfl ?_
            refine am_b okX5_isWrong rfl (fun h62 => ?_) (fun h62 => ?_)
            · exact absurd h62 (by decide)
            · try replace h62 := pd_b1 h62
              iterate 5 refine am_s am_cls okX5_isWrong rfl ?_
              refine am_al okX5_isWrong rfl (rf_pk (rf_64 hs) (by decide) 5 (by decide)) ?_
              refine am_s am_cls okX5_isWrong rfl ?_
              refine am_b okX5_isWrong rfl (fun h75 => ?_) (fun h75 => ?_)
              · skip
                refine am_s am_cls okX5_isWrong rfl ?_
                refine am_rz okX5_isWrong rfl rfl rfl (by decide) (Nat.le_refl _) (Nat.le_refl _) ?_
                exact ⟨by simp [rf_wrong, rf_mark, pd_bt, pd_bf, *], rfl⟩
              · skip
                iterate 2 refine am_s am_cls okX5_isWrong rfl ?_
                refine am_rz okX5_isWrong rfl rfl rfl (by decide) (Nat.le_refl _) (Nat.le_refl _) ?_
                exact ⟨by simp [rf_wrong, rf_mark, pd_bt, pd_bf, *], rfl⟩
set_option maxHeartbeats 4000000 in
set_option maxRecDepth 100000 in
theorem r_isHead_l (c0 c1 c2 c3 c4 c5 c6 c7 c8 c9 c10 c11 : am_E) (rest : am_W) (th S wr dn go ga te ge gr ke nx wt sz : Int32) (f so fi nu le bs ma sh : Nat → Int32) (s : Int32) (hs : rf_ok s) (hr : (f (64 * s + 9).toNatClampNeg).toNatClampNeg ≤ 50) (m : Nat) : ∀ (k : Nat), k + m = (f (64 * s + 9).toNatClampNeg).toNatClampNeg → am_R lw_tbl vwCl l D tc b RX5 cX5_isHead 4 (some .boolean) (false, []) (am_rm 4 0 0) 0 0 (am_is (some (.int (pd_b (rf_hb f S s m k)))) (c0 :: c1 :: c2 :: c3 :: c4 :: c5 :: c6 :: c7 :: c8 :: c9 :: c10 :: c11 :: .inr (5, [.int th, .int S, .ref 13, .int wr, .int dn, .int go, .int ga, .int te, .int ge, .int gr, .int ke, .ref 14, .int nx, .int wt, .ref 15, .ref 16, .ref 17, .ref 18, .int sz, .ref 19, .ref 20]) :: .inl (1, 4096, .inl f) :: .inl (1, 50, .inl so) :: .inl (1, 50, .inl fi) :: .inl (1, 50, .inl nu) :: .inl (1, 50, .inl le) :: .inl (1, 2000, .inl bs) :: .inl (1, 40, .inl ma) :: .inl (1, 64, .inl sh) :: rest)) 0 0 43 [some (.ref 12), some (.int s), some (.int (64 * s)), some (.int (nI k))] [] (c0 :: c1 :: c2 :: c3 :: c4 :: c5 :: c6 :: c7 :: c8 :: c9 :: c10 :: c11 :: .inr (5, [.int th, .int S, .ref 13, .int wr, .int dn, .int go, .int ga, .int te, .int ge, .int gr, .int ke, .ref 14, .int nx, .int wt, .ref 15, .ref 16, .ref 17, .ref 18, .int sz, .ref 19, .ref 20]) :: .inl (1, 4096, .inl f) :: .inl (1, 50, .inl so) :: .inl (1, 50, .inl fi) :: .inl (1, 50, .inl nu) :: .inl (1, 50, .inl le) :: .inl (1, 2000, .inl bs) :: .inl (1, 40, .inl ma) :: .inl (1, 64, .inl sh) :: rest) := by
  induction m with
  | zero =>
    intro k hk
    have hk : k = (f (64 * s + 9).toNatClampNeg).toNatClampNeg := by omega
    subst hk
    iterate 6 refine am_s am_cls okX5_isHead rfl ?_
    refine am_al okX5_isHead rfl (rf_pk (rf_64 hs) (by decide) 9 (by decide)) ?_
    refine am_b okX5_isHead rfl (fun h53 => ?_) (fun h53 => ?_)
    · skip
      refine am_s am_cls okX5_isHead rfl ?_
      refine am_rz okX5_isHead rfl rfl rfl (by decide) (Nat.le_refl _) (Nat.le_refl _) ?_
      exact ⟨by rw [rf_hb_0]; rfl, rfl⟩
    · exact absurd (cl_ge (Nat.le_refl _) (by omega)) h53
  | succ m ih =>
    intro k hk
    iterate 6 refine am_s am_cls okX5_isHead rfl ?_
    refine am_al okX5_isHead rfl (rf_pk (rf_64 hs) (by decide) 9 (by decide)) ?_
    refine am_b okX5_isHead rfl (fun h53 => ?_) (fun h53 => ?_)
    · exact absurd h53 (cl_lt (by omega))
    · skip
      iterate 7 refine am_s am_cls okX5_isHead rfl ?_
      refine am_al okX5_isHead rfl (rf_pk (rf_pa (rf_64 hs) 10 53 (by decide)) (by decide) k (by omega)) ?_
      refine am_s am_cls okX5_isHead rfl ?_
      refine am_b okX5_isHead rfl (fun h68 => ?_) (fun h68 => ?_)
      · skip
        refine am_s am_cls okX5_isHead rfl ?_
        refine am_rz okX5_isHead rfl rfl rfl (by decide) (Nat.le_refl _) (Nat.le_refl _) ?_
        exact ⟨by rw [rf_hb_s]; simp [h68, pd_b], rfl⟩
      · skip
        iterate 7 refine am_s am_cls okX5_isHead rfl ?_
        refine am_al okX5_isHead rfl (rf_pk (rf_pa (rf_64 hs) 10 53 (by decide)) (by decide) k (by omega)) ?_
        iterate 2 refine am_s am_cls okX5_isHead rfl ?_
        refine am_b okX5_isHead rfl (fun h86 => ?_) (fun h86 => ?_)
        · skip
          iterate 2 refine am_s am_cls okX5_isHead rfl ?_
          have q := ih (k + 1) (by omega)
          rw [nI_succ k] at q
          rw [show rf_hb f S s (m + 1) k = rf_hb f S s m (k + 1) from by rw [rf_hb_s]; simp [h68, h86]]
          exact q
        · skip
          refine am_s am_cls okX5_isHead rfl ?_
          refine am_rz okX5_isHead rfl rfl rfl (by decide) (Nat.le_refl _) (Nat.le_refl _) ?_
          exact ⟨by rw [rf_hb_s]; simp [h68, h86, pd_b], rfl⟩
set_option maxHeartbeats 4000000 in
set_option maxRecDepth 100000 in
theorem r_isHead (c0 c1 c2 c3 c4 c5 c6 c7 c8 c9 c10 c11 : am_E) (rest : am_W) (th S wr dn go ga te ge gr ke nx wt sz : Int32) (f so fi nu le bs ma sh : Nat → Int32) (s : Int32) (hs : rf_ok s) : cM l D tc b yX5_isHead cX5_isHead 4 (some .boolean) 4 0 0 [.ref 12, .int s] (c0 :: c1 :: c2 :: c3 :: c4 :: c5 :: c6 :: c7 :: c8 :: c9 :: c10 :: c11 :: .inr (5, [.int th, .int S, .ref 13, .int wr, .int dn, .int go, .int ga, .int te, .int ge, .int gr, .int ke, .ref 14, .int nx, .int wt, .ref 15, .ref 16, .ref 17, .ref 18, .int sz, .ref 19, .ref 20]) :: .inl (1, 4096, .inl f) :: .inl (1, 50, .inl so) :: .inl (1, 50, .inl fi) :: .inl (1, 50, .inl nu) :: .inl (1, 50, .inl le) :: .inl (1, 2000, .inl bs) :: .inl (1, 40, .inl ma) :: .inl (1, 64, .inl sh) :: rest)
    (am_is (some (.int (pd_b (rf_head f S s)))) (c0 :: c1 :: c2 :: c3 :: c4 :: c5 :: c6 :: c7 :: c8 :: c9 :: c10 :: c11 :: .inr (5, [.int th, .int S, .ref 13, .int wr, .int dn, .int go, .int ga, .int te, .int ge, .int gr, .int ke, .ref 14, .int nx, .int wt, .ref 15, .ref 16, .ref 17, .ref 18, .int sz, .ref 19, .ref 20]) :: .inl (1, 4096, .inl f) :: .inl (1, 50, .inl so) :: .inl (1, 50, .inl fi) :: .inl (1, 50, .inl nu) :: .inl (1, 50, .inl le) :: .inl (1, 2000, .inl bs) :: .inl (1, 40, .inl ma) :: .inl (1, 64, .inl sh) :: rest)) := by
  refine am_m (own := RX5) (ini := (false, [])) (L := [some (.ref 12), some (.int s), none, none]) rfl (by decide) (fun h => absurd h (by decide)) rfl (Nat.le_of_ble_eq_true rfl) rfl rfl ?_
  iterate 6 refine am_s am_cls okX5_isHead rfl ?_
  refine am_cV okX5_isHead rfl (r_isWhole l D tc b _ _ _ _ _ _ _ _ _ _ _ _ _ _ _ _ _ _ _ _ _ _ _ _ _ _ _ _ _ _ _ _ _ _ _ hs) cv_X5_123 coX5_isWhole rfl rfl rfl ⟨rfl, rfl, rfl⟩ ⟨Nat.le_refl _, Nat.le_refl _⟩ ?_
  rintro _ _ ⟨rfl, rfl⟩
  refine am_b okX5_isHead rfl (fun h10 => ?_) (fun h10 => ?_)
  · try replace h10 := pd_b0 h10
    refine am_s am_cls okX5_isHead rfl ?_
    refine am_rz okX5_isHead rfl rfl rfl (by decide) (Nat.le_refl _) (Nat.le_refl _) ?_
    exact ⟨by simp [rf_head, pd_bt, pd_bf, *], rfl⟩
  · try replace h10 := pd_b1 h10
    iterate 3 refine am_s am_cls okX5_isHead rfl ?_
    refine am_al okX5_isHead rfl (rf_v0 hs) ?_
    refine am_s am_cls okX5_isHead rfl ?_
    refine am_b okX5_isHead rfl (fun h22 => ?_) (fun h22 => ?_)
    · skip
      iterate 5 refine am_s am_cls okX5_isHead rfl ?_
      refine am_al okX5_isHead rfl (rf_pk (rf_64 hs) (by decide) 9 (by decide)) ?_
      refine am_s am_cls okX5_isHead rfl ?_
      refine am_b okX5_isHead rfl (fun h36 => ?_) (fun h36 => ?_)
      · skip
        iterate 2 refine am_s am_cls okX5_isHead rfl ?_
        have hr : (f (64 * s + 9).toNatClampNeg).toNatClampNeg ≤ 50 := rf_le (n := 50) h36 (by decide)
        have q := r_isHead_l l D tc b c0 c1 c2 c3 c4 c5 c6 c7 c8 c9 c10 c11 rest th S wr dn go ga te ge gr ke nx wt sz f so fi nu le bs ma sh s hs hr (f (64 * s + 9).toNatClampNeg).toNatClampNeg 0 (Nat.zero_add _)
        rw [nI_0] at q
        rw [show rf_head f S s = rf_hb f S s (f (64 * s + 9).toNatClampNeg).toNatClampNeg 0 from by simp [rf_head, h10, h22, h36]]
        exact q
      · skip
        refine am_s am_cls okX5_isHead rfl ?_
        refine am_rz okX5_isHead rfl rfl rfl (by decide) (Nat.le_refl _) (Nat.le_refl _) ?_
        exact ⟨by simp [rf_head, pd_bt, pd_bf, *], rfl⟩
    · skip
      refine am_s am_cls okX5_isHead rfl ?_
      refine am_rz okX5_isHead rfl rfl rfl (by decide) (Nat.le_refl _) (Nat.le_refl _) ?_
      exact ⟨by simp [rf_head, pd_bt, pd_bf, *], rfl⟩
end PD
