/-! ===== printed by wip/pd_sim.py: at, poke, octet, start ===== -/
theorem xp_at {a K : Nat} {f d so sO : Nat → Int32} (hd : sm_disk a f d) (ha : a ≤ 64) (hs : sm_so K so sO) (hc : rf_secs sO K a) (hK : K ≤ 50) (k i : Int32) : (hd_sec so (nI K) k = -1 ∧ (k < 0 ∨ nI K ≤ k)) ∨ (¬ hd_sec so (nI K) k = -1 ∧ ¬ k < 0 ∧ ¬ nI K ≤ k ∧ pd_row f (nI a) (hd_sec so (nI K) k) = !rf_wrong d (sO k.toNatClampNeg) ∧ pd_look f (nI a) (hd_sec so (nI K) k) 5 = d (64 * sO k.toNatClampNeg + 5).toNatClampNeg ∧ (rf_wrong d (sO k.toNatClampNeg) = false → ¬ i < 0 → i < d (64 * sO k.toNatClampNeg + 5).toNatClampNeg → pd_look f (nI a) (hd_sec so (nI K) k) (6 + i) = d (64 * sO k.toNatClampNeg + 6 + i).toNatClampNeg)) := by
  rcases xo_sec hs hK k with h | ⟨j, hj, rfl, e⟩
  · exact Or.inl h
  · right
    rw [e, nI_clamp (by omega)]
    obtain ⟨s, es, hs1, hs2⟩ := hc j hj
    rw [es]
    have e5 : pd_look f (nI a) (nI s) 5 = d (64 * nI s + 5).toNatClampNeg := by
      rw [show (64 * nI s + 5).toNatClampNeg = 64 * s + 5 from xb_ix (i := 5) (by omega) (by omega)]
      exact xb_look hd ha hs2 (i := 5) (by omega)
    refine ⟨xw_n1 (by omega), xb_lt0 (by omega), fun z => by rw [xb_le (by omega) (by omega)] at z; omega, xb_row hd ha hs2, e5, fun hw h1 h2 => ?_⟩
    simp only [rf_wrong, Bool.or_eq_false_iff, Bool.not_eq_false', decide_eq_true_eq] at hw
    rcases pk_ix i (n := 40) (by decide) with q | q | ⟨r, hr, rfl⟩
    · exact absurd q h1
    · exact absurd (Int32.le_trans hw.2 q) (Int32.not_le.mpr h2)
    · have e1 : (6 : Int32) + nI r = nI (6 + r) := nI_add 6 r
      rw [e1, Int32.add_assoc, e1, xb_ix (by omega) (by omega)]
      exact xb_look hd ha hs2 (by omega)
theorem xp_rk : ∀ R, R ≤ 50 → hd_rk 0 R = nI R := by
  intro R
  induction R with
  | zero => intro _; rw [hd_rk_0]; rfl
  | succ R ih =>
    intro h
    rw [hd_rk_s, ih (by omega)]
    unfold hd_kk
    rw [decide_eq_false (p := (50 : Int32) ≤ nI R) (fun z => by
      have z : nI 50 ≤ nI R := z
      rw [xb_le (by omega) (by omega)] at z; omega), nI_succ]
    rfl
theorem xp_rs (f : Nat → Int32) (S s : Int32) (so : Nat → Int32) : ∀ R, R ≤ 50 → ∀ k, k < R → hd_rs f S s so 0 R k = pd_look f S s (10 + nI k) := by
  intro R
  induction R with
  | zero => intro _ k hk; omega
  | succ R ih =>
    intro h k hk
    rw [hd_rs_s, xp_rk R (by omega)]
    unfold hd_ks hd_place
    have q1 := xb_lt0 (n := R) (by omega)
    have q2 : ¬ (50 : Int32) ≤ nI R := fun z => by
      have z : nI 50 ≤ nI R := z
      rw [xb_le (by omega) (by omega)] at z; omega
    simp only [q1, q2, decide_false, cond_false, Bool.not_false, Bool.and_self, cond_true]
    rw [nI_clamp (by omega)]
    by_cases e : k = R
    · subst e; simp [upd]
    · simp only [upd, if_neg e]
      exact ih (by omega) k (by omega)
theorem xp_sl (sO d : Nat → Int32) (it : Int32) : ∀ R, R ≤ 50 → ∀ k, k < R → rf_sl sO d it R k = d (64 * it + 10 + nI k).toNatClampNeg := by
  intro R
  induction R with
  | zero => intro _ k hk; omega
  | succ R ih =>
    intro h k hk
    rw [rf_sl_s, nI_clamp (by omega)]
    by_cases e : k = R
    · subst e; simp [upd]
    · simp only [upd, if_neg e]
      exact ih (by omega) k (by omega)
theorem xp_hb {d : Nat → Int32} {S s : Int32} : ∀ m k, rf_hb d S s m k = true → ∀ j, k ≤ j → j < k + m → ¬ d (64 * s + 10 + nI j).toNatClampNeg < 2 ∧ d (64 * s + 10 + nI j).toNatClampNeg < S := by
  intro m
  induction m with
  | zero => intro k _ j h1 h2; omega
  | succ m ih =>
    intro k h j h1 h2
    rw [rf_hb_s] at h
    by_cases c1 : d (64 * s + 10 + nI k).toNatClampNeg < 2
    · simp [c1] at h
    by_cases c2 : d (64 * s + 10 + nI k).toNatClampNeg < S
    · simp only [c1, c2, decide_false, decide_true, Bool.not_true, Bool.or_self, cond_false] at h
      by_cases e : j = k
      · subst e; exact ⟨c1, c2⟩
      · exact ih (k + 1) h j (by omega) (by omega)
    · simp [c1, c2] at h
/-- a head that counts, read -/
theorem xp_read {a q : Nat} {f d so sO : Nat → Int32} {gr nx : Int32} {co le ma fI nu lE bs mA : Nat → Int32} (hd : sm_disk a f d) (ha1 : 16 ≤ a) (ha : a ≤ 64) (hq : q < 2) (hh : rf_head d (nI a) (nI q) = true) (hl0 : le 0 = 0) (hnx : nx = gr + 1) : ∃ R : Nat, R ≤ 50 ∧ hd_rk 0 (hd_rows f (nI a) (nI q)) = nI R ∧ d (64 * nI q + 9).toNatClampNeg = nI R ∧ (d (64 * nI q + 9).toNatClampNeg).toNatClampNeg = R ∧ sm_live a R 0 0 (hd_rs f (nI a) (nI q) so 0 (hd_rows f (nI a) (nI q))) (rf_sl sO d (nI q) R) gr nx co le ma fI nu lE bs mA := by
  have e9 : pd_look f (nI a) (nI q) 9 = d (64 * nI q + 9).toNatClampNeg := by
    rw [show (64 * nI q + 9).toNatClampNeg = 64 * q + 9 from xb_ix (i := 9) (by omega) (by omega)]
    exact xb_look hd ha (by omega) (i := 9) (by omega)
  obtain ⟨R, hR, eR⟩ : xb_byte (d (64 * nI q + 9).toNatClampNeg) := by
    rw [show (64 * nI q + 9).toNatClampNeg = 64 * q + 9 from xb_ix (i := 9) (by omega) (by omega)]
    exact hd.byte (by omega)
  have hR5 : R ≤ 50 := by
    have := rf_head_9 hh
    rw [eR, nI_clamp (by omega)] at this
    exact this
  have hhb : rf_hb d (nI a) (nI q) R 0 = true := by
    simp only [rf_head, Bool.and_eq_true] at hh
    have := hh.2
    rw [eR, nI_clamp (by omega)] at this
    exact this
  have erow : hd_rows f (nI a) (nI q) = R := by
    unfold hd_rows
    rw [e9, eR, if_neg (fun z => by
      have z : nI 50 < nI R := z
      rw [xb_lt (by omega) (by omega)] at z; omega), nI_clamp (by omega)]
  refine ⟨R, hR5, by rw [erow]; exact xp_rk R hR5, eR, by rw [eR, nI_clamp (by omega)], ?_⟩
  rw [erow]
  refine ⟨hR5, fun j hj => ?_, fun k hk => ?_, Or.inl rfl, by omega, hl0, fun i hi => by omega, by rw [hnx, nI_0]; simp, fun w hw => by omega⟩
  · rw [xp_sl sO d (nI q) R hR5 j hj]
    obtain ⟨c1, c2⟩ := xp_hb R 0 hhb j (by omega) (by omega)
    have e : (64 * nI q + 10 + nI j).toNatClampNeg = 64 * q + (10 + j) := by
      rw [Int32.add_assoc, show (10 : Int32) + nI j = nI (10 + j) from nI_add 10 j, xb_ix (by omega) (by omega)]
    rw [e] at c1 c2 ⊢
    obtain ⟨s, hs, es⟩ := hd.byte (j := 64 * q + (10 + j)) (by omega)
    rw [es] at c1 c2
    refine ⟨s, es, ?_, (xb_lt (by omega) (by omega)).mp c2⟩
    have c1 : ¬ nI s < nI 2 := c1
    rw [xb_lt (by omega) (by omega)] at c1
    omega
  · rw [xp_rs f (nI a) (nI q) so R hR5 k hk, xp_sl sO d (nI q) R hR5 k hk]
    have e1 : (10 : Int32) + nI k = nI (10 + k) := nI_add 10 k
    rw [Int32.add_assoc, e1, xb_ix (by omega) (by omega)]
    exact xb_look hd ha (by omega) (by omega)
section SM
variable (l : Launch) (D : va_G) (tc : Nat → ClassId) (b : Nat) (N : Nat)
set_option maxHeartbeats 4000000 in
set_option maxRecDepth 100000 in
theorem ss_at (hl : ∀ e : Env, l.admits e → e.platform.stackTraces = false) : lh_at l D tc b ss_Sim N := by
  intro n w k i hs hle
  rcases hs with hs | hs
  · obtain ⟨a, K, E, Z, t, wr, cu, te, fi, ge, gr, th, go, ga, nx, f, g, so, us, co, le, ma, d, sO, fI, nu, lE, bs, mA, sh, q, rest, hb, hv, rfl⟩ := hs
    obtain ⟨ha1, ha2, hd, hcut⟩ := id hb
    have hn : pd_sz (nI a) (64 * a) := ⟨a, rfl, rfl, ha2⟩
    rcases xp_at hd ha2 hv.sos hv.secs hv.k k i with ⟨e, hk⟩ | ⟨e, k1, k2, er, e5, e6⟩
    · have hc := dp_MW (post' := am_is (some (.int 1)) _) (fun v w h => h.elim (fun q => absurd e q.1.1) (fun q => q.elim (fun q => absurd e q.1.1) (fun q => q.2))) (c_lat_u l D tc b hl (.inr (5, [.int th, .int (nI a), .ref 13, .int wr, .int 0, .int go, .int ga, .int (nI t), .int ge, .int gr, .int (nI K), .ref 14, .int nx, .int (nI E), .ref 15, .ref 16, .ref 17, .ref 18, .int (nI Z), .ref 19, .ref 20])) (.inl (1, 4096, .inl d)) (.inl (1, 50, .inl sO)) (.inl (1, 50, .inl fI)) (.inl (1, 50, .inl nu)) (.inl (1, 50, .inl lE)) (.inl (1, 2000, .inl bs)) (.inl (1, 40, .inl mA)) (.inl (1, 64, .inl sh)) q rest (64 * a) (if 50 < nI a - 2 then 50 else nI a - 2) (nI a) wr cu te f g fi so us (nI K) ge gr co le ma (nI E) k i hn)
      simp only [List.cons_append, List.nil_append] at hc
      exact ⟨_, _, _, _, _, _, _, hc, rfl, dp_M (by decide) (am_Mpo (fun v w h => h.elim (fun q => absurd hk (fun z => z.elim q.1.1 q.1.2.1)) (fun q => q.elim (fun q => absurd hk (fun z => z.elim q.1.1 q.1.2.1)) (fun q => q.2))) (r_at_u l D tc b _ _ _ _ _ _ _ _ _ _ _ _ _ _ _ _ _ _ _ _ _ _ _ _ _ _ _ _ _ _ _ _ _ _ _ hv.k (hv.secs.ok ha2))), rfl, dp_M (by decide) (r_thrown l D tc b _ _ _ _ _ _ _ _ _ _ _ _ _ _ _ _ _ _ _ _ _ _ _ _ _ _ _ _ _ _ _ _ _ _), rfl, fun h => absurd h (by decide), sm_up K E Z t hb hv rfl rfl rfl rfl rfl rfl rfl rfl rfl⟩
    cases hw : rf_wrong d (sO k.toNatClampNeg)
    · rw [hw] at er
      by_cases hi : i < 0 ∨ d (64 * sO k.toNatClampNeg + 5).toNatClampNeg ≤ i
      · have hc := dp_MW (post' := am_is (some (.int 1)) _) (fun v w h => h.elim (fun q => absurd (er.symm.trans q.1.2) (by decide)) (fun q => q.elim (fun q => absurd hi (fun z => z.elim q.1.2.2.1 (fun z => by have z2 := q.1.2.2.2; rw [e5] at z2; exact absurd z (Int32.not_le.mpr z2)))) (fun q => q.2))) (c_lat_u l D tc b hl (.inr (5, [.int th, .int (nI a), .ref 13, .int wr, .int 0, .int go, .int ga, .int (nI t), .int ge, .int gr, .int (nI K), .ref 14, .int nx, .int (nI E), .ref 15, .ref 16, .ref 17, .ref 18, .int (nI Z), .ref 19, .ref 20])) (.inl (1, 4096, .inl d)) (.inl (1, 50, .inl sO)) (.inl (1, 50, .inl fI)) (.inl (1, 50, .inl nu)) (.inl (1, 50, .inl lE)) (.inl (1, 2000, .inl bs)) (.inl (1, 40, .inl mA)) (.inl (1, 64, .inl sh)) q rest (64 * a) (if 50 < nI a - 2 then 50 else nI a - 2) (nI a) wr cu te f g fi so us (nI K) ge gr co le ma (nI E) k i hn)
        simp only [List.cons_append, List.nil_append] at hc
        exact ⟨_, _, _, _, _, _, _, hc, rfl, dp_M (by decide) (am_Mpo (fun v w h => h.elim (fun q => absurd (hw.symm.trans q.1.2.2) (by decide)) (fun q => q.elim (fun q => absurd hi (fun z => z.elim q.1.2.2.2.1 q.1.2.2.2.2)) (fun q => q.2))) (r_at_u l D tc b _ _ _ _ _ _ _ _ _ _ _ _ _ _ _ _ _ _ _ _ _ _ _ _ _ _ _ _ _ _ _ _ _ _ _ hv.k (hv.secs.ok ha2))), rfl, dp_M (by decide) (r_thrown l D tc b _ _ _ _ _ _ _ _ _ _ _ _ _ _ _ _ _ _ _ _ _ _ _ _ _ _ _ _ _ _ _ _ _ _), rfl, fun h => absurd h (by decide), sm_up K E Z t hb hv rfl rfl rfl rfl rfl rfl rfl rfl rfl⟩
      · have i1 : ¬ i < 0 := fun z => hi (Or.inl z)
        have i2 : ¬ d (64 * sO k.toNatClampNeg + 5).toNatClampNeg ≤ i := fun z => hi (Or.inr z)
        have hc := dp_MW (post' := am_is (some (.int 0)) _) (fun v w h => h.elim (fun q => absurd (er.symm.trans q.1.2) (by decide)) (fun q => q.elim (fun q => q.2) (fun q => absurd q.1 (fun z => z.elim e (fun z => z.2.2.elim i1 (fun z => z (by rw [e5]; exact Int32.not_le.mp i2))))))) (c_lat_u l D tc b hl (.inr (5, [.int th, .int (nI a), .ref 13, .int wr, .int 0, .int go, .int ga, .int (nI t), .int ge, .int gr, .int (nI K), .ref 14, .int nx, .int (nI E), .ref 15, .ref 16, .ref 17, .ref 18, .int (nI Z), .ref 19, .ref 20])) (.inl (1, 4096, .inl d)) (.inl (1, 50, .inl sO)) (.inl (1, 50, .inl fI)) (.inl (1, 50, .inl nu)) (.inl (1, 50, .inl lE)) (.inl (1, 2000, .inl bs)) (.inl (1, 40, .inl mA)) (.inl (1, 64, .inl sh)) q rest (64 * a) (if 50 < nI a - 2 then 50 else nI a - 2) (nI a) wr cu te f g fi so us (nI K) ge gr co le ma (nI E) k i hn)
        exact ⟨_, _, _, _, _, _, _, hc, rfl, dp_M (by decide) (am_Mpo (fun v w h => h.elim (fun q => absurd (hw.symm.trans q.1.2.2) (by decide)) (fun q => q.elim (fun q => q.2) (fun q => absurd q.1 (fun z => z.elim k1 (fun z => z.elim k2 (fun z => z.2.2.2.elim i1 i2)))))) (r_at_u l D tc b _ _ _ _ _ _ _ _ _ _ _ _ _ _ _ _ _ _ _ _ _ _ _ _ _ _ _ _ _ _ _ _ _ _ _ hv.k (hv.secs.ok ha2))), rfl, dp_M (by decide) (r_thrown l D tc b _ _ _ _ _ _ _ _ _ _ _ _ _ _ _ _ _ _ _ _ _ _ _ _ _ _ _ _ _ _ _ _ _ _), rfl, fun _ => by rw [xo_look0]; exact congrArg Int32.toInt64 (e6 hw i1 (Int32.not_le.mp i2)), sm_up K E Z t hb hv rfl rfl rfl rfl rfl rfl rfl rfl rfl⟩
    · rw [hw] at er
      have hc := dp_MW (post' := am_is (some (.int 0)) _) (fun v w h => h.elim (fun q => q.2) (fun q => q.elim (fun q => absurd (er.symm.trans q.1.2.1) (by decide)) (fun q => absurd q.1 (fun z => z.elim e (fun z => absurd (er.symm.trans z.2.1) (by decide)))))) (c_lat_u l D tc b hl (.inr (5, [.int th, .int (nI a), .ref 13, .int wr, .int 0, .int go, .int ga, .int (nI t), .int ge, .int gr, .int (nI K), .ref 14, .int nx, .int (nI E), .ref 15, .ref 16, .ref 17, .ref 18, .int (nI Z), .ref 19, .ref 20])) (.inl (1, 4096, .inl d)) (.inl (1, 50, .inl sO)) (.inl (1, 50, .inl fI)) (.inl (1, 50, .inl nu)) (.inl (1, 50, .inl lE)) (.inl (1, 2000, .inl bs)) (.inl (1, 40, .inl mA)) (.inl (1, 64, .inl sh)) q rest (64 * a) (if 50 < nI a - 2 then 50 else nI a - 2) (nI a) wr cu te f g fi so us (nI K) ge gr co le ma (nI E) k i hn)
      exact ⟨_, _, _, _, _, _, _, hc, rfl, dp_M (by decide) (am_Mpo (fun v w h => h.elim (fun q => q.2) (fun q => q.elim (fun q => absurd (hw.symm.trans q.1.2.2.1) (by decide)) (fun q => absurd q.1 (fun z => z.elim k1 (fun z => z.elim k2 (fun z => absurd (hw.symm.trans z.2.2.1) (by decide))))))) (r_at_u l D tc b _ _ _ _ _ _ _ _ _ _ _ _ _ _ _ _ _ _ _ _ _ _ _ _ _ _ _ _ _ _ _ _ _ _ _ hv.k (hv.secs.ok ha2))), rfl, dp_M (by decide) (r_thrown l D tc b _ _ _ _ _ _ _ _ _ _ _ _ _ _ _ _ _ _ _ _ _ _ _ _ _ _ _ _ _ _ _ _ _ _), rfl, fun _ => by rw [xo_look0]; decide, sm_up K E Z t hb hv rfl rfl rfl rfl rfl rfl rfl rfl rfl⟩
  · obtain ⟨a, t, wr, te, fi, ke, ge, gr, th, ga, gE, gR, kE, nx, f, g, so, us, co, le, ma, d, sO, fI, nu, lE, bs, mA, sh, q, rest, ⟨ha1, ha2, hd, ht⟩, hl0, rfl⟩ := hs
    have hn : pd_sz (nI a) (64 * a) := ⟨a, rfl, rfl, ha2⟩
    have hc := c_lat_d l D tc b hl (.inr (5, [.int th, .int (nI a), .ref 13, .int wr, .int 1, .int 0, .int ga, .int (nI t), .int gE, .int gR, .int kE, .ref 14, .int nx, .int 0, .ref 15, .ref 16, .ref 17, .ref 18, .int 0, .ref 19, .ref 20])) (.inl (1, 4096, .inl d)) (.inl (1, 50, .inl sO)) (.inl (1, 50, .inl fI)) (.inl (1, 50, .inl nu)) (.inl (1, 50, .inl lE)) (.inl (1, 2000, .inl bs)) (.inl (1, 40, .inl mA)) (.inl (1, 64, .inl sh)) q rest (64 * a) (if 50 < nI a - 2 then 50 else nI a - 2) (nI a) wr (-1) te f g fi so us ke ge gr co le ma 0 k i
    exact ⟨_, _, _, _, _, _, _, hc, rfl, dp_M (by decide) (r_at_d l D tc b _ _ _ _ _ _ _ _ _ _ _ _ _ _ _ _ _ _ _ _ _ _ _ _ _ _ _ _ _ _ _ _ _ _ _), rfl, dp_M (by decide) (r_thrown l D tc b _ _ _ _ _ _ _ _ _ _ _ _ _ _ _ _ _ _ _ _ _ _ _ _ _ _ _ _ _ _ _ _ _ _), rfl, fun _ => by rw [xo_look0]; decide, sm_dn t ⟨ha1, ha2, hd, ht⟩ hl0 rfl rfl rfl rfl rfl rfl rfl⟩
set_option maxHeartbeats 4000000 in
set_option maxRecDepth 100000 in
theorem ss_poke (hl : ∀ e : Env, l.admits e → e.platform.stackTraces = false) : lh_poke l D tc b ss_Sim N := by
  intro n w s i x hs hle
  rcases hs with hs | hs
  · obtain ⟨a, K, E, Z, t, wr, cu, te, fi, ge, gr, th, go, ga, nx, f, g, so, us, co, le, ma, d, sO, fI, nu, lE, bs, mA, sh, q, rest, hb, hv, rfl⟩ := hs
    obtain ⟨ha1, ha2, hd, hcut⟩ := id hb
    have hn : pd_sz (nI a) (64 * a) := ⟨a, rfl, rfl, ha2⟩
    cases hh : pd_holds (nI a) s i
    · have hc := dp_MW (post' := am_is (some (.int 1)) _) (fun v w h => h.elim (fun q => absurd (hh.symm.trans q.1) (by decide)) (fun q => q.2)) (c_lpoke l D tc b hl (.inr (5, [.int th, .int (nI a), .ref 13, .int wr, .int 0, .int go, .int ga, .int (nI t), .int ge, .int gr, .int (nI K), .ref 14, .int nx, .int (nI E), .ref 15, .ref 16, .ref 17, .ref 18, .int (nI Z), .ref 19, .ref 20])) (.inl (1, 4096, .inl d)) (.inl (1, 50, .inl sO)) (.inl (1, 50, .inl fI)) (.inl (1, 50, .inl nu)) (.inl (1, 50, .inl lE)) (.inl (1, 2000, .inl bs)) (.inl (1, 40, .inl mA)) (.inl (1, 64, .inl sh)) q rest (64 * a) (if 50 < nI a - 2 then 50 else nI a - 2) 0 (nI a) wr cu te f g fi so us (nI K) ge gr co le ma (nI E) s i x hn)
      simp only [List.cons_append, List.nil_append] at hc
      exact ⟨_, _, _, _, _, _, _, hc, rfl, dp_M (by decide) (am_Mpo (fun v w h => h.elim (fun q => absurd (hh.symm.trans q.1) (by decide)) (fun q => q.2)) (r_poke l D tc b _ _ _ _ _ _ _ _ _ _ _ _ _ _ _ _ _ _ _ _ _ _ _ _ _ _ _ _ _ _ _ _ _ _ _ _ _ hn)), rfl, dp_M (by decide) (r_thrown l D tc b _ _ _ _ _ _ _ _ _ _ _ _ _ _ _ _ _ _ _ _ _ _ _ _ _ _ _ _ _ _ _ _ _ _), rfl, fun h => absurd h (by decide), sm_up K E Z t hb hv rfl rfl rfl rfl rfl rfl rfl rfl rfl⟩
    · have hc := dp_MW (post' := am_is (some (.int 0)) _) (fun v w h => h.elim (fun q => q.2) (fun q => absurd (hh.symm.trans q.1) (by decide))) (c_lpoke l D tc b hl (.inr (5, [.int th, .int (nI a), .ref 13, .int wr, .int 0, .int go, .int ga, .int (nI t), .int ge, .int gr, .int (nI K), .ref 14, .int nx, .int (nI E), .ref 15, .ref 16, .ref 17, .ref 18, .int (nI Z), .ref 19, .ref 20])) (.inl (1, 4096, .inl d)) (.inl (1, 50, .inl sO)) (.inl (1, 50, .inl fI)) (.inl (1, 50, .inl nu)) (.inl (1, 50, .inl lE)) (.inl (1, 2000, .inl bs)) (.inl (1, 40, .inl mA)) (.inl (1, 64, .inl sh)) q rest (64 * a) (if 50 < nI a - 2 then 50 else nI a - 2) 0 (nI a) wr cu te f g fi so us (nI K) ge gr co le ma (nI E) s i x hn)
      exact ⟨_, _, _, _, _, _, _, hc, rfl, dp_M (by decide) (am_Mpo (fun v w h => h.elim (fun q => q.2) (fun q => absurd (hh.symm.trans q.1) (by decide))) (r_poke l D tc b _ _ _ _ _ _ _ _ _ _ _ _ _ _ _ _ _ _ _ _ _ _ _ _ _ _ _ _ _ _ _ _ _ _ _ _ _ hn)), rfl, dp_M (by decide) (r_thrown l D tc b _ _ _ _ _ _ _ _ _ _ _ _ _ _ _ _ _ _ _ _ _ _ _ _ _ _ _ _ _ _ _ _ _ _), rfl, fun _ => by rw [xo_look0]; exact congrArg Int32.toInt64 ((xo_poke hd ha2 hh x).2), sm_up K E Z t ⟨ha1, ha2, (xo_poke hd ha2 hh x).1, hcut⟩ hv rfl rfl rfl rfl rfl rfl rfl rfl rfl⟩
  · obtain ⟨a, t, wr, te, fi, ke, ge, gr, th, ga, gE, gR, kE, nx, f, g, so, us, co, le, ma, d, sO, fI, nu, lE, bs, mA, sh, q, rest, ⟨ha1, ha2, hd, ht⟩, hl0, rfl⟩ := hs
    have hn : pd_sz (nI a) (64 * a) := ⟨a, rfl, rfl, ha2⟩
    cases hh : pd_holds (nI a) s i
    · have hc := dp_MW (post' := am_is (some (.int 1)) _) (fun v w h => h.elim (fun q => absurd (hh.symm.trans q.1) (by decide)) (fun q => q.2)) (c_lpoke l D tc b hl (.inr (5, [.int th, .int (nI a), .ref 13, .int wr, .int 1, .int 0, .int ga, .int (nI t), .int gE, .int gR, .int kE, .ref 14, .int nx, .int 0, .ref 15, .ref 16, .ref 17, .ref 18, .int 0, .ref 19, .ref 20])) (.inl (1, 4096, .inl d)) (.inl (1, 50, .inl sO)) (.inl (1, 50, .inl fI)) (.inl (1, 50, .inl nu)) (.inl (1, 50, .inl lE)) (.inl (1, 2000, .inl bs)) (.inl (1, 40, .inl mA)) (.inl (1, 64, .inl sh)) q rest (64 * a) (if 50 < nI a - 2 then 50 else nI a - 2) 1 (nI a) wr (-1) te f g fi so us ke ge gr co le ma 0 s i x hn)
      simp only [List.cons_append, List.nil_append] at hc
      exact ⟨_, _, _, _, _, _, _, hc, rfl, dp_M (by decide) (am_Mpo (fun v w h => h.elim (fun q => absurd (hh.symm.trans q.1) (by decide)) (fun q => q.2)) (r_poke l D tc b _ _ _ _ _ _ _ _ _ _ _ _ _ _ _ _ _ _ _ _ _ _ _ _ _ _ _ _ _ _ _ _ _ _ _ _ _ hn)), rfl, dp_M (by decide) (r_thrown l D tc b _ _ _ _ _ _ _ _ _ _ _ _ _ _ _ _ _ _ _ _ _ _ _ _ _ _ _ _ _ _ _ _ _ _), rfl, fun h => absurd h (by decide), sm_dn t ⟨ha1, ha2, hd, ht⟩ hl0 rfl rfl rfl rfl rfl rfl rfl⟩
    · have hc := dp_MW (post' := am_is (some (.int 0)) _) (fun v w h => h.elim (fun q => q.2) (fun q => absurd (hh.symm.trans q.1) (by decide))) (c_lpoke l D tc b hl (.inr (5, [.int th, .int (nI a), .ref 13, .int wr, .int 1, .int 0, .int ga, .int (nI t), .int gE, .int gR, .int kE, .ref 14, .int nx, .int 0, .ref 15, .ref 16, .ref 17, .ref 18, .int 0, .ref 19, .ref 20])) (.inl (1, 4096, .inl d)) (.inl (1, 50, .inl sO)) (.inl (1, 50, .inl fI)) (.inl (1, 50, .inl nu)) (.inl (1, 50, .inl lE)) (.inl (1, 2000, .inl bs)) (.inl (1, 40, .inl mA)) (.inl (1, 64, .inl sh)) q rest (64 * a) (if 50 < nI a - 2 then 50 else nI a - 2) 1 (nI a) wr (-1) te f g fi so us ke ge gr co le ma 0 s i x hn)
      exact ⟨_, _, _, _, _, _, _, hc, rfl, dp_M (by decide) (am_Mpo (fun v w h => h.elim (fun q => q.2) (fun q => absurd (hh.symm.trans q.1) (by decide))) (r_poke l D tc b _ _ _ _ _ _ _ _ _ _ _ _ _ _ _ _ _ _ _ _ _ _ _ _ _ _ _ _ _ _ _ _ _ _ _ _ _ hn)), rfl, dp_M (by decide) (r_thrown l D tc b _ _ _ _ _ _ _ _ _ _ _ _ _ _ _ _ _ _ _ _ _ _ _ _ _ _ _ _ _ _ _ _ _ _), rfl, fun _ => by rw [xo_look0]; exact congrArg Int32.toInt64 ((xo_poke hd ha2 hh x).2), sm_dn t ⟨ha1, ha2, (xo_poke hd ha2 hh x).1, ht⟩ hl0 rfl rfl rfl rfl rfl rfl rfl⟩
set_option maxHeartbeats 4000000 in
set_option maxRecDepth 100000 in
theorem ss_octet (hl : ∀ e : Env, l.admits e → e.platform.stackTraces = false) : lh_octet l D tc b ss_Sim N := by
  intro n w s i hs hle
  rcases hs with hs | hs
  · obtain ⟨a, K, E, Z, t, wr, cu, te, fi, ge, gr, th, go, ga, nx, f, g, so, us, co, le, ma, d, sO, fI, nu, lE, bs, mA, sh, q, rest, hb, hv, rfl⟩ := hs
    obtain ⟨ha1, ha2, hd, hcut⟩ := id hb
    have hn : pd_sz (nI a) (64 * a) := ⟨a, rfl, rfl, ha2⟩
    cases hh : pd_holds (nI a) s i
    · have hc := dp_MW (post' := am_is (some (.int 1)) _) (fun v w h => h.elim (fun q => absurd (hh.symm.trans q.1) (by decide)) (fun q => q.2)) (c_loctet l D tc b hl (.inr (5, [.int th, .int (nI a), .ref 13, .int wr, .int 0, .int go, .int ga, .int (nI t), .int ge, .int gr, .int (nI K), .ref 14, .int nx, .int (nI E), .ref 15, .ref 16, .ref 17, .ref 18, .int (nI Z), .ref 19, .ref 20])) (.inl (1, 4096, .inl d)) (.inl (1, 50, .inl sO)) (.inl (1, 50, .inl fI)) (.inl (1, 50, .inl nu)) (.inl (1, 50, .inl lE)) (.inl (1, 2000, .inl bs)) (.inl (1, 40, .inl mA)) (.inl (1, 64, .inl sh)) q rest (64 * a) (if 50 < nI a - 2 then 50 else nI a - 2) 0 (nI a) wr cu te f g fi so us (nI K) ge gr co le ma (nI E) s i hn)
      simp only [List.cons_append, List.nil_append] at hc
      exact ⟨_, _, _, _, _, _, _, hc, rfl, dp_M (by decide) (am_Mpo (fun v w h => h.elim (fun q => absurd (hh.symm.trans q.1) (by decide)) (fun q => q.2)) (r_octet l D tc b _ _ _ _ _ _ _ _ _ _ _ _ _ _ _ _ _ _ _ _ _ _ _ _ _ _ _ _ _ _ _ _ _ _ _ _ hn)), rfl, dp_M (by decide) (r_thrown l D tc b _ _ _ _ _ _ _ _ _ _ _ _ _ _ _ _ _ _ _ _ _ _ _ _ _ _ _ _ _ _ _ _ _ _), rfl, fun h => absurd h (by decide), sm_up K E Z t hb hv rfl rfl rfl rfl rfl rfl rfl rfl rfl⟩
    · have hc := dp_MW (post' := am_is (some (.int 0)) _) (fun v w h => h.elim (fun q => q.2) (fun q => absurd (hh.symm.trans q.1) (by decide))) (c_loctet l D tc b hl (.inr (5, [.int th, .int (nI a), .ref 13, .int wr, .int 0, .int go, .int ga, .int (nI t), .int ge, .int gr, .int (nI K), .ref 14, .int nx, .int (nI E), .ref 15, .ref 16, .ref 17, .ref 18, .int (nI Z), .ref 19, .ref 20])) (.inl (1, 4096, .inl d)) (.inl (1, 50, .inl sO)) (.inl (1, 50, .inl fI)) (.inl (1, 50, .inl nu)) (.inl (1, 50, .inl lE)) (.inl (1, 2000, .inl bs)) (.inl (1, 40, .inl mA)) (.inl (1, 64, .inl sh)) q rest (64 * a) (if 50 < nI a - 2 then 50 else nI a - 2) 0 (nI a) wr cu te f g fi so us (nI K) ge gr co le ma (nI E) s i hn)
      exact ⟨_, _, _, _, _, _, _, hc, rfl, dp_M (by decide) (am_Mpo (fun v w h => h.elim (fun q => q.2) (fun q => absurd (hh.symm.trans q.1) (by decide))) (r_octet l D tc b _ _ _ _ _ _ _ _ _ _ _ _ _ _ _ _ _ _ _ _ _ _ _ _ _ _ _ _ _ _ _ _ _ _ _ _ hn)), rfl, dp_M (by decide) (r_thrown l D tc b _ _ _ _ _ _ _ _ _ _ _ _ _ _ _ _ _ _ _ _ _ _ _ _ _ _ _ _ _ _ _ _ _ _), rfl, fun _ => by rw [xo_look0]; exact congrArg Int32.toInt64 (xo_octet hd ha2 hh), sm_up K E Z t hb hv rfl rfl rfl rfl rfl rfl rfl rfl rfl⟩
  · obtain ⟨a, t, wr, te, fi, ke, ge, gr, th, ga, gE, gR, kE, nx, f, g, so, us, co, le, ma, d, sO, fI, nu, lE, bs, mA, sh, q, rest, ⟨ha1, ha2, hd, ht⟩, hl0, rfl⟩ := hs
    have hn : pd_sz (nI a) (64 * a) := ⟨a, rfl, rfl, ha2⟩
    cases hh : pd_holds (nI a) s i
    · have hc := dp_MW (post' := am_is (some (.int 1)) _) (fun v w h => h.elim (fun q => absurd (hh.symm.trans q.1) (by decide)) (fun q => q.2)) (c_loctet l D tc b hl (.inr (5, [.int th, .int (nI a), .ref 13, .int wr, .int 1, .int 0, .int ga, .int (nI t), .int gE, .int gR, .int kE, .ref 14, .int nx, .int 0, .ref 15, .ref 16, .ref 17, .ref 18, .int 0, .ref 19, .ref 20])) (.inl (1, 4096, .inl d)) (.inl (1, 50, .inl sO)) (.inl (1, 50, .inl fI)) (.inl (1, 50, .inl nu)) (.inl (1, 50, .inl lE)) (.inl (1, 2000, .inl bs)) (.inl (1, 40, .inl mA)) (.inl (1, 64, .inl sh)) q rest (64 * a) (if 50 < nI a - 2 then 50 else nI a - 2) 1 (nI a) wr (-1) te f g fi so us ke ge gr co le ma 0 s i hn)
      simp only [List.cons_append, List.nil_append] at hc
      exact ⟨_, _, _, _, _, _, _, hc, rfl, dp_M (by decide) (am_Mpo (fun v w h => h.elim (fun q => absurd (hh.symm.trans q.1) (by decide)) (fun q => q.2)) (r_octet l D tc b _ _ _ _ _ _ _ _ _ _ _ _ _ _ _ _ _ _ _ _ _ _ _ _ _ _ _ _ _ _ _ _ _ _ _ _ hn)), rfl, dp_M (by decide) (r_thrown l D tc b _ _ _ _ _ _ _ _ _ _ _ _ _ _ _ _ _ _ _ _ _ _ _ _ _ _ _ _ _ _ _ _ _ _), rfl, fun h => absurd h (by decide), sm_dn t ⟨ha1, ha2, hd, ht⟩ hl0 rfl rfl rfl rfl rfl rfl rfl⟩
    · have hc := dp_MW (post' := am_is (some (.int 0)) _) (fun v w h => h.elim (fun q => q.2) (fun q => absurd (hh.symm.trans q.1) (by decide))) (c_loctet l D tc b hl (.inr (5, [.int th, .int (nI a), .ref 13, .int wr, .int 1, .int 0, .int ga, .int (nI t), .int gE, .int gR, .int kE, .ref 14, .int nx, .int 0, .ref 15, .ref 16, .ref 17, .ref 18, .int 0, .ref 19, .ref 20])) (.inl (1, 4096, .inl d)) (.inl (1, 50, .inl sO)) (.inl (1, 50, .inl fI)) (.inl (1, 50, .inl nu)) (.inl (1, 50, .inl lE)) (.inl (1, 2000, .inl bs)) (.inl (1, 40, .inl mA)) (.inl (1, 64, .inl sh)) q rest (64 * a) (if 50 < nI a - 2 then 50 else nI a - 2) 1 (nI a) wr (-1) te f g fi so us ke ge gr co le ma 0 s i hn)
      exact ⟨_, _, _, _, _, _, _, hc, rfl, dp_M (by decide) (am_Mpo (fun v w h => h.elim (fun q => q.2) (fun q => absurd (hh.symm.trans q.1) (by decide))) (r_octet l D tc b _ _ _ _ _ _ _ _ _ _ _ _ _ _ _ _ _ _ _ _ _ _ _ _ _ _ _ _ _ _ _ _ _ _ _ _ hn)), rfl, dp_M (by decide) (r_thrown l D tc b _ _ _ _ _ _ _ _ _ _ _ _ _ _ _ _ _ _ _ _ _ _ _ _ _ _ _ _ _ _ _ _ _ _), rfl, fun _ => by rw [xo_look0]; exact congrArg Int32.toInt64 (xo_octet hd ha2 hh), sm_dn t ⟨ha1, ha2, hd, ht⟩ hl0 rfl rfl rfl rfl rfl rfl rfl⟩
set_option maxHeartbeats 4000000 in
set_option maxRecDepth 100000 in
theorem ss_start : lh_start l D tc b ss_Sim N := by
  intro n w hs hle
  rcases hs with hs | hs
  · obtain ⟨a, K, E, Z, t, wr, cu, te, fi, ge, gr, th, go, ga, nx, f, g, so, us, co, le, ma, d, sO, fI, nu, lE, bs, mA, sh, q, rest, hb, hv, rfl⟩ := hs
    obtain ⟨ha1, ha2, hd, hcut⟩ := id hb
    have hn : pd_sz (nI a) (64 * a) := ⟨a, rfl, rfl, ha2⟩
    exact ⟨_, _, _, _, _, _, rfl, dp_M (by decide) (c_start_u l D tc b _ _ _ _ _ _ _ _ _ _ _ _ _ _ _ _ _ _ _), rfl, dp_M (by decide) (r_start_u l D tc b _ _ _ _ _ _ _ _ _ _ _ _ _ _ _ _ _ _ _ _ _ _ _ _ _ _ _ _ _ _ _ _ _), fun _ => rfl, sm_up K E Z t hb hv rfl rfl rfl rfl rfl rfl rfl rfl rfl⟩
  · obtain ⟨a, t, wr, te, fi, ke, ge, gr, th, ga, gE, gR, kE, nx, f, g, so, us, co, le, ma, d, sO, fI, nu, lE, bs, mA, sh, q, rest, ⟨ha1, ha2, hd, ht⟩, hl0, rfl⟩ := hs
    have hn : pd_sz (nI a) (64 * a) := ⟨a, rfl, rfl, ha2⟩
    have e0 : pd_head f (nI a) 0 = rf_head d (nI a) 0 := xb_head hd ha2 (q := 0) (by omega)
    have e1 : pd_head f (nI a) 1 = rf_head d (nI a) 1 := xb_head hd ha2 (q := 1) (by omega)
    have f0 : pd_four f (nI a) 0 1 = rf_four d 1 := xb_four hd ha2 (q := 0) (i := 1) (by omega) (by omega)
    have f1 : pd_four f (nI a) 1 1 = rf_four d 65 := xb_four hd ha2 (q := 1) (i := 1) (by omega) (by omega)
    have hc := c_start_d l D tc b (.inr (5, [.int th, .int (nI a), .ref 13, .int wr, .int 1, .int 0, .int ga, .int (nI t), .int gE, .int gR, .int kE, .ref 14, .int nx, .int 0, .ref 15, .ref 16, .ref 17, .ref 18, .int 0, .ref 19, .ref 20]) :: .inl (1, 4096, .inl d) :: .inl (1, 50, .inl sO) :: .inl (1, 50, .inl fI) :: .inl (1, 50, .inl nu) :: .inl (1, 50, .inl lE) :: .inl (1, 2000, .inl bs) :: .inl (1, 40, .inl mA) :: .inl (1, 64, .inl sh) :: .inl (3, 1, .inr (.inl q)) :: rest) (64 * a) (if 50 < nI a - 2 then 50 else nI a - 2) (nI a) wr (-1) te f g fi so us ke ge gr co le ma 0 hn
    cases h0 : rf_head d (nI a) 0
    · cases h1 : rf_head d (nI a) 1
      · have hp : hd_pick f (nI a) = none := by unfold hd_pick; rw [e0, e1, h0, h1]; rfl
        rw [hp] at hc
        simp only [rd_so, rd_ke, rd_ge, rd_gr] at hc
        exact ⟨_, _, _, _, _, _, rfl, dp_M (by decide) hc, rfl, dp_M (by decide) (am_Mpo (fun v w h => h.elim (fun q => q.2) (fun q => q.elim (fun q => absurd (h0.symm.trans q.1.1) (by decide)) (fun q => absurd (h1.symm.trans q.1.1) (by decide)))) (r_start_d l D tc b _ _ _ _ _ _ _ _ _ _ _ _ _ _ _ _ _ _ _ _ _ _ _ _ _ _ _ _ _ _ _ _ _)), fun _ => rfl, sm_up 0 0 0 t ⟨ha1, ha2, hd, ht, Or.inl ⟨rfl, rfl⟩⟩ ⟨by omega, fun j hj => by omega, fun k hk => by omega, Or.inl rfl, by omega, hl0, fun i hi => by omega, rfl, fun w hw => by omega⟩ rfl rfl rfl rfl rfl rfl rfl rfl rfl⟩
      · have hp : hd_pick f (nI a) = some 1 := by unfold hd_pick; rw [e0, e1, h0, h1]; rfl
        rw [hp] at hc
        simp only [rd_so, rd_ke, rd_ge, rd_gr] at hc
        obtain ⟨R, hR, g1, g2, g3, hlv⟩ := xp_read (q := 1) (so := so) (sO := sO) (gr := rf_four d (64 * 1 + 5)) (nx := rf_four d (64 * 1 + 5) + 1) (co := co) (le := le) (ma := ma) (fI := fI) (nu := nu) (lE := lE) (bs := bs) (mA := mA) hd ha1 ha2 (by decide) h1 hl0 rfl
        have hg1 : pd_four f (nI a) 1 1 = rf_four d (64 * 1 + 1) := xb_four hd ha2 (q := 1) (i := 1) (by omega) (by omega)
        have hg5 : pd_four f (nI a) 1 5 = rf_four d (64 * 1 + 5) := xb_four hd ha2 (q := 1) (i := 5) (by omega) (by omega)
        exact ⟨_, _, _, _, _, _, rfl, dp_M (by decide) hc, rfl, dp_M (by decide) (am_Mpo (fun v w h => h.elim (fun q => absurd (h1.symm.trans q.1.2) (by decide)) (fun q => q.elim (fun q => absurd (h0.symm.trans q.1.1) (by decide)) (fun q => q.2))) (r_start_d l D tc b _ _ _ _ _ _ _ _ _ _ _ _ _ _ _ _ _ _ _ _ _ _ _ _ _ _ _ _ _ _ _ _ _)), fun _ => g1.trans g2.symm, sm_up R 0 0 t ⟨ha1, ha2, hd, ht, Or.inl ⟨rfl, rfl⟩⟩ (by rw [show (64 * (1 : Int32) + 9) = 64 * nI 1 + 9 from rfl, g3, hg5]; exact hlv) g1 rfl hg1.symm hg5.symm g2 rfl rfl rfl rfl⟩
    · cases h1 : rf_head d (nI a) 1
      · have hp : hd_pick f (nI a) = some 0 := by unfold hd_pick; rw [e0, e1, h0, h1]; rfl
        rw [hp] at hc
        simp only [rd_so, rd_ke, rd_ge, rd_gr] at hc
        obtain ⟨R, hR, g1, g2, g3, hlv⟩ := xp_read (q := 0) (so := so) (sO := sO) (gr := rf_four d (64 * 0 + 5)) (nx := rf_four d (64 * 0 + 5) + 1) (co := co) (le := le) (ma := ma) (fI := fI) (nu := nu) (lE := lE) (bs := bs) (mA := mA) hd ha1 ha2 (by decide) h0 hl0 rfl
        have hg1 : pd_four f (nI a) 0 1 = rf_four d (64 * 0 + 1) := xb_four hd ha2 (q := 0) (i := 1) (by omega) (by omega)
        have hg5 : pd_four f (nI a) 0 5 = rf_four d (64 * 0 + 5) := xb_four hd ha2 (q := 0) (i := 5) (by omega) (by omega)
        exact ⟨_, _, _, _, _, _, rfl, dp_M (by decide) hc, rfl, dp_M (by decide) (am_Mpo (fun v w h => h.elim (fun q => absurd (h0.symm.trans q.1.1) (by decide)) (fun q => q.elim (fun q => q.2) (fun q => absurd (h1.symm.trans q.1.1) (by decide)))) (r_start_d l D tc b _ _ _ _ _ _ _ _ _ _ _ _ _ _ _ _ _ _ _ _ _ _ _ _ _ _ _ _ _ _ _ _ _)), fun _ => g1.trans g2.symm, sm_up R 0 0 t ⟨ha1, ha2, hd, ht, Or.inl ⟨rfl, rfl⟩⟩ (by rw [show (64 * (0 : Int32) + 9) = 64 * nI 0 + 9 from rfl, g3, hg5]; exact hlv) g1 rfl hg1.symm hg5.symm g2 rfl rfl rfl rfl⟩
      · by_cases hf : rf_four d 65 ≤ rf_four d 1
        · have hp : hd_pick f (nI a) = some 0 := by unfold hd_pick; rw [e0, e1, h0, h1, f0, f1, decide_eq_true hf]; rfl
          rw [hp] at hc
          simp only [rd_so, rd_ke, rd_ge, rd_gr] at hc
          obtain ⟨R, hR, g1, g2, g3, hlv⟩ := xp_read (q := 0) (so := so) (sO := sO) (gr := rf_four d (64 * 0 + 5)) (nx := rf_four d (64 * 0 + 5) + 1) (co := co) (le := le) (ma := ma) (fI := fI) (nu := nu) (lE := lE) (bs := bs) (mA := mA) hd ha1 ha2 (by decide) h0 hl0 rfl
          have hg1 : pd_four f (nI a) 0 1 = rf_four d (64 * 0 + 1) := xb_four hd ha2 (q := 0) (i := 1) (by omega) (by omega)
          have hg5 : pd_four f (nI a) 0 5 = rf_four d (64 * 0 + 5) := xb_four hd ha2 (q := 0) (i := 5) (by omega) (by omega)
          exact ⟨_, _, _, _, _, _, rfl, dp_M (by decide) hc, rfl, dp_M (by decide) (am_Mpo (fun v w h => h.elim (fun q => absurd (h0.symm.trans q.1.1) (by decide)) (fun q => q.elim (fun q => q.2) (fun q => absurd q.1.2 (fun z => z.elim (fun z => absurd (h0.symm.trans z) (by decide)) (fun z => z hf))))) (r_start_d l D tc b _ _ _ _ _ _ _ _ _ _ _ _ _ _ _ _ _ _ _ _ _ _ _ _ _ _ _ _ _ _ _ _ _)), fun _ => g1.trans g2.symm, sm_up R 0 0 t ⟨ha1, ha2, hd, ht, Or.inl ⟨rfl, rfl⟩⟩ (by rw [show (64 * (0 : Int32) + 9) = 64 * nI 0 + 9 from rfl, g3, hg5]; exact hlv) g1 rfl hg1.symm hg5.symm g2 rfl rfl rfl rfl⟩
        · have hp : hd_pick f (nI a) = some 1 := by unfold hd_pick; rw [e0, e1, h0, h1, f0, f1, decide_eq_false hf]; rfl
          rw [hp] at hc
          simp only [rd_so, rd_ke, rd_ge, rd_gr] at hc
          obtain ⟨R, hR, g1, g2, g3, hlv⟩ := xp_read (q := 1) (so := so) (sO := sO) (gr := rf_four d (64 * 1 + 5)) (nx := rf_four d (64 * 1 + 5) + 1) (co := co) (le := le) (ma := ma) (fI := fI) (nu := nu) (lE := lE) (bs := bs) (mA := mA) hd ha1 ha2 (by decide) h1 hl0 rfl
          have hg1 : pd_four f (nI a) 1 1 = rf_four d (64 * 1 + 1) := xb_four hd ha2 (q := 1) (i := 1) (by omega) (by omega)
          have hg5 : pd_four f (nI a) 1 5 = rf_four d (64 * 1 + 5) := xb_four hd ha2 (q := 1) (i := 5) (by omega) (by omega)
          exact ⟨_, _, _, _, _, _, rfl, dp_M (by decide) hc, rfl, dp_M (by decide) (am_Mpo (fun v w h => h.elim (fun q => absurd (h0.symm.trans q.1.1) (by decide)) (fun q => q.elim (fun q => absurd q.1.2 (fun z => z.elim (fun z => absurd (h1.symm.trans z) (by decide)) hf)) (fun q => q.2))) (r_start_d l D tc b _ _ _ _ _ _ _ _ _ _ _ _ _ _ _ _ _ _ _ _ _ _ _ _ _ _ _ _ _ _ _ _ _)), fun _ => g1.trans g2.symm, sm_up R 0 0 t ⟨ha1, ha2, hd, ht, Or.inl ⟨rfl, rfl⟩⟩ (by rw [show (64 * (1 : Int32) + 9) = 64 * nI 1 + 9 from rfl, g3, hg5]; exact hlv) g1 rfl hg1.symm hg5.symm g2 rfl rfl rfl rfl⟩
end SM
