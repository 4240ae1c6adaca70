/-! ===== printed by wip/pd_sim.py: calls that neither loop nor write ===== -/
theorem xo_xor (x y : Int32) : (x ^^^ y) &&& 255 = (x &&& 255) ^^^ (y &&& 255) := by
  apply Int32.toBitVec_inj.mp
  simp only [Int32.toBitVec_and, Int32.toBitVec_xor]
  apply BitVec.eq_of_getLsbD_eq
  intro i hi
  simp only [BitVec.getLsbD_and, BitVec.getLsbD_xor]
  cases x.toBitVec.getLsbD i <;> cases y.toBitVec.getLsbD i <;> cases (255 : Int32).toBitVec.getLsbD i <;> rfl
theorem xo_nat {a : Nat} (ha : a ≤ 64) {s i : Int32} (h : pd_holds (nI a) s i = true) : ∃ q j : Nat, q < a ∧ j < 64 ∧ s = nI q ∧ i = nI j := by
  obtain ⟨q, j, h1, h2, h3, h4, -⟩ := pd_holds_nat (n := 64 * a) ⟨a, rfl, rfl, ha⟩ h
  exact ⟨q, j, by omega, h2, h3, h4⟩
theorem xo_octet {a : Nat} {f d : Nat → Int32} (hd : sm_disk a f d) (ha : a ≤ 64) {s i : Int32} (h : pd_holds (nI a) s i = true) : pd_look f (nI a) s i = d (64 * s + i).toNatClampNeg := by
  obtain ⟨q, j, h1, h2, rfl, rfl⟩ := xo_nat ha h
  rw [xb_look hd ha h1 h2, xb_ix (by omega) h2]
theorem xo_poke {a : Nat} {f d : Nat → Int32} (hd : sm_disk a f d) (ha : a ≤ 64) {s i : Int32} (h : pd_holds (nI a) s i = true) (x : Int32) : sm_disk a (pd_set f (nI a) s i (pd_look f (nI a) s i ^^^ x)) (upd d (64 * s + i).toNatClampNeg (d (64 * s + i).toNatClampNeg ^^^ (x &&& 255))) ∧ pd_look (pd_set f (nI a) s i (pd_look f (nI a) s i ^^^ x)) (nI a) s i = d (64 * s + i).toNatClampNeg ^^^ (x &&& 255) := by
  have hl := xo_octet hd ha h
  obtain ⟨q, j, h1, h2, rfl, rfl⟩ := xo_nat ha h
  have hv : (pd_look f (nI a) (nI q) (nI j) ^^^ x) &&& 255 = d (64 * nI q + nI j).toNatClampNeg ^^^ (x &&& 255) := by
    rw [xo_xor, hl, xb_id]
    rw [xb_ix (by omega) h2]
    exact hd.byte (by omega)
  have hsd : sm_disk a (pd_set f (nI a) (nI q) (nI j) (pd_look f (nI a) (nI q) (nI j) ^^^ x)) (upd d (64 * nI q + nI j).toNatClampNeg (d (64 * nI q + nI j).toNatClampNeg ^^^ (x &&& 255))) := by
    intro k hk
    unfold pd_set
    rw [h, xb_ix2 (by omega) h2]
    simp only [cond_true]
    rw [← hv, xb_ix (by omega) h2]
    by_cases e : k = 64 * q + j
    · subst e
      simp only [upd, if_true]
      rw [xb_st]
    · simp only [upd, if_neg e]
      exact hd k hk
  refine ⟨hsd, ?_⟩
  rw [xb_look hsd ha h1 h2, xb_ix (by omega) h2]
  simp [upd]
theorem xo_63 (y : Int32) : y < 64 ↔ y ≤ 63 := by
  rw [Int32.lt_iff_toInt_lt, Int32.le_iff_toInt_le, show (64 : Int32).toInt = 64 from rfl, show (63 : Int32).toInt = 63 from rfl]
  omega
theorem xo_cut {x y : Int32} (h1 : ¬ x < -1) (h2 : ¬ 1000 < x) (h3 : ¬ y < 0) (h4 : y ≤ 63) : sm_cut x y (if x < 0 then 0 else 1) x y.toNatClampNeg ∧ y = nI y.toNatClampNeg := by
  have hy : ∃ j, j < 64 ∧ y = nI j := by
    rcases pk_ix y (n := 64) (by decide) with q | q | q
    · exact absurd q h3
    · exact absurd (Int32.le_trans q h4) (by decide)
    · exact q
  obtain ⟨j, hj, rfl⟩ := hy
  rw [nI_clamp (by omega)]
  refine ⟨⟨hj, ?_⟩, rfl⟩
  rcases pk_ix x (n := 1001) (by decide) with q | q | ⟨c, hc, rfl⟩
  · left
    refine ⟨?_, if_pos q⟩
    apply Int32.toInt_inj.mp
    rw [Int32.lt_iff_toInt_lt] at h1 q
    rw [show (-1 : Int32).toInt = -1 from rfl] at h1 ⊢
    rw [show (0 : Int32).toInt = 0 from rfl] at q
    omega
  · exfalso
    apply h2
    rw [Int32.le_iff_toInt_le] at q
    rw [Int32.lt_iff_toInt_lt, show (1000 : Int32).toInt = 1000 from rfl]
    rw [show (nI 1001).toInt = 1001 from rfl] at q
    omega
  · right
    exact ⟨c, by omega, rfl, if_neg (xb_lt0 (by omega)), rfl, rfl⟩
theorem xo_ne {x c : Int32} (h : ¬ x = c) : x.toInt ≠ c.toInt := fun q => h (Int32.toInt_inj.mp q)
theorem xo_count (ke en ge gr ol x : Int32) : pd_count ke en ge gr ol x = if x < 0 then -12 else if ¬ x ≤ 4 then -12 else if ¬ 2 ≤ x then (if x = 0 then ke else en) else if x = 2 then ge else if x = 3 then gr else ol := by
  by_cases h0 : x = 0
  · subst h0; rfl
  by_cases h1 : x = 1
  · subst h1; rfl
  by_cases h2 : x = 2
  · subst h2; rfl
  by_cases h3 : x = 3
  · subst h3; rfl
  by_cases h4 : x = 4
  · subst h4; rfl
  have i0 := xo_ne h0
  have i1 := xo_ne h1
  have i2 := xo_ne h2
  have i3 := xo_ne h3
  have i4 := xo_ne h4
  rw [show (0 : Int32).toInt = 0 from rfl] at i0
  rw [show (1 : Int32).toInt = 1 from rfl] at i1
  rw [show (2 : Int32).toInt = 2 from rfl] at i2
  rw [show (3 : Int32).toInt = 3 from rfl] at i3
  rw [show (4 : Int32).toInt = 4 from rfl] at i4
  rw [pd_count_o (by omega)]
  by_cases n0 : x < 0
  · rw [if_pos n0]
  · rw [if_neg n0, if_pos]
    rw [Int32.lt_iff_toInt_lt, show (0 : Int32).toInt = 0 from rfl] at n0
    rw [Int32.le_iff_toInt_le, show (4 : Int32).toInt = 4 from rfl]
    omega
/-- a kept row's sector, for any k -/
theorem xo_sec {K : Nat} {so sO : Nat → Int32} (hs : sm_so K so sO) (hK : K ≤ 50) (k : Int32) : (hd_sec so (nI K) k = -1 ∧ (k < 0 ∨ nI K ≤ k)) ∨ ∃ j, j < K ∧ k = nI j ∧ hd_sec so (nI K) k = sO j := by
  rcases pk_ix k (n := K) (by omega) with q | q | ⟨j, hj, rfl⟩
  · left
    refine ⟨?_, Or.inl q⟩
    unfold hd_sec
    simp [q]
  · left
    refine ⟨?_, Or.inr q⟩
    unfold hd_sec
    simp [q]
  · right
    exact ⟨j, hj, rfl, (xa_sec so hK hj).trans (hs j hj)⟩
theorem xo_k16 : ∀ n, n < 256 → rf_mark (nI n) = true → pd_kind (nI n) = nI n - nI n / 16 * 16 - 1 ∧ pd_b (!decide (nI n ≤ 16)) = nI n / 16 := by decide +kernel
theorem xo_wmark {d : Nat → Int32} {s : Int32} (h : rf_wrong d s = false) : rf_mark (d (64 * s).toNatClampNeg) = true := by
  simp only [rf_wrong, Bool.or_eq_false_iff, Bool.not_eq_false'] at h
  exact h.1.2
theorem xo_row {a K : Nat} {f d so sO : Nat → Int32} (hd : sm_disk a f d) (ha : a ≤ 64) (hs : sm_so K so sO) (hc : rf_secs sO K a) (hK : K ≤ 50) (k x : Int32) : pd_rowv f (nI a) (hd_sec so (nI K) k) x = rf_rowv d sO K k x := by
  unfold pd_rowv rf_rowv
  by_cases h1 : x < 0
  · simp [h1]
  by_cases h2 : ¬ x ≤ 4
  · simp [h1, h2]
  replace h2 : x ≤ 4 := Classical.not_not.mp h2
  rcases xo_sec hs hK k with ⟨e, hk⟩ | ⟨j, hj, rfl, e⟩
  · rw [e]
    by_cases k1 : k < 0
    · simp [h1, h2, k1]
    · have k2 : ¬ k < nI K := Int32.not_lt.mpr (hk.resolve_left k1)
      simp [h1, h2, k1, k2]
  · rw [e, nI_clamp (by omega)]
    obtain ⟨s, es, hs1, hs2⟩ := hc j hj
    have k1 := xb_lt0 (n := j) (by omega)
    have k2 : nI j < nI K := (xb_lt (by omega) (by omega)).mpr hj
    rw [es]
    have m1 : ¬ nI s = -1 := xw_n1 (by omega)
    by_cases h4 : x = 4
    · simp [h1, h2, h4, k1, k2]
    rw [xb_row hd ha hs2]
    cases hw : rf_wrong d (nI s) with
    | true => simp [h1, h2, h4, k1, k2, m1]
    | false =>
      have e0 : pd_look f (nI a) (nI s) 0 = d (64 * nI s).toNatClampNeg := by
        rw [xb_ix0 (by omega)]
        exact xb_look hd ha hs2 (i := 0) (by omega)
      have e5 : pd_look f (nI a) (nI s) 5 = d (64 * nI s + 5).toNatClampNeg := by
        rw [show (64 * nI s + 5).toNatClampNeg = 64 * s + 5 from xb_ix (i := 5) (by omega) (by omega)]
        exact xb_look hd ha hs2 (i := 5) (by omega)
      have e1 : pd_four f (nI a) (nI s) 1 = rf_four d (64 * nI s + 1) := xb_four hd ha hs2 (i := 1) (by omega)
      obtain ⟨n, hn, en⟩ : xb_byte (d (64 * nI s).toNatClampNeg) := by
        rw [xb_ix0 (by omega)]
        exact hd.byte (by omega)
      have hm := xo_wmark hw
      rw [en] at hm
      obtain ⟨g1, g2⟩ := xo_k16 n hn hm
      unfold pd_rowx pd_event
      rw [e0, e5, e1, en, g1, g2]
      simp [h1, h2, h4, k1, k2, m1]
theorem xo_wm {a K : Nat} {f d so sO : Nat → Int32} (hd : sm_disk a f d) (ha : a ≤ 64) (hs : sm_so K so sO) (hc : rf_secs sO K a) (hK : K ≤ 50) {x : Int32} (hx : ¬ x = 1) : ∀ m k y, k + m = K → pd_wl f (nI a) so (nI K) x m k y = rf_wm d sO m k y := by
  intro m
  induction m with
  | zero => intro k y _; rw [rf_wm_0]; simp only [pd_wl]; simp [hx]
  | succ m ih =>
    intro k y hk
    rw [rf_wm_s, nI_clamp (by omega)]
    simp only [pd_wl]
    obtain ⟨s, es, hs1, hs2⟩ := hc k (by omega)
    rw [xa_sec so hK (by omega), hs k (by omega), es, xb_row hd ha hs2]
    cases rf_wrong d (nI s) with
    | true => simp [hx]; exact ih (k + 1) (y + 1) (by omega)
    | false => simp; exact ih (k + 1) y (by omega)
theorem xo_wi0 (d sO : Nat → Int32) : ∀ m k y it, 1 ≤ y → y + m ≤ 200 → rf_wi d sO m k (nI y) it = it := by
  intro m
  induction m with
  | zero => intro k y it _ _; rw [rf_wi_0]
  | succ m ih =>
    intro k y it h1 h2
    rw [rf_wi_s, if_neg (fun z => by rw [xw_z (by omega)] at z; omega), ← nI_succ, ih (k + 1) (y + 1) it (by omega) (by omega), ih (k + 1) y it h1 (by omega)]
    cases rf_wrong d (sO (nI k).toNatClampNeg) <;> rfl
theorem xo_wi {a K : Nat} {f d so sO : Nat → Int32} (hd : sm_disk a f d) (ha : a ≤ 64) (hs : sm_so K so sO) (hc : rf_secs sO K a) (hK : K ≤ 50) : ∀ m k y, k + m = K → pd_wl f (nI a) so (nI K) 1 m k y = rf_wi d sO m k 0 (-1) := by
  intro m
  induction m with
  | zero => intro k y _; rw [rf_wi_0]; simp only [pd_wl]; rfl
  | succ m ih =>
    intro k y hk
    rw [rf_wi_s, nI_clamp (by omega)]
    simp only [pd_wl]
    obtain ⟨s, es, hs1, hs2⟩ := hc k (by omega)
    rw [xa_sec so hK (by omega), hs k (by omega), es, xb_row hd ha hs2]
    cases rf_wrong d (nI s) with
    | true =>
      have := xo_wi0 d sO m (k + 1) 1 (nI k) (Nat.le_refl _) (by omega)
      simp only [Bool.not_true, cond_false, cond_true, decide_true, if_true]
      exact this.symm
    | false => simp; exact ih (k + 1) y (by omega)
theorem xo_wrong {a K : Nat} {f d so sO : Nat → Int32} (hd : sm_disk a f d) (ha : a ≤ 64) (hs : sm_so K so sO) (hc : rf_secs sO K a) (hK : K ≤ 50) (x : Int32) : (bif decide (x < 0) || !decide (x ≤ 1) then (-12 : Int32) else pd_wl f (nI a) so (nI K) x (nI K).toNatClampNeg 0 0) = if x < 0 then -12 else if ¬ x ≤ 1 then -12 else if x = 0 then rf_wm d sO K 0 0 else rf_wi d sO K 0 0 (-1) := by
  rw [nI_clamp (by omega)]
  by_cases h1 : x < 0
  · simp [h1]
  by_cases h2 : ¬ x ≤ 1
  · simp [h1, h2]
  replace h2 : x ≤ 1 := Classical.not_not.mp h2
  by_cases h3 : x = 0
  · subst h3
    rw [xo_wm hd ha hs hc hK (by decide) K 0 0 (Nat.zero_add _)]
    rfl
  · have h4 : x = 1 := by
      have i0 := xo_ne h3
      rw [show (0 : Int32).toInt = 0 from rfl] at i0
      rw [Int32.lt_iff_toInt_lt, show (0 : Int32).toInt = 0 from rfl] at h1
      rw [Int32.le_iff_toInt_le, show (1 : Int32).toInt = 1 from rfl] at h2
      apply Int32.toInt_inj.mp
      rw [show (1 : Int32).toInt = 1 from rfl]
      omega
    subst h4
    rw [xo_wi hd ha hs hc hK K 0 0 (Nat.zero_add _)]
    rfl
theorem xo_look0 (q : Nat → Int64) (v : Int64) : vp_updL q (0 : Int32).toNatClampNeg v (0 : Int32).toNatClampNeg = v := by simp [vp_updL]
section SM
variable (l : Launch) (D : va_G) (tc : Nat → ClassId) (b : Nat) (N : Nat)
set_option maxHeartbeats 4000000 in
set_option maxRecDepth 100000 in
theorem ss_add : lh_add l D tc b ss_Sim N := by
  intro n w x hs hle
  rcases hs with hs | hs
  · obtain ⟨a, K, E, Z, t, wr, cu, te, fi, ge, gr, th, go, ga, nx, f, g, so, us, co, le, ma, d, sO, fI, nu, lE, bs, mA, sh, q, rest, hb, hv, rfl⟩ := hs
    obtain ⟨ha1, ha2, hd, hcut⟩ := id hb
    have hn : pd_sz (nI a) (64 * a) := ⟨a, rfl, rfl, ha2⟩
    by_cases hZ : Z < 40
    · exact ⟨_, _, _, _, _, _, rfl, dp_M (by decide) (c_add_u l D tc b _ _ _ _ _ _ _ _ _ _ _ _ _ _ _ _ _ _ _ _), rfl, dp_M (by decide) (am_Mpo (fun v w h => h.elim (fun q => absurd q.1 (fun z => by have z := nI_inj (a := Z) (b := 40) (by omega) (by decide) z; omega)) (fun q => q.2)) (r_add_u l D tc b _ _ _ _ _ _ _ _ _ _ _ _ _ _ _ _ _ _ _ _ _ _ _ _ _ _ _ _ _ _ _ _ _ _ (fun _ => vp_in_nI hZ (by decide)))), fun _ => by rw [xl_can hv.e50 hv.leE hv.z, decide_eq_true hZ, xl_al hv.e50 hv.leE hZ, ← nI_succ]; exact xw_len hv.e50 (by simp [upd]), sm_up K E (Z + 1) t hb (xl_add hv hZ x) rfl rfl rfl rfl rfl rfl (nI_succ Z).symm rfl rfl⟩
    · exact ⟨_, _, _, _, _, _, rfl, dp_M (by decide) (c_add_u l D tc b _ _ _ _ _ _ _ _ _ _ _ _ _ _ _ _ _ _ _ _), rfl, dp_M (by decide) (am_Mpo (fun v w h => h.elim (fun q => q.2) (fun q => absurd (by have := hv.z; rw [show Z = 40 by omega]; rfl) q.1)) (r_add_u l D tc b _ _ _ _ _ _ _ _ _ _ _ _ _ _ _ _ _ _ _ _ _ _ _ _ _ _ _ _ _ _ _ _ _ _ (fun z => absurd (by have := hv.z; rw [show Z = 40 by omega]; rfl) z))), fun _ => by rw [xl_can hv.e50 hv.leE hv.z, decide_eq_false hZ]; rfl, (by rw [show wt_ac co le (nI E) x = co from by unfold wt_ac; rw [xl_can hv.e50 hv.leE hv.z, decide_eq_false hZ]; rfl, show wt_al le (nI E) = le from by unfold wt_al; rw [xl_can hv.e50 hv.leE hv.z, decide_eq_false hZ]; rfl]; exact sm_up K E Z t hb hv rfl rfl rfl rfl rfl rfl rfl rfl rfl)⟩
  · obtain ⟨a, t, wr, te, fi, ke, ge, gr, th, ga, gE, gR, kE, nx, f, g, so, us, co, le, ma, d, sO, fI, nu, lE, bs, mA, sh, q, rest, ⟨ha1, ha2, hd, ht⟩, hl0, rfl⟩ := hs
    have hn : pd_sz (nI a) (64 * a) := ⟨a, rfl, rfl, ha2⟩
    exact ⟨_, _, _, _, _, _, rfl, dp_M (by decide) (c_add_d l D tc b _ _ _ _ _ _ _ _ _ _ _ _ _ _ _ _ _ _ _ _), rfl, dp_M (by decide) (r_add_d l D tc b _ _ _ _ _ _ _ _ _ _ _ _ _ _ _ _ _ _ _ _ _ _ _ _ _ _ _ _ _ _ _ _ _ _), fun _ => rfl, sm_dn t ⟨ha1, ha2, hd, ht⟩ hl0 rfl rfl rfl rfl rfl rfl rfl⟩
set_option maxHeartbeats 4000000 in
set_option maxRecDepth 100000 in
theorem ss_end : lh_end l D tc b ss_Sim N := by
  intro n w kd ev hev hs hle
  rcases hs with hs | hs
  · obtain ⟨a, K, E, Z, t, wr, cu, te, fi, ge, gr, th, go, ga, nx, f, g, so, us, co, le, ma, d, sO, fI, nu, lE, bs, mA, sh, q, rest, hb, hv, rfl⟩ := hs
    obtain ⟨ha1, ha2, hd, hcut⟩ := id hb
    have hn : pd_sz (nI a) (64 * a) := ⟨a, rfl, rfl, ha2⟩
    have hrm := xl_room (K := K) (E := E) (ev := ev) ha1 ha2 (by have := hv.e50; have := hv.k; omega)
    by_cases hk : kd < 0 ∨ ¬ kd ≤ 9
    · exact ⟨_, _, _, _, _, _, rfl, dp_M (by decide) (am_Mpo (fun v w h => h.elim (fun q => q.2) (fun q => q.elim (fun q => absurd hk (fun z => z.elim q.1.1 (fun z => z q.1.2.1))) (fun q => absurd hk (fun z => z.elim q.1.1 (fun z => z q.1.2.1))))) (c_end_u l D tc b _ _ _ _ _ _ _ _ _ _ _ _ _ _ _ _ _ _ _ _ _)), rfl, dp_M (by decide) (am_Mpo (fun v w h => h.elim (fun q => q.2) (fun q => q.elim (fun q => absurd hk (fun z => z.elim q.1.1 (fun z => z q.1.2.1))) (fun q => absurd hk (fun z => z.elim q.1.1 (fun z => z q.1.2.1))))) (r_end_u l D tc b _ _ _ _ _ _ _ _ _ _ _ _ _ _ _ _ _ _ _ _ _ _ _ _ _ _ _ _ _ _ _ _ _ _ _ (fun z => by have := (hrm.2 z); omega) hv.z)), fun _ => rfl, sm_up K E Z t hb hv rfl rfl rfl rfl rfl rfl rfl rfl rfl⟩
    cases hro : rf_room (nI a) (nI K) (nI E) ev
    · exact ⟨_, _, _, _, _, _, rfl, dp_M (by decide) (am_Mpo (fun v w h => h.elim (fun q => absurd q.1 hk) (fun q => q.elim (fun q => q.2) (fun q => absurd (hro.symm.trans (hrm.1.symm.trans q.1.2.2)) (by decide)))) (c_end_u l D tc b _ _ _ _ _ _ _ _ _ _ _ _ _ _ _ _ _ _ _ _ _)), rfl, dp_M (by decide) (am_Mpo (fun v w h => h.elim (fun q => absurd q.1 hk) (fun q => q.elim (fun q => q.2) (fun q => absurd (hro.symm.trans q.1.2.2) (by decide)))) (r_end_u l D tc b _ _ _ _ _ _ _ _ _ _ _ _ _ _ _ _ _ _ _ _ _ _ _ _ _ _ _ _ _ _ _ _ _ _ _ (fun z => by have := (hrm.2 z); omega) hv.z)), fun _ => rfl, sm_up K E 0 t hb (xl_endr hv) rfl rfl rfl rfl rfl rfl rfl rfl rfl⟩
    · have hr12 := hrm.2 hro
      obtain ⟨hk1, hk2⟩ : ¬ kd < 0 ∧ kd ≤ 9 := ⟨fun z => hk (Or.inl z), Classical.byContradiction fun z => hk (Or.inr z)⟩
      exact ⟨_, _, _, _, _, _, rfl, dp_M (by decide) (am_Mpo (fun v w h => h.elim (fun q => absurd q.1 hk) (fun q => q.elim (fun q => absurd (hro.symm.trans (hrm.1.symm.trans q.1.2.2)) (by decide)) (fun q => q.2))) (c_end_u l D tc b _ _ _ _ _ _ _ _ _ _ _ _ _ _ _ _ _ _ _ _ _)), rfl, dp_M (by decide) (am_Mpo (fun v w h => h.elim (fun q => absurd q.1 hk) (fun q => q.elim (fun q => absurd (hro.symm.trans q.1.2.2) (by decide)) (fun q => q.2))) (r_end_u l D tc b _ _ _ _ _ _ _ _ _ _ _ _ _ _ _ _ _ _ _ _ _ _ _ _ _ _ _ _ _ _ _ _ _ _ _ (fun z => by have := (hrm.2 z); omega) hv.z)), fun _ => by rw [xl_ce (by omega), hv.2.2.2.2.2.2.2.1]; exact xl_val gr E, sm_up K (E + 1) 0 t hb (xl_end hv (by omega) (by omega) hk1 hk2) rfl (xl_ce (by omega)) rfl rfl rfl (nI_succ E).symm rfl rfl rfl⟩
  · obtain ⟨a, t, wr, te, fi, ke, ge, gr, th, ga, gE, gR, kE, nx, f, g, so, us, co, le, ma, d, sO, fI, nu, lE, bs, mA, sh, q, rest, ⟨ha1, ha2, hd, ht⟩, hl0, rfl⟩ := hs
    have hn : pd_sz (nI a) (64 * a) := ⟨a, rfl, rfl, ha2⟩
    exact ⟨_, _, _, _, _, _, rfl, dp_M (by decide) (c_end_d l D tc b _ _ _ _ _ _ _ _ _ _ _ _ _ _ _ _ _ _ _ _ _), rfl, dp_M (by decide) (r_end_d l D tc b _ _ _ _ _ _ _ _ _ _ _ _ _ _ _ _ _ _ _ _ _ _ _ _ _ _ _ _ _ _ _ _ _ _ _), fun h => absurd h id, sm_dn t ⟨ha1, ha2, hd, ht⟩ hl0 rfl rfl rfl rfl rfl rfl rfl⟩
set_option maxHeartbeats 4000000 in
set_option maxRecDepth 100000 in
theorem ss_cut : lh_cut l D tc b ss_Sim N := by
  intro n w x y hs hle
  rcases hs with hs | hs
  · obtain ⟨a, K, E, Z, t, wr, cu, te, fi, ge, gr, th, go, ga, nx, f, g, so, us, co, le, ma, d, sO, fI, nu, lE, bs, mA, sh, q, rest, hb, hv, rfl⟩ := hs
    obtain ⟨ha1, ha2, hd, hcut⟩ := id hb
    have hn : pd_sz (nI a) (64 * a) := ⟨a, rfl, rfl, ha2⟩
    by_cases hk : ¬ x < -1 ∧ ¬ 1000 < x ∧ ¬ y < 0 ∧ y < 64
    · have hcu := xo_cut hk.1 hk.2.1 hk.2.2.1 ((xo_63 y).mp hk.2.2.2)
      exact ⟨_, _, _, _, _, _, rfl, dp_M (by decide) (am_Mpo (fun v w h => h.elim (fun q => q.2) (fun q => absurd hk q.1)) (c_cut_u l D tc b _ _ _ _ _ _ _ _ _ _ _ _ _ _ _ _ _ _ _ _ _)), rfl, dp_M (by decide) (am_Mpo (fun v w h => h.elim (fun q => absurd q.1 (fun z => z.elim hk.1 (fun z => z.elim hk.2.1 (fun z => z.elim hk.2.2.1 (fun z => z ((xo_63 y).mp hk.2.2.2)))))) (fun q => q.2)) (r_cut_u l D tc b _ _ _ _ _ _ _ _ _ _ _ _ _ _ _ _ _ _ _ _ _ _ _ _ _ _ _ _ _ _ _ _ _ _ _)), fun _ => rfl, sm_up K E Z y.toNatClampNeg ⟨ha1, ha2, hd, hcu.1⟩ hv rfl rfl rfl rfl rfl rfl rfl hcu.2 rfl⟩
    · exact ⟨_, _, _, _, _, _, rfl, dp_M (by decide) (am_Mpo (fun v w h => h.elim (fun q => absurd q.1 hk) (fun q => q.2)) (c_cut_u l D tc b _ _ _ _ _ _ _ _ _ _ _ _ _ _ _ _ _ _ _ _ _)), rfl, dp_M (by decide) (am_Mpo (fun v w h => h.elim (fun q => q.2) (fun q => absurd ⟨q.1.1, q.1.2.1, q.1.2.2.1, (xo_63 y).mpr q.1.2.2.2⟩ hk)) (r_cut_u l D tc b _ _ _ _ _ _ _ _ _ _ _ _ _ _ _ _ _ _ _ _ _ _ _ _ _ _ _ _ _ _ _ _ _ _ _)), fun _ => rfl, sm_up K E Z t hb hv rfl rfl rfl rfl rfl rfl rfl rfl rfl⟩
  · obtain ⟨a, t, wr, te, fi, ke, ge, gr, th, ga, gE, gR, kE, nx, f, g, so, us, co, le, ma, d, sO, fI, nu, lE, bs, mA, sh, q, rest, ⟨ha1, ha2, hd, ht⟩, hl0, rfl⟩ := hs
    have hn : pd_sz (nI a) (64 * a) := ⟨a, rfl, rfl, ha2⟩
    exact ⟨_, _, _, _, _, _, rfl, dp_M (by decide) (c_cut_d l D tc b _ _ _ _ _ _ _ _ _ _ _ _ _ _ _ _ _ _ _ _ _), rfl, dp_M (by decide) (r_cut_d l D tc b _ _ _ _ _ _ _ _ _ _ _ _ _ _ _ _ _ _ _ _ _ _ _ _ _ _ _ _ _ _ _ _ _ _ _), fun _ => rfl, sm_dn t ⟨ha1, ha2, hd, ht⟩ hl0 rfl rfl rfl rfl rfl rfl rfl⟩
set_option maxHeartbeats 4000000 in
set_option maxRecDepth 100000 in
theorem ss_count : lh_count l D tc b ss_Sim N := by
  intro n w x hs hle
  rcases hs with hs | hs
  · obtain ⟨a, K, E, Z, t, wr, cu, te, fi, ge, gr, th, go, ga, nx, f, g, so, us, co, le, ma, d, sO, fI, nu, lE, bs, mA, sh, q, rest, hb, hv, rfl⟩ := hs
    obtain ⟨ha1, ha2, hd, hcut⟩ := id hb
    have hn : pd_sz (nI a) (64 * a) := ⟨a, rfl, rfl, ha2⟩
    exact ⟨_, _, _, _, _, _, rfl, dp_M (by decide) (c_count_u l D tc b _ _ _ _ _ _ _ _ _ _ _ _ _ _ _ _ _ _ _ _), rfl, dp_M (by decide) (r_count_u l D tc b _ _ _ _ _ _ _ _ _ _ _ _ _ _ _ _ _ _ _ _ _ _ _ _ _ _ _ _ _ _ _ _ _ _), fun _ => by rw [xw_len hv.e50 hv.leE]; exact xo_count _ _ _ _ _ _, sm_up K E Z t hb hv rfl rfl rfl rfl rfl rfl rfl rfl rfl⟩
  · obtain ⟨a, t, wr, te, fi, ke, ge, gr, th, ga, gE, gR, kE, nx, f, g, so, us, co, le, ma, d, sO, fI, nu, lE, bs, mA, sh, q, rest, ⟨ha1, ha2, hd, ht⟩, hl0, rfl⟩ := hs
    have hn : pd_sz (nI a) (64 * a) := ⟨a, rfl, rfl, ha2⟩
    exact ⟨_, _, _, _, _, _, rfl, dp_M (by decide) (c_count_d l D tc b _ _ _ _ _ _ _ _ _ _ _ _ _ _ _ _ _ _ _ _), rfl, dp_M (by decide) (r_count_d l D tc b _ _ _ _ _ _ _ _ _ _ _ _ _ _ _ _ _ _ _ _ _ _ _ _ _ _ _ _ _ _ _ _ _ _), fun _ => rfl, sm_dn t ⟨ha1, ha2, hd, ht⟩ hl0 rfl rfl rfl rfl rfl rfl rfl⟩
set_option maxHeartbeats 4000000 in
set_option maxRecDepth 100000 in
theorem ss_writes : lh_writes l D tc b ss_Sim N := by
  intro n w hs hle
  rcases hs with hs | hs
  · obtain ⟨a, K, E, Z, t, wr, cu, te, fi, ge, gr, th, go, ga, nx, f, g, so, us, co, le, ma, d, sO, fI, nu, lE, bs, mA, sh, q, rest, hb, hv, rfl⟩ := hs
    obtain ⟨ha1, ha2, hd, hcut⟩ := id hb
    have hn : pd_sz (nI a) (64 * a) := ⟨a, rfl, rfl, ha2⟩
    exact ⟨_, _, _, _, _, _, rfl, dp_M (by decide) (c_writes l D tc b _ _ _ _ _ _ _ _ _ _ _ _ _ _ _ _ _ _ _ _), rfl, dp_M (by decide) (r_writes l D tc b _ _ _ _ _ _ _ _ _ _ _ _ _ _ _ _ _ _ _ _ _ _ _ _ _ _ _ _ _ _ _ _ _ _), fun _ => rfl, sm_up K E Z t hb hv rfl rfl rfl rfl rfl rfl rfl rfl rfl⟩
  · obtain ⟨a, t, wr, te, fi, ke, ge, gr, th, ga, gE, gR, kE, nx, f, g, so, us, co, le, ma, d, sO, fI, nu, lE, bs, mA, sh, q, rest, ⟨ha1, ha2, hd, ht⟩, hl0, rfl⟩ := hs
    have hn : pd_sz (nI a) (64 * a) := ⟨a, rfl, rfl, ha2⟩
    exact ⟨_, _, _, _, _, _, rfl, dp_M (by decide) (c_writes l D tc b _ _ _ _ _ _ _ _ _ _ _ _ _ _ _ _ _ _ _ _), rfl, dp_M (by decide) (r_writes l D tc b _ _ _ _ _ _ _ _ _ _ _ _ _ _ _ _ _ _ _ _ _ _ _ _ _ _ _ _ _ _ _ _ _ _), fun _ => rfl, sm_dn t ⟨ha1, ha2, hd, ht⟩ hl0 rfl rfl rfl rfl rfl rfl rfl⟩
set_option maxHeartbeats 4000000 in
set_option maxRecDepth 100000 in
theorem ss_row : lh_row l D tc b ss_Sim N := by
  intro n w k x hs hle
  rcases hs with hs | hs
  · obtain ⟨a, K, E, Z, t, wr, cu, te, fi, ge, gr, th, go, ga, nx, f, g, so, us, co, le, ma, d, sO, fI, nu, lE, bs, mA, sh, q, rest, hb, hv, rfl⟩ := hs
    obtain ⟨ha1, ha2, hd, hcut⟩ := id hb
    have hn : pd_sz (nI a) (64 * a) := ⟨a, rfl, rfl, ha2⟩
    exact ⟨_, _, _, _, _, _, rfl, dp_M (by decide) (c_row_u l D tc b _ _ _ _ _ _ _ _ _ _ _ _ _ _ _ _ _ _ _ _ _ hn), rfl, dp_M (by decide) (r_row_u l D tc b _ _ _ _ _ _ _ _ _ _ _ _ _ _ _ _ _ _ _ _ _ _ _ _ _ _ _ _ _ _ _ _ _ _ _ hv.k (hv.secs.ok ha2)), fun _ => xo_row hd ha2 hv.sos hv.secs hv.k _ _, sm_up K E Z t hb hv rfl rfl rfl rfl rfl rfl rfl rfl rfl⟩
  · obtain ⟨a, t, wr, te, fi, ke, ge, gr, th, ga, gE, gR, kE, nx, f, g, so, us, co, le, ma, d, sO, fI, nu, lE, bs, mA, sh, q, rest, ⟨ha1, ha2, hd, ht⟩, hl0, rfl⟩ := hs
    have hn : pd_sz (nI a) (64 * a) := ⟨a, rfl, rfl, ha2⟩
    exact ⟨_, _, _, _, _, _, rfl, dp_M (by decide) (c_row_d l D tc b _ _ _ _ _ _ _ _ _ _ _ _ _ _ _ _ _ _ _ _ _), rfl, dp_M (by decide) (r_row_d l D tc b _ _ _ _ _ _ _ _ _ _ _ _ _ _ _ _ _ _ _ _ _ _ _ _ _ _ _ _ _ _ _ _ _ _ _), fun _ => rfl, sm_dn t ⟨ha1, ha2, hd, ht⟩ hl0 rfl rfl rfl rfl rfl rfl rfl⟩
set_option maxHeartbeats 4000000 in
set_option maxRecDepth 100000 in
theorem ss_wrong : lh_wrong l D tc b ss_Sim N := by
  intro n w x hs hle
  rcases hs with hs | hs
  · obtain ⟨a, K, E, Z, t, wr, cu, te, fi, ge, gr, th, go, ga, nx, f, g, so, us, co, le, ma, d, sO, fI, nu, lE, bs, mA, sh, q, rest, hb, hv, rfl⟩ := hs
    obtain ⟨ha1, ha2, hd, hcut⟩ := id hb
    have hn : pd_sz (nI a) (64 * a) := ⟨a, rfl, rfl, ha2⟩
    exact ⟨_, _, _, _, _, _, rfl, dp_M (by decide) (c_wrong_u l D tc b _ _ _ _ _ _ _ _ _ _ _ _ _ _ _ _ _ _ _ _ hn), rfl, dp_M (by decide) (r_wrong_u l D tc b _ _ _ _ _ _ _ _ _ _ _ _ _ _ _ _ _ _ _ _ _ _ _ _ _ _ _ _ _ _ _ _ _ _ hv.k (hv.secs.ok ha2)), fun _ => xo_wrong hd ha2 hv.sos hv.secs hv.k _, sm_up K E Z t hb hv rfl rfl rfl rfl rfl rfl rfl rfl rfl⟩
  · obtain ⟨a, t, wr, te, fi, ke, ge, gr, th, ga, gE, gR, kE, nx, f, g, so, us, co, le, ma, d, sO, fI, nu, lE, bs, mA, sh, q, rest, ⟨ha1, ha2, hd, ht⟩, hl0, rfl⟩ := hs
    have hn : pd_sz (nI a) (64 * a) := ⟨a, rfl, rfl, ha2⟩
    exact ⟨_, _, _, _, _, _, rfl, dp_M (by decide) (c_wrong_d l D tc b _ _ _ _ _ _ _ _ _ _ _ _ _ _ _ _ _ _ _ _), rfl, dp_M (by decide) (r_wrong_d l D tc b _ _ _ _ _ _ _ _ _ _ _ _ _ _ _ _ _ _ _ _ _ _ _ _ _ _ _ _ _ _ _ _ _ _), fun _ => rfl, sm_dn t ⟨ha1, ha2, hd, ht⟩ hl0 rfl rfl rfl rfl rfl rfl rfl⟩
end SM
