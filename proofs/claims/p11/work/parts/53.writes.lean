/-! ===== printed by wip/pd_sim.py: the calls that write, and the beginning ===== -/
theorem xi_S (x : Int32) : rf_S x = pd_S x := by
  unfold rf_S pd_S
  have e16 : (16 : Int32).toInt = 16 := rfl
  have e64 : (64 : Int32).toInt = 64 := rfl
  by_cases h3 : 16 ≤ x
  · rw [if_neg (fun q => q h3)]
    by_cases h4 : x ≤ 64
    · rw [if_neg (fun q => q h4)]
      by_cases h5 : x < 64
      · rw [if_pos h5]
        by_cases h6 : 16 < x
        · rw [if_pos h6]
        · have e : x = 16 := by
            apply Int32.toInt_inj.mp
            simp only [Int32.le_iff_toInt_le, Int32.lt_iff_toInt_lt, e16] at *
            omega
          subst e
          rw [if_neg h6]
      · have e : x = 64 := by
          apply Int32.toInt_inj.mp
          simp only [Int32.le_iff_toInt_le, Int32.lt_iff_toInt_lt, e64] at *
          omega
        subst e
        decide
    · have h5 : ¬ x < 64 := by
        simp only [Int32.le_iff_toInt_le, Int32.lt_iff_toInt_lt, e64] at *
        omega
      rw [if_pos h4, if_neg h5]
      decide
  · have h5 : x < 64 := by
      simp only [Int32.le_iff_toInt_le, Int32.lt_iff_toInt_lt, e16, e64] at *
      omega
    have h6 : ¬ 16 < x := by
      simp only [Int32.le_iff_toInt_le, Int32.lt_iff_toInt_lt, e16, e64] at *
      omega
    rw [if_pos h3, if_pos h5, if_neg h6]
section SM
variable (l : Launch) (D : va_G) (tc : Nat → ClassId) (b : Nat) (N : Nat)
set_option maxHeartbeats 4000000 in
set_option maxRecDepth 100000 in
theorem ss_init : lh_init l D tc b ss_Sim := by
  intro v
  obtain ⟨a, ha, h1, h2⟩ := pd_S_nat v
  have hc := dp_M (d' := 8) (by decide) (c_disk0 l D tc b v a ha h1 h2)
  have hr := dp_M (d' := 8) (by decide) (r_init l D tc b (.inr (4, [.ref 1, .int (if 50 < nI a - 2 then 50 else nI a - 2), .ref 3, .ref 5, .ref 8, .int 0])) (.inr (2, [.int (nI a), .ref 2, .int 0, .int (-1), .int 0])) (.inl (0, 64 * a, .inl (fun _ => 0))) (.inr (1, [.ref 4, .int 0])) (.inl (0, 64, .inl (fun _ => 0))) (.inr (0, [.ref 6, .ref 7, .int 0, .int 0, .int 0])) (.inl (1, 50, .inl (fun _ => 0))) (.inl (2, 64, .inl (fun _ => 0))) (.inr (3, [.ref 9, .ref 10, .ref 11, .int 0])) (.inl (0, 2040, .inl (fun _ => 0))) (.inl (1, 51, .inl (fun _ => 0))) (.inl (1, 51, .inl (fun _ => 0))) v)
  rw [xi_S, ha] at hr
  rw [ha] at hc
  exact ⟨_, _, hc, rfl, hr, rfl, sm_up 0 0 0 0 ⟨h1, h2, fun j _ => (by decide : (0 : Int32) = 0 &&& 255), by decide, Or.inl ⟨rfl, rfl⟩⟩ ⟨by decide, fun j hj => by omega, fun k hk => by omega, Or.inl rfl, by decide, rfl, fun i hi => by omega, by decide, fun w hw => by omega⟩ rfl rfl rfl rfl rfl rfl rfl rfl rfl⟩
set_option maxHeartbeats 4000000 in
set_option maxRecDepth 100000 in
theorem ss_sync : lh_sync l D tc b ss_Sim N := by
  intro n w hs hle
  rcases hs with hs | hs
  · obtain ⟨a, K, E, Z, t, wr, cu, te, fi, ge, gr, th, go, ga, nx, f, g, so, us, co, le, ma, d, sO, fI, nu, lE, bs, mA, sh, q, rest, hb, hv, rfl⟩ := hs
    obtain ⟨ha1, ha2, hd, hcut⟩ := id hb
    have hn : pd_sz (nI a) (64 * a) := ⟨a, rfl, rfl, ha2⟩
    by_cases hE0 : E = 0
    · have hz : nI E = 0 := by rw [hE0]; rfl
      exact ⟨_, _, _, _, _, _, rfl, dp_M (by decide) (am_Mpo (fun v w h => h.elim (fun q => q.2) (fun q => absurd hz q.1)) (c_sync_u l D tc b _ _ _ _ _ _ _ _ _ _ _ _ _ _ _ _ _ _ _ hn)), rfl, dp_M (by decide) (am_Mpo (fun v w h => h.elim (fun q => q.2) (fun q => absurd hz q.1)) (r_sync_u l D tc b _ _ _ _ _ _ _ _ _ _ _ _ _ _ _ _ _ _ _ _ _ _ _ _ _ _ _ _ _ _ _ _ _ _ (fun w hw => by obtain ⟨-, -, -, L, q1, -, q2, -⟩ := hv.2.2.2.2.2.2.2.2 w hw; exact ⟨L, q2, q1⟩) hv.e50 ha2 (by have := hcut.1; omega) hv.secs (by have := hv.2.2.2.1; omega) (by have := hv.2.2.2.1; omega))), fun _ => rfl, sm_up K E Z t hb hv rfl rfl rfl rfl rfl rfl rfl rfl rfl⟩
    · have hz : ¬ nI E = 0 := fun z => hE0 ((xw_z (by have := hv.e50; omega)).mp z)
      have hE5 := hv.e50
      have hE2 := hv.2.2.2.1
      obtain ⟨v1, dn1, wr1, cu1, fi1, ke1, ge1, gr1, en1, th1, go1, ga1, gE1, gR1, kE1, nx1, wt1, sz1, f1, g1, so1, us1, co1, le1, ma1, d1, sO1, sh1, hC, hR, hS⟩ := xq_sync (a := a) (t := t) (E := E) (Z := Z) (te := te) (ge := ge) (gr := gr) (go := go) (nx := nx) (sz := nI Z) ha1 ha2 (by omega) hv.e50 hv.z hv.leE hv.2.2.2.2.2.2.1 hv.2.2.2.2.2.2.2.1 rfl hv.2.2.2.2.2.2.2.2 E 0 K so us g f sO d sh fi wr cu gr ga (Nat.zero_add _) (by omega) (by omega) hv.sos hv.secs hd hcut (by rw [nI_0]; simp)
      exact ⟨_, _, _, _, _, _, rfl, dp_M (by decide) (am_Mpo (fun v' w h => hC (.inr (5, [.int th, .int (nI a), .ref 13, .int wr, .int 0, .int go, .int ga, .int (nI t), .int ge, .int gr, .int (nI K), .ref 14, .int nx, .int (nI E), .ref 15, .ref 16, .ref 17, .ref 18, .int (nI Z), .ref 19, .ref 20]) :: .inl (1, 4096, .inl d) :: .inl (1, 50, .inl sO) :: .inl (1, 50, .inl fI) :: .inl (1, 50, .inl nu) :: .inl (1, 50, .inl lE) :: .inl (1, 2000, .inl bs) :: .inl (1, 40, .inl mA) :: .inl (1, 64, .inl sh) :: .inl (3, 1, .inr (.inl q)) :: rest) v' w (by rcases h with z | z; exact absurd z.1 hz; have z := z.2; rw [nI_clamp (by omega)] at z; exact z)) (c_sync_u l D tc b _ _ _ _ _ _ _ _ _ _ _ _ _ _ _ _ _ _ _ hn)), rfl, dp_M (by decide) (am_Mpo (fun v' w h => hR (.inr (4, [.ref 1, .int (if 50 < nI a - 2 then 50 else nI a - 2), .ref 3, .ref 5, .ref 8, .int dn1])) (.inr (2, [.int (nI a), .ref 2, .int wr1, .int cu1, .int te])) (.inl (0, 64 * a, .inl f1)) (.inr (1, [.ref 4, .int fi1])) (.inl (0, 64, .inl g1)) (.inr (0, [.ref 6, .ref 7, .int ke1, .int ge1, .int gr1])) (.inl (1, 50, .inl so1)) (.inl (2, 64, .inl us1)) (.inr (3, [.ref 9, .ref 10, .ref 11, .int en1])) (.inl (0, 2040, .inl co1)) (.inl (1, 51, .inl le1)) (.inl (1, 51, .inl ma1)) (.inl (3, 1, .inr (.inl q)) :: rest) v' w (h.elim (fun z => absurd z.1 hz) (fun z => z.2))) (r_sync_u l D tc b _ _ _ _ _ _ _ _ _ _ _ _ _ _ _ _ _ _ _ _ _ _ _ _ _ _ _ _ _ _ _ _ _ _ (fun w hw => by obtain ⟨-, -, -, L, q1, -, q2, -⟩ := hv.2.2.2.2.2.2.2.2 w hw; exact ⟨L, q2, q1⟩) hv.e50 ha2 (by have := hcut.1; omega) hv.secs (by have := hv.2.2.2.1; omega) (by have := hv.2.2.2.1; omega))), fun _ => rfl, hS _ _ _⟩
  · obtain ⟨a, t, wr, te, fi, ke, ge, gr, th, ga, gE, gR, kE, nx, f, g, so, us, co, le, ma, d, sO, fI, nu, lE, bs, mA, sh, q, rest, ⟨ha1, ha2, hd, ht⟩, hl0, rfl⟩ := hs
    have hn : pd_sz (nI a) (64 * a) := ⟨a, rfl, rfl, ha2⟩
    exact ⟨_, _, _, _, _, _, rfl, dp_M (by decide) (c_sync_d l D tc b _ _ _ _ _ _ _ _ _ _ _ _ _ _ _ _ _ _ _), rfl, dp_M (by decide) (r_sync_d l D tc b _ _ _ _ _ _ _ _ _ _ _ _ _ _ _ _ _ _ _ _ _ _ _ _ _ _ _ _ _ _ _ _ _), fun _ => rfl, sm_dn t ⟨ha1, ha2, hd, ht⟩ hl0 rfl rfl rfl rfl rfl rfl rfl⟩
set_option maxHeartbeats 4000000 in
set_option maxRecDepth 100000 in
theorem ss_merge : lh_merge l D tc b ss_Sim N := by
  intro n w x hs hle
  rcases hs with hs | hs
  · obtain ⟨a, K, E, Z, t, wr, cu, te, fi, ge, gr, th, go, ga, nx, f, g, so, us, co, le, ma, d, sO, fI, nu, lE, bs, mA, sh, q, rest, hb, hv, rfl⟩ := hs
    obtain ⟨ha1, ha2, hd, hcut⟩ := id hb
    have hn : pd_sz (nI a) (64 * a) := ⟨a, rfl, rfl, ha2⟩
    by_cases hk : x < 0 ∨ ¬ x ≤ 100
    · exact ⟨_, _, _, _, _, _, rfl, dp_M (by decide) (am_Mpo (fun v w h => h.elim (fun q => q.2) (fun q => q.elim (fun q => absurd hk (fun z => z.elim q.1.1 (fun z => z q.1.2.1))) (fun q => absurd hk (fun z => z.elim q.1.1 (fun z => z q.1.2.1))))) (c_merge_u l D tc b _ _ _ _ _ _ _ _ _ _ _ _ _ _ _ _ _ _ _ _ hn)), rfl, dp_M (by decide) (am_Mpo (fun v w h => h.elim (fun q => q.2) (fun q => q.elim (fun q => absurd hk (fun z => z.elim q.1.1 (fun z => z q.1.2.1))) (fun q => absurd hk (fun z => z.elim q.1.1 (fun z => z q.1.2.1))))) (r_merge_u l D tc b _ _ _ _ _ _ _ _ _ _ _ _ _ _ _ _ _ _ _ _ _ _ _ _ _ _ _ _ _ _ _ _ _ _ _ hv.k ha2 (by omega) (by have := hcut.1; omega) hv.secs)), fun _ => rfl, sm_up K E Z t hb hv rfl rfl rfl rfl rfl rfl rfl rfl rfl⟩
    by_cases hE0 : nI E ≤ 0
    · obtain ⟨v1, dn1, wr1, cu1, fi1, ke1, ge1, gr1, en1, th1, go1, ga1, gE1, gR1, kE1, nx1, wt1, sz1, f1, g1, so1, us1, co1, le1, ma1, d1, sO1, sh1, hC, hR, hS⟩ := xq_merge (a := a) (t := t) (K := K) (E := E) (Z := Z) (te := te) (gr := gr) (go := go) (nx := nx) (co := co) (le := le) (ma := ma) (fI := fI) (nu := nu) (lE := lE) (bs := bs) (mA := mA) ha1 ha2 x.toNatClampNeg 0 so us g f sO d sh fi wr cu ge ga hv hd hcut
      exact ⟨_, _, _, _, _, _, rfl, dp_M (by decide) (am_Mpo (fun v' w h => hC (.inr (5, [.int th, .int (nI a), .ref 13, .int wr, .int 0, .int go, .int ga, .int (nI t), .int ge, .int gr, .int (nI K), .ref 14, .int nx, .int (nI E), .ref 15, .ref 16, .ref 17, .ref 18, .int (nI Z), .ref 19, .ref 20]) :: .inl (1, 4096, .inl d) :: .inl (1, 50, .inl sO) :: .inl (1, 50, .inl fI) :: .inl (1, 50, .inl nu) :: .inl (1, 50, .inl lE) :: .inl (1, 2000, .inl bs) :: .inl (1, 40, .inl mA) :: .inl (1, 64, .inl sh) :: .inl (3, 1, .inr (.inl q)) :: rest) v' w (h.elim (fun q => absurd q.1 hk) (fun q => q.elim (fun q => absurd hE0 q.1.2.2) (fun q => q.2)))) (c_merge_u l D tc b _ _ _ _ _ _ _ _ _ _ _ _ _ _ _ _ _ _ _ _ hn)), rfl, dp_M (by decide) (am_Mpo (fun v' w h => hR (.inr (4, [.ref 1, .int (if 50 < nI a - 2 then 50 else nI a - 2), .ref 3, .ref 5, .ref 8, .int dn1])) (.inr (2, [.int (nI a), .ref 2, .int wr1, .int cu1, .int te])) (.inl (0, 64 * a, .inl f1)) (.inr (1, [.ref 4, .int fi1])) (.inl (0, 64, .inl g1)) (.inr (0, [.ref 6, .ref 7, .int ke1, .int ge1, .int gr1])) (.inl (1, 50, .inl so1)) (.inl (2, 64, .inl us1)) (.inr (3, [.ref 9, .ref 10, .ref 11, .int en1])) (.inl (0, 2040, .inl co1)) (.inl (1, 51, .inl le1)) (.inl (1, 51, .inl ma1)) (.inl (3, 1, .inr (.inl q)) :: rest) v' w (h.elim (fun q => absurd q.1 hk) (fun q => q.elim (fun q => absurd hE0 q.1.2.2) (fun q => q.2)))) (r_merge_u l D tc b _ _ _ _ _ _ _ _ _ _ _ _ _ _ _ _ _ _ _ _ _ _ _ _ _ _ _ _ _ _ _ _ _ _ _ hv.k ha2 (by omega) (by have := hcut.1; omega) hv.secs)), fun _ => rfl, hS _ _ _⟩
    · exact ⟨_, _, _, _, _, _, rfl, dp_M (by decide) (am_Mpo (fun v w h => h.elim (fun q => absurd q.1 hk) (fun q => q.elim (fun q => q.2) (fun q => absurd q.1.2.2 hE0))) (c_merge_u l D tc b _ _ _ _ _ _ _ _ _ _ _ _ _ _ _ _ _ _ _ _ hn)), rfl, dp_M (by decide) (am_Mpo (fun v w h => h.elim (fun q => absurd q.1 hk) (fun q => q.elim (fun q => q.2) (fun q => absurd q.1.2.2 hE0))) (r_merge_u l D tc b _ _ _ _ _ _ _ _ _ _ _ _ _ _ _ _ _ _ _ _ _ _ _ _ _ _ _ _ _ _ _ _ _ _ _ hv.k ha2 (by omega) (by have := hcut.1; omega) hv.secs)), fun _ => rfl, sm_up K E Z t hb hv rfl rfl rfl rfl rfl rfl rfl rfl rfl⟩
  · obtain ⟨a, t, wr, te, fi, ke, ge, gr, th, ga, gE, gR, kE, nx, f, g, so, us, co, le, ma, d, sO, fI, nu, lE, bs, mA, sh, q, rest, ⟨ha1, ha2, hd, ht⟩, hl0, rfl⟩ := hs
    have hn : pd_sz (nI a) (64 * a) := ⟨a, rfl, rfl, ha2⟩
    exact ⟨_, _, _, _, _, _, rfl, dp_M (by decide) (c_merge_d l D tc b _ _ _ _ _ _ _ _ _ _ _ _ _ _ _ _ _ _ _ _), rfl, dp_M (by decide) (r_merge_d l D tc b _ _ _ _ _ _ _ _ _ _ _ _ _ _ _ _ _ _ _ _ _ _ _ _ _ _ _ _ _ _ _ _ _ _), fun _ => rfl, sm_dn t ⟨ha1, ha2, hd, ht⟩ hl0 rfl rfl rfl rfl rfl rfl rfl⟩
set_option maxHeartbeats 4000000 in
set_option maxRecDepth 100000 in
theorem ss_drop : lh_drop l D tc b ss_Sim N := by
  intro n w x hs hle
  rcases hs with hs | hs
  · obtain ⟨a, K, E, Z, t, wr, cu, te, fi, ge, gr, th, go, ga, nx, f, g, so, us, co, le, ma, d, sO, fI, nu, lE, bs, mA, sh, q, rest, hb, hv, rfl⟩ := hs
    obtain ⟨ha1, ha2, hd, hcut⟩ := id hb
    have hn : pd_sz (nI a) (64 * a) := ⟨a, rfl, rfl, ha2⟩
    obtain ⟨sO2, L2, g1, g2, g3, g4, g5⟩ := xd_it (t := t) (bf := x) (so := so) ha2 hv.k hd K 0 sO 0 (Nat.zero_add _) (by rw [dr_0]; exact hv.sos) (by rw [dr_0]; rfl) (Nat.le_refl _) hv.secs
    have hK := hv.k
    have hc := c_drop_u l D tc b (.inr (5, [.int th, .int (nI a), .ref 13, .int wr, .int 0, .int go, .int ga, .int (nI t), .int ge, .int gr, .int (nI K), .ref 14, .int nx, .int (nI E), .ref 15, .ref 16, .ref 17, .ref 18, .int (nI Z), .ref 19, .ref 20]) :: .inl (1, 4096, .inl d) :: .inl (1, 50, .inl sO) :: .inl (1, 50, .inl fI) :: .inl (1, 50, .inl nu) :: .inl (1, 50, .inl lE) :: .inl (1, 2000, .inl bs) :: .inl (1, 40, .inl mA) :: .inl (1, 64, .inl sh) :: .inl (3, 1, .inr (.inl q)) :: rest) (64 * a) (if 50 < nI a - 2 then 50 else nI a - 2) (nI a) wr cu te f g fi so us (nI K) ge gr co le ma (nI E) x hn
    rw [nI_clamp (n := K) (by omega), g2] at hc
    by_cases hLK : L2 = K
    · have hz : nI L2 = nI K := by rw [hLK]
      exact ⟨_, _, _, _, _, _, rfl, dp_M (by decide) (am_Mpo (fun v w h => h.elim (fun q => q.2) (fun q => q.elim (fun q => absurd hz q.1) (fun q => absurd hz q.1))) hc), rfl, dp_M (by decide) (am_Mpo (fun v w h => (rdP_0 (g5 _ _ _ _ _ _ _ _ _ _ _ _ _ _ _ _ _ _ _ _ _ _ _ _ _ _ _ _ _ h)).elim (fun q => q.2) (fun q => q.elim (fun q => absurd hz q.1) (fun q => absurd hz q.1))) (r_drop_u l D tc b _ _ _ _ _ _ _ _ _ _ _ _ _ _ _ _ _ _ _ _ _ _ _ _ _ _ _ _ _ _ _ _ _ _ _ hv.k ha2 (by have := hcut.1; omega) hv.secs)), fun _ => rfl, sm_up K E Z t hb (hv.move g4 g1) rfl rfl rfl rfl hz rfl rfl rfl rfl⟩
    have hz : ¬ nI L2 = nI K := fun z => hLK (nI_inj (by omega) (by omega) z)
    have hso2 : sm_so L2 (dr f (nI a) (nI K) x so K).1 sO2 := fun k hk => g1 k (by omega)
    have hsec2 : rf_secs sO2 L2 a := fun j hj => g4 j (by omega)
    obtain ⟨p, hp, eq⟩ := xw_par2 (ge + 1)
    have ep : rf_par (ge + 1) = nI p := (xw_par (ge + 1)).trans eq
    have hg := xa_head hso2 hsec2 ha2 (by omega) (ge + 1) gr g sh
    cases hn2 : rf_now go ga
    · obtain ⟨h0, hcut2, hdk⟩ := xw_stay hcut hd ha2 hg (q := p) (by omega) hn2
      exact ⟨_, _, _, _, _, _, rfl, dp_M (by decide) (am_Mpo (fun v w h => h.elim (fun q => absurd q.1 hz) (fun q => q.elim (fun q => q.2.2) (fun q => absurd q.2.1 h0))) hc), rfl, dp_M (by decide) (am_Mpo (fun v w h => (rdP_0 (g5 _ _ _ _ _ _ _ _ _ _ _ _ _ _ _ _ _ _ _ _ _ _ _ _ _ _ _ _ _ h)).elim (fun q => absurd q.1 hz) (fun q => q.elim (fun q => absurd (hn2.symm.trans q.2.1) (by decide)) (fun q => q.2.2))) (r_drop_u l D tc b _ _ _ _ _ _ _ _ _ _ _ _ _ _ _ _ _ _ _ _ _ _ _ _ _ _ _ _ _ _ _ _ _ _ _ hv.k ha2 (by have := hcut.1; omega) hv.secs)), fun _ => rfl, sm_up L2 E Z t ⟨ha1, ha2, by rw [eq, ep]; exact hdk, hcut2⟩ ⟨by omega, hsec2, hso2, by have := hv.2.2.2.1; omega, hv.2.2.2.2⟩ rfl rfl rfl rfl rfl rfl rfl rfl rfl⟩
    · obtain ⟨h0, hwc, hdk⟩ := xw_lost hcut hd ha2 hg (q := p) (by omega) hn2
      exact ⟨_, _, _, _, _, _, rfl, dp_M (by decide) (am_Mpo (fun v w h => h.elim (fun q => absurd q.1 hz) (fun q => q.elim (fun q => absurd h0 q.2.1) (fun q => q.2.2))) hc), rfl, dp_M (by decide) (am_Mpo (fun v w h => (rdP_0 (g5 _ _ _ _ _ _ _ _ _ _ _ _ _ _ _ _ _ _ _ _ _ _ _ _ _ _ _ _ _ h)).elim (fun q => absurd q.1 hz) (fun q => q.elim (fun q => q.2.2) (fun q => absurd (hn2.symm.trans q.2.1) (by decide)))) (r_drop_u l D tc b _ _ _ _ _ _ _ _ _ _ _ _ _ _ _ _ _ _ _ _ _ _ _ _ _ _ _ _ _ _ _ _ _ _ _ hv.k ha2 (by have := hcut.1; omega) hv.secs)), fun _ => rfl, sm_dn t ⟨ha1, ha2, by rw [eq, ep]; exact hdk, hcut.1⟩ (xw_el _) hwc rfl rfl rfl rfl rfl rfl⟩
  · obtain ⟨a, t, wr, te, fi, ke, ge, gr, th, ga, gE, gR, kE, nx, f, g, so, us, co, le, ma, d, sO, fI, nu, lE, bs, mA, sh, q, rest, ⟨ha1, ha2, hd, ht⟩, hl0, rfl⟩ := hs
    have hn : pd_sz (nI a) (64 * a) := ⟨a, rfl, rfl, ha2⟩
    exact ⟨_, _, _, _, _, _, rfl, dp_M (by decide) (c_drop_d l D tc b _ _ _ _ _ _ _ _ _ _ _ _ _ _ _ _ _ _ _ _), rfl, dp_M (by decide) (r_drop_d l D tc b _ _ _ _ _ _ _ _ _ _ _ _ _ _ _ _ _ _ _ _ _ _ _ _ _ _ _ _ _ _ _ _ _ _), fun _ => rfl, sm_dn t ⟨ha1, ha2, hd, ht⟩ hl0 rfl rfl rfl rfl rfl rfl rfl⟩
end SM
