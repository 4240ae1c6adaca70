/-! ===== printed by wip/pd_sim.py: sync ===== -/
theorem xy_ks {K s : Nat} (so : Nat → Int32) (hK : K < 50) : hd_ks so (nI K) (nI s) = upd so K (nI s) ∧ hd_kk (nI K) = nI (K + 1) := by
  unfold hd_ks hd_kk hd_place
  have q1 := xb_lt0 (n := K) (by omega)
  have q2 : ¬ (50 : Int32) ≤ nI K := fun z => by
    have z : nI 50 ≤ nI K := z
    rw [xb_le (by omega) (by omega)] at z; omega
  rw [nI_clamp (by omega), nI_succ]
  simp [q1, q2]
theorem xy_so {K s : Nat} {so sO : Nat → Int32} (h : sm_so K so sO) (hK : K < 50) : sm_so (K + 1) (upd so K (nI s)) (upd sO (nI K).toNatClampNeg (nI s)) := by
  intro k hk
  rw [nI_clamp (by omega)]
  by_cases e : k = K
  · subst e; simp [upd]
  · simp only [upd, if_neg e]
    exact h k (by omega)
set_option maxHeartbeats 4000000 in
set_option maxRecDepth 100000 in
theorem xq_sync {a t E Z : Nat} {te ge gr go nx sz : Int32} {co le ma fI nu lE bs mA : Nat → Int32} (ha1 : 16 ≤ a) (ha2 : a ≤ 64) (hE1 : 1 ≤ E) (hE : E ≤ 50) (hZ : Z ≤ 40) (hleE : le E = nI Z) (hmA : ∀ i, i < Z → mA i = co (40 * E + i) &&& 255) (hnx : nx = gr + 1 + nI E) (hsz : sz = nI Z) (hrow : ∀ w, w < E → sm_row w gr co le ma fI nu lE bs) : ∀ (m k K : Nat) (so us g f sO d sh : Nat → Int32) (fi wr cu gR ga : Int32), k + m = E → K + m + 2 ≤ a → K + m ≤ 50 → sm_so K so sO → rf_secs sO K a → sm_disk a f d → sm_cut cu te go ga t → gR = gr + nI k → xq_out a te (nI t) fI nu lE bs mA (fun rest v w => syP rest (64 * a) (if 50 < nI a - 2 then 50 else nI a - 2) (nI a) te ge gr co le ma (nI E) m k (so, us, nI K, g, fi, f, wr, cu) v w) (fun c0 c1 c2 c3 c4 c5 c6 c7 c8 c9 c10 c11 rest v w => srP c0 c1 c2 c3 c4 c5 c6 c7 c8 c9 c10 c11 rest (nI a) go ge nx sz fI nu lE bs mA E t m k sO K gR d sh wr ga v w) := by
  intro m
  induction m with
  | zero =>
    intro k K so us g f sO d sh fi wr cu gR ga hk hKa hK5 hso hsec hd hcut hgR
    have hk : k = E := by omega
    subst hk
    subst hgR
    obtain ⟨q, hq, eq⟩ := xw_par2 (ge + 1)
    have ep : rf_par (ge + 1) = nI q := (xw_par (ge + 1)).trans eq
    have hg := xa_head hso hsec ha2 (by omega) (ge + 1) (gr + nI k) g sh
    cases hn : rf_now go ga
    · obtain ⟨h0, hcut2, hdk⟩ := xw_stay hcut hd ha2 hg (q := q) (by omega) hn
      refine xq_ok K 0 Z t (fun rest v w h => (syP_0 h).elim (fun z => z.2) (fun z => absurd z.1 h0)) (fun c0 c1 c2 c3 c4 c5 c6 c7 c8 c9 c10 c11 rest v w h => (srP_0 h).elim (fun z => absurd (hn.symm.trans z.1) (by decide)) (fun z => z.2)) ⟨ha1, ha2, by rw [eq, ep]; exact hdk, hcut2⟩ ⟨by omega, hsec, hso, Or.inl rfl, hZ, xw_rl hE hleE, fun i hi => ?_, by rw [hnx, nI_0, Int32.add_zero, Int32.add_assoc, Int32.add_assoc, Int32.add_comm 1 (nI k)], fun w hw => by omega⟩ rfl rfl rfl rfl rfl rfl hsz rfl
      rw [hmA i hi]
      have := xw_rc (co := co) hE1 hE hZ hleE i hi
      rw [show 40 * 0 + i = i by omega]
      exact this.symm
    · obtain ⟨h0, hwc, hdk⟩ := xw_lost hcut hd ha2 hg (q := q) (by omega) hn
      exact xq_lost t (fun rest v w h => (syP_0 h).elim (fun z => absurd h0 z.1) (fun z => z.2)) (fun c0 c1 c2 c3 c4 c5 c6 c7 c8 c9 c10 c11 rest v w h => (srP_0 h).elim (fun z => z.2) (fun z => absurd (hn.symm.trans z.1) (by decide))) ⟨ha1, ha2, by rw [eq, ep]; exact hdk, hcut.1⟩ (xw_el _) hwc rfl rfl rfl rfl rfl
  | succ m ih =>
    intro k K so us g f sO d sh fi wr cu gR ga hk hKa hK5 hso hsec hd hcut hgR
    obtain ⟨s, es, hs1, hs2, hs3, hs4⟩ := rf_free_room hsec (by omega) ha2 (by omega)
    have el : hd_lf (hd_us so (nI K) us) (nI a) 62 2 = nI s := by
      rw [xa_free hso hsec ha2 (by omega) (by omega) us (Nat.le_refl a) hs1 hs3 hs4, if_pos hs2]
    obtain ⟨r1, r2, r3, L, r4, r5, r6, r7⟩ := hrow k (by omega)
    have hg := xa_row (no := gr + 1 + nI k) (by omega) r4 r5 r6 r1 r2 r3 r7 g sh
    obtain ⟨eks, ekk⟩ := xy_ks (s := s) so (K := K) (by omega)
    cases hn : rf_now go ga
    · obtain ⟨h0, hcut2, hdk⟩ := xw_stay hcut hd ha2 hg (q := s) hs2 hn
      refine xq_mono (fun rest v w h => (syP_s h).elim (fun z => absurd z.1 h0) (fun z => z.2)) (fun c0 c1 c2 c3 c4 c5 c6 c7 c8 c9 c10 c11 rest v w h => (srP_s h).elim (fun z => absurd (hn.symm.trans z.1) (by decide)) (fun z => z.2)) ?_
      rw [el, eks, ekk, es]
      refine ih (k + 1) (K + 1) _ _ _ _ _ _ _ _ _ _ _ _ (by omega) (by omega) (by omega) (xy_so hso (by omega)) (hsec.put (by omega) hs1 hs2) hdk hcut2 ?_
      rw [nI_clamp (by omega), r3, nI_succ, Int32.add_assoc, Int32.add_comm 1 (nI k)]
    · obtain ⟨h0, hwc, hdk⟩ := xw_lost hcut hd ha2 hg (q := s) hs2 hn
      exact xq_lost t (fun rest v w h => (syP_s h).elim (fun z => z.2) (fun z => absurd h0 z.1)) (fun c0 c1 c2 c3 c4 c5 c6 c7 c8 c9 c10 c11 rest v w h => (srP_s h).elim (fun z => z.2) (fun z => absurd (hn.symm.trans z.1) (by decide))) ⟨ha1, ha2, by rw [el, es]; exact hdk, hcut.1⟩ (xw_el _) hwc rfl rfl rfl rfl rfl
