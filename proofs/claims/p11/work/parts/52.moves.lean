/-! ===== printed by wip/pd_sim.py: merge, drop ===== -/
theorem xm_lf (u : Nat → Int32) : hd_lf u (-1) 62 2 = -1 := by
  show hd_lf u (-1) (61 + 1) 2 = -1
  rw [hd_lf, show decide ((-1 : Int32) ≤ nI 2) = true from by decide]
  rfl
theorem xm_cp {a F : Nat} {f d : Nat → Int32} (hd : sm_disk a f d) (ha : a ≤ 64) (hF : F < a) (g sh : Nat → Int32) : ∀ m, m ≤ 64 → ∀ j, j < m → rf_cp sh d (nI F) m j = im_cp f (nI a) (nI F) g m j &&& 255 := by
  intro m
  induction m with
  | zero => intro _ j hj; omega
  | succ m ih =>
    intro hm j hj
    rw [rf_cp_s, im_cp_s, nI_clamp (n := m) (by omega), xb_ix (by omega) (by omega), xb_look hd ha hF (by omega), xs_set _ _ (by omega)]
    by_cases e : j = m
    · subst e
      simp only [upd, if_true]
      rw [xb_st, xb_id (hd.byte (by omega))]
    · simp only [upd, if_neg e]
      exact ih (by omega) j (by omega)
theorem sm_live.move {a K E Z : Nat} {so sO so2 sO2 : Nat → Int32} {gr nx : Int32} {co le ma fI nu lE bs mA : Nat → Int32} (h : sm_live a K E Z so sO gr nx co le ma fI nu lE bs mA) (h1 : rf_secs sO2 K a) (h2 : sm_so K so2 sO2) : sm_live a K E Z so2 sO2 gr nx co le ma fI nu lE bs mA := ⟨h.1, h1, h2, h.2.2.2⟩
theorem xm_place {j s : Nat} (so : Nat → Int32) (hj : j < 50) : hd_place so (nI j) (nI s) = upd so j (nI s) := by
  unfold hd_place
  have q1 := xb_lt0 (n := j) (by omega)
  have q2 : ¬ (50 : Int32) ≤ nI j := fun z => by
    have z : nI 50 ≤ nI j := z
    rw [xb_le (by omega) (by omega)] at z; omega
  rw [nI_clamp (by omega)]
  simp [q1, q2]
theorem xm_set {K i s : Nat} {so sO : Nat → Int32} (h : sm_so K so sO) : sm_so K (upd so i (nI s)) (upd sO i (nI s)) := by
  intro k hk
  by_cases e : k = i
  · subst e; simp [upd]
  · simp only [upd, if_neg e]
    exact h k hk
set_option maxHeartbeats 4000000 in
set_option maxRecDepth 100000 in
theorem xq_merge {a t K E Z : Nat} {te gr go nx : Int32} {co le ma fI nu lE bs mA : Nat → Int32} (ha1 : 16 ≤ a) (ha2 : a ≤ 64) : ∀ (m k : Nat) (so us g f sO d sh : Nat → Int32) (fi wr cu ge ga : Int32), sm_live a K E Z so sO gr nx co le ma fI nu lE bs mA → sm_disk a f d → sm_cut cu te go ga t → xq_out a te (nI t) fI nu lE bs mA (fun rest v w => mgP rest (64 * a) (if 50 < nI a - 2 then 50 else nI a - 2) (nI a) te (nI K) gr co le ma (nI E) m k (so, us, ge, f, g, fi, wr, cu) v w) (fun c0 c1 c2 c3 c4 c5 c6 c7 c8 c9 c10 c11 rest v w => mrP c0 c1 c2 c3 c4 c5 c6 c7 c8 c9 c10 c11 rest (nI a) go gr nx (nI E) (nI Z) fI nu lE bs mA K t m k sO ge d sh wr ga v w) := by
  intro m
  induction m with
  | zero =>
    intro k so us g f sO d sh fi wr cu ge ga hv hd hcut
    exact xq_ok K E Z t (fun rest v w h => mgP_0 h) (fun c0 c1 c2 c3 c4 c5 c6 c7 c8 c9 c10 c11 rest v w h => mrP_0 h) ⟨ha1, ha2, hd, hcut⟩ hv rfl rfl rfl rfl rfl rfl rfl rfl
  | succ m ih =>
    intro k so us g f sO d sh fi wr cu ge ga hv hd hcut
    have hK := hv.k
    have eK : (nI K).toNatClampNeg = K := nI_clamp (by omega)
    have elb := xa_last hv.sos hv.secs ha2 hK
    obtain ⟨s, es, hs1, hs2, hs3, hs4⟩ := rf_free_lt hv.secs hK ha2 (by omega)
    rcases rf_lb_is (so := sO) (K := K) K 0 (-1) (Nat.zero_add _) (Or.inl rfl) with hl | ⟨j, hj, hl⟩
    · have hl2 : hd_lb so (nI K) (nI K).toNatClampNeg = -1 := by rw [eK, ← elb]; exact hl
      have eT : hd_lf (hd_us so (nI K) us) (hd_sec so (nI K) (hd_lb so (nI K) (nI K).toNatClampNeg)) 62 2 = -1 := by rw [hl2, xa_sec1, xm_lf]
      exact xq_ok K E Z t (fun rest v w h => (mgP_s h).elim (fun z => z.2) (fun z => z.elim (fun z => absurd eT z.1) (fun z => z.elim (fun z => absurd eT z.1) (fun z => absurd eT z.1)))) (fun c0 c1 c2 c3 c4 c5 c6 c7 c8 c9 c10 c11 rest v w h => (mrP_s h).elim (fun z => z.2) (fun z => z.elim (fun z => absurd hl z.1.1) (fun z => z.elim (fun z => absurd hl z.1.1) (fun z => absurd hl z.1.1)))) ⟨ha1, ha2, hd, hcut⟩ hv rfl rfl rfl rfl rfl rfl rfl rfl
    · have hl2 : hd_lb so (nI K) (nI K).toNatClampNeg = nI j := by rw [eK, ← elb]; exact hl
      obtain ⟨F, eF, hF1, hF2⟩ := hv.secs j hj
      have eFr : hd_sec so (nI K) (nI j) = nI F := by rw [xa_sec so hK hj, hv.sos j hj, eF]
      have ej : (nI j).toNatClampNeg = j := nI_clamp (by omega)
      have eT0 := xa_free hv.sos hv.secs ha2 (by omega) hK us (B := F) (by omega) hs1 hs3 hs4
      have hne : ¬ s = F := by
        intro z
        subst z
        have := (rf_kept_iff (so := sO) (s := nI s) K 0 (by omega)).mpr ⟨j, Nat.zero_le _, by omega, eF⟩
        rw [hs3] at this
        cases this
      have hlm : ¬ rf_lb sO K 0 (-1) = -1 := by rw [hl]; exact xw_n1 (by omega)
      by_cases hsF : s < F
      · rw [if_pos hsF] at eT0
        have eT : hd_lf (hd_us so (nI K) us) (hd_sec so (nI K) (hd_lb so (nI K) (nI K).toNatClampNeg)) 62 2 = nI s := by rw [hl2, eFr, eT0]
        have hTm : ¬ hd_lf (hd_us so (nI K) us) (hd_sec so (nI K) (hd_lb so (nI K) (nI K).toNatClampNeg)) 62 2 = -1 := by rw [eT]; exact xw_n1 (by omega)
        have hle : rf_free sO K 62 2 ≤ sO (rf_lb sO K 0 (-1)).toNatClampNeg := by rw [es, hl, ej, eF]; exact (xb_le (by omega) (by omega)).mpr (by omega)
        have hg := xm_cp hd ha2 hF2 g sh 64 (Nat.le_refl _)
        cases hn : rf_now go ga
        · obtain ⟨h0, hcut2, hdk⟩ := xw_stay hcut hd ha2 hg (q := s) (by omega) hn
          have hsec2 : rf_secs (upd sO j (nI s)) K a := hv.secs.set hs1 (by omega)
          have hso2 : sm_so K (upd so j (nI s)) (upd sO j (nI s)) := xm_set hv.sos
          obtain ⟨q, hq, eq⟩ := xw_par2 (ge + 1)
          have ep : rf_par (ge + 1) = nI q := (xw_par (ge + 1)).trans eq
          have hg2 := xa_head hso2 hsec2 ha2 hK (ge + 1) gr (im_cp f (nI a) (nI F) g 64) (rf_cp sh d (nI F) 64)
          have epl := xm_place (s := s) so (j := j) (by omega)
          cases hn2 : rf_now go (rf_ga go ga)
          · obtain ⟨h02, hcut3, hdk2⟩ := xw_stay hcut2 hdk ha2 hg2 (q := q) (by omega) hn2
            refine xq_mono (fun rest v w h => (mgP_s h).elim (fun z => absurd z.1 hTm) (fun z => z.elim (fun z => absurd z.2.1 h0) (fun z => z.elim (fun z => absurd z.2.2.1 h02) (fun z => z.2.2.2)))) (fun c0 c1 c2 c3 c4 c5 c6 c7 c8 c9 c10 c11 rest v w h => (mrP_s h).elim (fun z => absurd z.1 (fun y => y.elim hlm (fun y => y hle))) (fun z => z.elim (fun z => absurd (hn.symm.trans z.2.1) (by decide)) (fun z => z.elim (fun z => absurd (hn2.symm.trans z.2.2.1) (by decide)) (fun z => z.2.2.2)))) ?_
            rw [hl2, eFr, eT0, epl, hl, ej, eF, es, eq, ep]
            exact ih (k + 1) _ _ _ _ _ _ _ _ _ _ _ _ (hv.move hsec2 hso2) hdk2 hcut3
          · obtain ⟨h02, hwc, hdk2⟩ := xw_lost hcut2 hdk ha2 hg2 (q := q) (by omega) hn2
            exact xq_lost t (fun rest v w h => (mgP_s h).elim (fun z => absurd z.1 hTm) (fun z => z.elim (fun z => absurd z.2.1 h0) (fun z => z.elim (fun z => z.2.2.2) (fun z => absurd h02 z.2.2.1)))) (fun c0 c1 c2 c3 c4 c5 c6 c7 c8 c9 c10 c11 rest v w h => (mrP_s h).elim (fun z => absurd z.1 (fun y => y.elim hlm (fun y => y hle))) (fun z => z.elim (fun z => absurd (hn.symm.trans z.2.1) (by decide)) (fun z => z.elim (fun z => z.2.2.2) (fun z => absurd (hn2.symm.trans z.2.2.1) (by decide))))) ⟨ha1, ha2, by rw [hl2, eFr, eT0, epl, hl, ej, eF, es, eq, ep]; exact hdk2, hcut.1⟩ (xw_el _) hwc rfl rfl rfl rfl rfl
        · obtain ⟨h0, hwc, hdk⟩ := xw_lost hcut hd ha2 hg (q := s) (by omega) hn
          exact xq_lost t (fun rest v w h => (mgP_s h).elim (fun z => absurd z.1 hTm) (fun z => z.elim (fun z => z.2.2) (fun z => z.elim (fun z => absurd h0 z.2.1) (fun z => absurd h0 z.2.1)))) (fun c0 c1 c2 c3 c4 c5 c6 c7 c8 c9 c10 c11 rest v w h => (mrP_s h).elim (fun z => absurd z.1 (fun y => y.elim hlm (fun y => y hle))) (fun z => z.elim (fun z => z.2.2) (fun z => z.elim (fun z => absurd (hn.symm.trans z.2.1) (by decide)) (fun z => absurd (hn.symm.trans z.2.1) (by decide))))) ⟨ha1, ha2, by rw [hl2, eFr, eT0, hl, ej, eF, es]; exact hdk, hcut.1⟩ (xw_el _) hwc rfl rfl rfl rfl rfl
      · rw [if_neg hsF] at eT0
        have eT : hd_lf (hd_us so (nI K) us) (hd_sec so (nI K) (hd_lb so (nI K) (nI K).toNatClampNeg)) 62 2 = -1 := by rw [hl2, eFr, eT0]
        have hle : ¬ rf_free sO K 62 2 ≤ sO (rf_lb sO K 0 (-1)).toNatClampNeg := by rw [es, hl, ej, eF, xb_le (by omega) (by omega)]; omega
        exact xq_ok K E Z t (fun rest v w h => (mgP_s h).elim (fun z => z.2) (fun z => z.elim (fun z => absurd eT z.1) (fun z => z.elim (fun z => absurd eT z.1) (fun z => absurd eT z.1)))) (fun c0 c1 c2 c3 c4 c5 c6 c7 c8 c9 c10 c11 rest v w h => (mrP_s h).elim (fun z => z.2) (fun z => z.elim (fun z => absurd z.1.2 hle) (fun z => z.elim (fun z => absurd z.1.2 hle) (fun z => absurd z.1.2 hle)))) ⟨ha1, ha2, hd, hcut⟩ hv rfl rfl rfl rfl rfl rfl rfl rfl
theorem xd_it {a K t : Nat} {f d so : Nat → Int32} {bf : Int32} (ha : a ≤ 64) (hK : K ≤ 50) (hd : sm_disk a f d) : ∀ (m k : Nat) (sO : Nat → Int32) (L : Nat), k + m = K → sm_so K (dr f (nI a) (nI K) bf so k).1 sO → (dr f (nI a) (nI K) bf so k).2 = nI L → L ≤ k → rf_secs sO K a → ∃ (sO2 : Nat → Int32) (L2 : Nat), sm_so K (dr f (nI a) (nI K) bf so K).1 sO2 ∧ (dr f (nI a) (nI K) bf so K).2 = nI L2 ∧ L2 ≤ K ∧ rf_secs sO2 K a ∧ ∀ (c0 c1 c2 c3 c4 c5 c6 c7 c8 c9 c10 c11 : am_E) (rest : am_W) (wr go ga ge gr nx wt sz : Int32) (fI nu lE bs mA sh : Nat → Int32) (v : Option Value) (w : am_W), rdP c0 c1 c2 c3 c4 c5 c6 c7 c8 c9 c10 c11 rest (nI a) wr go ga ge gr nx wt sz d fI nu lE bs mA sh bf K t m k sO L v w → rdP c0 c1 c2 c3 c4 c5 c6 c7 c8 c9 c10 c11 rest (nI a) wr go ga ge gr nx wt sz d fI nu lE bs mA sh bf K t 0 K sO2 L2 v w := by
  intro m
  induction m with
  | zero =>
    intro k sO L hk h1 h2 h3 h4
    have hk : k = K := by omega
    subst hk
    exact ⟨sO, L, h1, h2, h3, h4, fun _ _ _ _ _ _ _ _ _ _ _ _ _ _ _ _ _ _ _ _ _ _ _ _ _ _ _ _ _ h => h⟩
  | succ m ih =>
    intro k sO L hk h1 h2 h3 h4
    obtain ⟨s, es, hs1, hs2⟩ := h4 k (by omega)
    have esec : hd_sec (dr f (nI a) (nI K) bf so k).1 (nI K) (nI k) = nI s := by rw [xa_sec _ hK (by omega), h1 k (by omega), es]
    have ek : sO (nI k).toNatClampNeg = nI s := by rw [nI_clamp (by omega)]; exact es
    have edr := xb_drp hd ha hs2 bf
    cases ho : rf_out d bf (nI s)
    · have e : dr f (nI a) (nI K) bf so (k + 1) = (upd (dr f (nI a) (nI K) bf so k).1 L (nI s), nI (L + 1)) := by
        rw [dr_s, esec, edr, ho, h2, xm_place _ (by omega), nI_succ]
        rfl
      obtain ⟨sO2, L2, g1, g2, g3, g4, g5⟩ := ih (k + 1) (upd sO L (nI s)) (L + 1) (by omega) (by rw [e]; exact xm_set h1) (by rw [e]) (by omega) (h4.set hs1 hs2)
      refine ⟨sO2, L2, g1, g2, g3, g4, fun c0 c1 c2 c3 c4 c5 c6 c7 c8 c9 c10 c11 rest wr go ga ge gr nx wt sz fI nu lE bs mA sh v w h => g5 c0 c1 c2 c3 c4 c5 c6 c7 c8 c9 c10 c11 rest wr go ga ge gr nx wt sz fI nu lE bs mA sh v w ?_⟩
      rcases rdP_s h with z | z
      · rw [ek, ho] at z; exact absurd z.1 (by decide)
      · rw [ek, nI_clamp (n := L) (by omega)] at z; exact z.2
    · have e : dr f (nI a) (nI K) bf so (k + 1) = dr f (nI a) (nI K) bf so k := by
        rw [dr_s, esec, edr, ho]
        rfl
      obtain ⟨sO2, L2, g1, g2, g3, g4, g5⟩ := ih (k + 1) sO L (by omega) (by rw [e]; exact h1) (by rw [e]; exact h2) (by omega) h4
      refine ⟨sO2, L2, g1, g2, g3, g4, fun c0 c1 c2 c3 c4 c5 c6 c7 c8 c9 c10 c11 rest wr go ga ge gr nx wt sz fI nu lE bs mA sh v w h => g5 c0 c1 c2 c3 c4 c5 c6 c7 c8 c9 c10 c11 rest wr go ga ge gr nx wt sz fI nu lE bs mA sh v w ?_⟩
      rcases rdP_s h with z | z
      · exact z.2
      · rw [ek, ho] at z; exact absurd z.1 (by decide)
