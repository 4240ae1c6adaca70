/-! ===== printed by wip/pd_start.py: from the law's entry to its end, over any relation Sim ===== -/
theorem st_flags {l : Launch} (h : l.flags = flags0) : ∀ e : Env, l.admits e → e.platform.stackTraces = false := by
  intro e ha
  obtain ⟨-, -, -, -, hp, -⟩ := ha
  rw [hp]
  show Launch.stackTraces l = false
  unfold Launch.stackTraces
  rw [h]
  decide +kernel
theorem st_nw {b : Nat} {s : State} (hts : ∀ w ∈ lw_tbl, w.before #[Value.ref b] s = true) : ∀ w ∈ lw_tbl, am_isN w = true → va_Nw w s := by
  intro w hw hn
  have h := hts w hw
  cases w <;> first | (cases hn; done) | exact va_any rfl h | exact h
theorem st_arr {ty : ArrayType} {b : Nat} {s : State} (h : (Cond.arrayClass (newarray.typeOf ty)).before #[Value.ref b] s = true) : ∃ cA : ClassId, ArrOfT s cA (newarray.typeOf ty) ∧ s.vm.findClass ("[" ++ (newarray.typeOf ty).toString) = some cA := by
  obtain ⟨c, k, comp, h1, h2, h3⟩ := Cond.arrayClass_spec h
  exact ⟨c, fun n z => ⟨fun k h => (by cases h), k, h2, comp, h3⟩, h1⟩
set_option maxHeartbeats 4000000 in
set_option maxRecDepth 100000 in
theorem st_known {b : Nat} {s : State} (hts : ∀ w ∈ lw_tbl, w.before #[Value.ref b] s = true) : ∃ (D : va_G) (tc : Nat → ClassId), am_K lw_tbl vwCl D tc s := by
  obtain ⟨c0, iS0, hKn0⟩ := u_known (C := RX0) (T := TX0) (N := 5) (n := 5) hts (fun w hw => (List.mem_filter.mp (ucl_X0 w hw)).1) (hts (.instantiable RX0 5) (by decide +kernel))
  obtain ⟨c1, iS1, hKn1⟩ := u_known (C := RX1) (T := TX1) (N := 2) (n := 2) hts (fun w hw => (List.mem_filter.mp (ucl_X1 w hw)).1) (hts (.instantiable RX1 2) (by decide +kernel))
  obtain ⟨c2, iS2, hKn2⟩ := u_known (C := RX2) (T := TX2) (N := 5) (n := 5) hts (fun w hw => (List.mem_filter.mp (ucl_X2 w hw)).1) (hts (.instantiable RX2 5) (by decide +kernel))
  obtain ⟨c3, iS3, hKn3⟩ := u_known (C := RX3) (T := TX3) (N := 4) (n := 4) hts (fun w hw => (List.mem_filter.mp (ucl_X3 w hw)).1) (hts (.instantiable RX3 4) (by decide +kernel))
  obtain ⟨c4, iS4, hKn4⟩ := u_known (C := RX4) (T := TX4) (N := 6) (n := 6) hts (fun w hw => (List.mem_filter.mp (ucl_X4 w hw)).1) (hts (.instantiable RX4 6) (by decide +kernel))
  obtain ⟨c5, iS5, hKn5⟩ := u_known (C := RX5) (T := TX5) (N := 21) (n := 21) hts (fun w hw => (List.mem_filter.mp (ucl_X5 w hw)).1) (hts (.instantiable RX5 21) (by decide +kernel))
  obtain ⟨c6, iS6, hKn6⟩ := u_known (C := RJx00060) (T := TJx00060) (N := 0) (n := 6) hts (fun w hw => by simp [u_ws] at hw) (hts (.instantiable RJx00060 6) (by decide +kernel))
  obtain ⟨tb, htb⟩ := st_arr (ty := .byte) (hts _ ac_byte)
  obtain ⟨ti, hti⟩ := st_arr (ty := .int) (hts _ ac_int)
  obtain ⟨tz, htz⟩ := st_arr (ty := .boolean) (hts _ ac_boolean)
  obtain ⟨tl, htl⟩ := st_arr (ty := .long) (hts _ ac_long)
  refine ⟨(fun k => if k = 0 then c0 else if k = 1 then c1 else if k = 2 then c2 else if k = 3 then c3 else if k = 4 then c4 else if k = 5 then c5 else c6, fun k => if k = 0 then iS0 else if k = 1 then iS1 else if k = 2 then iS2 else if k = 3 then iS3 else if k = 4 then iS4 else if k = 5 then iS5 else iS6), fun k => if k = 0 then tb else if k = 1 then ti else if k = 2 then tz else tl, ⟨?_, ?_⟩, st_nw hts⟩
  · intro k q hq
    match k, hq with
    | 0, hq => cases hq; exact hKn0
    | 1, hq => cases hq; exact hKn1
    | 2, hq => cases hq; exact hKn2
    | 3, hq => cases hq; exact hKn3
    | 4, hq => cases hq; exact hKn4
    | 5, hq => cases hq; exact hKn5
    | 6, hq => cases hq; exact hKn6
    | k + 7, hq => simp [vwCl] at hq
  · intro k q hq
    match k, hq with
    | 0, hq => cases hq; exact htb
    | 1, hq => cases hq; exact hti
    | 2, hq => cases hq; exact htz
    | 3, hq => cases hq; exact htl
    | k + 4, hq => simp [am_ts] at hq
theorem st_Z {b : Nat} {s : State} (hts : ∀ w ∈ lw_tbl, w.before #[Value.ref b] s = true) (hgv : (Jvm.Cond.and given_1 narrow_1).before #[Value.ref b] s = true) : am_Z s.heap.size s := by
  have hs := flat_of_before _ hgv
  have hA : ∀ a : Nat, a < s.heap.size → ¬ s.heap.size ≤ a := fun a h => Nat.not_le.mpr h
  have h1 := hts (.laysStatic "java/lang/Throwable" "UNASSIGNED_STACK" "[Ljava/lang/StackTraceElement;") (by decide +kernel)
  have h2 := hts (.laysStatic "java/lang/Throwable" "SUPPRESSED_SENTINEL" "Ljava/util/List;") (by decide +kernel)
  have hi := hts (.initialized "java/lang/Throwable") (by decide +kernel)
  exact ⟨⟨va_Zqof h1 hi (hs _ (by decide +kernel)) hA, h1⟩, ⟨va_Zqof h2 hi (hs _ (by decide +kernel)) hA, h2⟩⟩
set_option maxHeartbeats 4000000 in
set_option maxRecDepth 100000 in
theorem st_whole {p : Program} {e : Env} {s : State} {m : MethodId} {below : List Frame} {meth : Method} {c : Code} (l : Launch) (Sim : Nat → am_W → Prop) {b L : Nat} {xs : Nat → Int32} (hL : L ≤ 2049) (C0 : lw_At p s m meth c b L xs) (hstay : ∀ n w, Sim n w → Sim (n + 1) w) (H_init : ∀ D tc b, lh_init l D tc b Sim) (H_add : ∀ D tc b, lh_add l D tc b Sim 2049) (H_end : ∀ D tc b, lh_end l D tc b Sim 2049) (H_sync : ∀ D tc b, lh_sync l D tc b Sim 2049) (H_merge : ∀ D tc b, lh_merge l D tc b Sim 2049) (H_drop : ∀ D tc b, lh_drop l D tc b Sim 2049) (H_cut : ∀ D tc b, lh_cut l D tc b Sim 2049) (H_start : ∀ D tc b, lh_start l D tc b Sim 2049) (H_count : ∀ D tc b, lh_count l D tc b Sim 2049) (H_row : ∀ D tc b, lh_row l D tc b Sim 2049) (H_at : ∀ D tc b, lh_at l D tc b Sim 2049) (H_wrong : ∀ D tc b, lh_wrong l D tc b Sim 2049) (H_poke : ∀ D tc b, lh_poke l D tc b Sim 2049) (H_octet : ∀ D tc b, lh_octet l D tc b Sim 2049) (H_writes : ∀ D tc b, lh_writes l D tc b Sim 2049) :
    W p l e room_1 s m #[Value.ref b] below meth c s.heap [] 0 0 (lw_Z below #[Value.ref b] s) (entryFrame m ([Value.ref b] : List Value).toArray 7) := by
  obtain ⟨hx, hb, hr, hml, hown, hts, hX, hbl, hlocks, hgv⟩ := id C0
  obtain ⟨D, tc, hK⟩ := st_known hts
  have hl := lv_entry ([Value.ref b]) (n := 7) (Nat.le_of_ble_eq_true rfl)
  rw [lg_entry_eq]
  generalize (lg_sl ([Value.ref b]) ++ List.replicate (7 - (lg_sl ([Value.ref b])).length) Slot.unset).toArray = ls at hl ⊢
  have hLs : am_L s.heap.size 7 [some (.retAddr b), none, none, none, none, none, none] ls := am_pad_L (b := s.heap.size) (nL := 7) (args := [.retAddr b]) (by intro v hv; rcases List.mem_singleton.mp hv with rfl; rfl) (Nat.le_of_ble_eq_true rfl) hl
  have hC : am_C lw_tbl vwCl D tc s.heap.size RL cL_law 7 (some .boolean) (false, c.exceptionTable.toList.map (fun h => (h.startPc, h.endPc, h.handlerPc, h.catchType))) p s m #[Value.ref b] meth c := ⟨hx, hb, hml, hr, fun h => (by cases h), hlocks, hown, fun w hw => hts w (List.mem_filter.mp hw).1, hK, Nat.le_refl _, st_Z hts hgv, rfl⟩
  have hH : am_H vwCl D tc s.heap.size [] s.heap := ⟨rfl, fun k q h => by simp [am_w] at h⟩
  have main : am_RQ lw_tbl vwCl l D tc s.heap.size RL cL_law 7 (some .boolean) (false, c.exceptionTable.toList.map (fun h => (h.startPc, h.endPc, h.handlerPc, h.catchType))) room_1 (sc_Q b L xs (fun args s' => args = #[Value.ref b] ∧ s'.heap.size = s.heap.size) (fun below args s => lw_Z below args s)) 0 0 0 [some (.retAddr b), none, none, none, none, none, none] [] [] := by
    refine law_entry hbl (by omega) (H_init D tc _) (fun w hw => ?_)
    exact law_loop (N := 2049) (CC := 601024) (SS := 7293000) hbl hL (by decide) hstay (H_add D tc _) (H_end D tc _) (H_sync D tc _) (H_merge D tc _) (H_drop D tc _) (H_cut D tc _) (H_start D tc _) (H_count D tc _) (H_row D tc _) (H_at D tc _) (H_wrong D tc _) (H_poke D tc _) (H_octet D tc _) (H_writes D tc _) (by decide) (by decide) (fun w L cells slots h1 h2 => law_fin w L cells slots h1 h2) 600 0 w none none _ _ hw (by decide) (by omega) (by decide) (by decide)
  intro T hT X0
  obtain ⟨t, a1, q⟩ := main p e s m #[Value.ref b] below meth c s.heap [] ls hC hH va_S.rf hLs T hT X0
  exact ⟨t, a1, q ⟨hX, rfl, rfl⟩⟩
