/-! ===== a contract holds with more room below, too ===== -/
theorem dp_room {s : State} {pl : Platform} {r r' : Room} (hf : r.frames ≤ r'.frames) (hl : r.locals ≤ r'.locals) (hc : r.cells ≤ r'.cells) (hs : r.slots ≤ r'.slots) (h : s.hasRoom pl r' = true) : s.hasRoom pl r = true := by
  simp only [State.hasRoom, Bool.and_eq_true, decide_eq_true_eq] at h ⊢
  obtain ⟨⟨⟨⟨h1, h2, h3, h4, h5, h6⟩, h7⟩, h8⟩, h9⟩ := h
  exact ⟨⟨⟨⟨by omega, by omega, by omega, by omega, by omega, h6⟩, by omega⟩, by omega⟩, h9⟩
theorem dp_M {Tt : List Cond} {cl : List vw_C} {l : Launch} {D : va_G} {tc : Nat → ClassId} {b : Nat} {y : MethodName} {cc : ByteArray} {nL : Nat} {ret : Option FieldType} {d d' mc ms : Nat} {args : List Value} {w : am_W} {post : Option Value → am_W → Prop} (hd : d ≤ d') (k : am_M Tt cl l D tc b y cc nL ret d mc ms args w post) : am_M Tt cl l D tc b y cc nL ret d' mc ms args w post := by
  intro p e ha hcs hk s m args' below hfr happ hP hK
  obtain ⟨a1, a2, a3, a4, a5, a6, a7, a8⟩ := (Spec.appliesLoose_iff hfr).mp happ
  exact k p e ha hcs hk s m args' below hfr ((Spec.appliesLoose_iff hfr).mpr ⟨a1, a2, a3, a4, a5, a6, dp_room (r := am_rm d mc ms) (r' := am_rm d' mc ms) hd (Nat.mul_le_mul_left 30 hd) (Nat.le_refl _) (Nat.le_refl _) a7, a8⟩) hP hK
theorem dp_MW {Tt : List Cond} {cl : List vw_C} {l : Launch} {D : va_G} {tc : Nat → ClassId} {b : Nat} {y : MethodName} {cc : ByteArray} {nL : Nat} {ret : Option FieldType} {hh : List (Nat × Nat × Nat × Nat)} {d mc ms : Nat} {args : List Value} {w : am_W} {post post' : Option Value → am_W → Prop} (h : ∀ v w', post v w' → post' v w') (k : am_MW Tt cl l D tc b y cc nL ret hh d mc ms args w post) : am_MW Tt cl l D tc b y cc nL ret hh d mc ms args w post' := by
  intro p e ha hc hk s m args' below hf happ hpre hx
  obtain ⟨t, o, h1, h2, h3, ⟨v, w', e1, e2, e3⟩, h5⟩ := k p e ha hc hk s m args' below hf happ hpre hx
  exact ⟨t, o, h1, h2, h3, ⟨v, w', e1, h v w' e2, e3⟩, h5⟩
