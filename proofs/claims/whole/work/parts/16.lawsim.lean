/-! THE CLAIM OUT OF ONE WALK OF THE LAW'S BODY. Your part is whole_start (and what it stands on); all else here is the same for every law, but numbers. -/
def R_law : String := "PersonLinesLaw"
def lw_P (b : Addr) (xs : List Int32) (args : Array Value) (s : State) : Prop := args = #[.ref b] ∧ s.IntsAt b xs ∧ xs.length ≤ 256 ∧ (Jvm.Cond.and given_1 narrow_1).before args s = true
def lw_Q (_ : Array Value) (s : State) (o : Outcome) (t : State) : Prop := o = .returned (some (.int 1)) ∧ Framed s o t [] 600000 7302250
def lw_Z (below : List Frame) (a : Array Value) (s : State) : State → Prop := fun t => ∃ o, t.status = .running ∧ Ended t below o ∧ lw_Q a s o t
/-- the law's own end, with 1 on the stack, nothing written that was there before, its room as the claim has it -/
theorem lw_ret {p : Program} {l : Launch} {e : Env} {s : State} {m : MethodId} {below : List Frame} {meth : Method} {c : Code} {b : Nat} (hx : p.tables.exec = Jvm.exec) (hb : c.code = code) (hr : meth.sig.returnType = ret) (hlocks : meth.locks = false) {pc : Nat} {H : Heap} {ls : Array Slot} (hdg : decode code pc = .ok (.ireturn, 1)) : W p l e room_1 s m #[Value.ref b] below meth c H [] 600000 7302250 (lw_Z below #[Value.ref b] s) (F0 m pc ls [.int 1]) := by
  intro T hT X
  obtain ⟨fs, hret, hrun, hended, hW, hframe⟩ := X.leave (v := some (.int 1)) (hlocks := hlocks) (fun h => by rw [hr] at h; cases h)
  have hmeth' : T.vm.method? m = some meth := X.method'
  refine ⟨T.setFrames fs, ?_, .returned (some (.int 1)), hrun, hended, rfl, ⟨_, rfl⟩, hW, hframe⟩
  jvm_step X.here [X.here.top, hx, hb, hdg, hmeth', hr, ret, narrow_b1]
  (try refine ⟨rfl, ?_⟩); (try refine ⟨rfl, ?_⟩)
  first | (intro acts; rw [hret _ acts rfl rfl rfl]) | rw [hret _ _ rfl rfl rfl]
  exact Steps.refl _
/-- what holds at the law's entry: the machine, the code, the tables' words (any of lw_tbl by 'hts w (by decide +kernel)'), the script of L ints xs at the cell b, what the Statement gives of the start (any of its parts by flat_of_before) -/
def lw_At (p : Program) (s : State) (m : MethodId) (meth : Method) (c : Code) (b L : Nat) (xs : Nat → Int32) : Prop :=
  p.tables.exec = Jvm.exec ∧ c.code = code ∧ meth.sig.returnType = ret ∧ c.maxLocals = 4 ∧ s.vm.findClass R_law = some m.cls ∧ (∀ w ∈ lw_tbl, w.before #[Value.ref b] s = true) ∧ va_X b L xs s s.heap ∧ b < s.heap.size ∧ meth.locks = false ∧ (Jvm.Cond.and given_1 narrow_1).before #[Value.ref b] s = true
/-- the abstract start: nothing made yet -/
def lw_S0 (L : Nat) (xs : Int → Int) : am_S := ((L, xs), (0, 0), (fun _ => (0, 0)), (fun _ _ => 0))
theorem lw_K {s : State} {b : Nat} (hts : ∀ w ∈ lw_tbl, w.before #[Value.ref b] s = true) (q : Nat) : ∃ G : sm_G, sm_K G s ∧ sm_b G = q ∧ sm_sb G = b := by
  have hall : ∀ w ∈ lw_tbl, pg_gw w = true → ∀ a : Array Value, w.before a s = true := fun w hw hg a => sm_gw_moved hg (State.WarmedH.refl s) (hts w hw)
  have hk : ∀ c : Nat, ∃ d : ClassId × (Nat → Nat), c < 10 → u_Kn s (pg_cn c) (pg_fT c) (pg_nf c) d.1 d.2 := by
    intro c
    by_cases hc : c < 10
    · have hi : pg_il.any (fun q => decide (q.1 = c)) = true := by
        have : ∀ ci, ci < 10 → pg_il.any (fun q => decide (q.1 = ci)) = true := by decide +kernel
        exact this c hc
      obtain ⟨cC, iS, h⟩ := u_known (C := pg_cn c) (T := pg_fT c) (N := pg_nf c) (n := pg_nf c) hts (sm_cls_ok c hc).2.1 (hts _ (pg_key pg_il_ok hi))
      exact ⟨(cC, iS), fun _ => h⟩
    · exact ⟨(0, fun _ => 0), fun h => absurd h hc⟩
  obtain ⟨d, hd⟩ := Classical.axiomOfChoice hk
  have hAr : ∀ ty : FieldType, (Cond.arrayClass ty).before #[Value.ref b] s = true → (ty = .int ∨ ty = .boolean) → ∃ cA : ClassId, ArrOfT s cA ty ∧ va_RA s cA ty := by
    intro ty h hty
    obtain ⟨cA, kA, comp, h1, h2, h3⟩ := Cond.arrayClass_spec h
    refine ⟨cA, fun n z => ⟨fun k h => (by cases h), kA, h2, comp, h3⟩, ?_⟩
    rcases hty with rfl | rfl <;> exact h1
  have hOv : ∀ C : String, (Cond.arrayOver (.object C)).before #[Value.ref b] s = true → ∃ cA : ClassId, ArrOfT s cA (.object C) ∧ va_RA s cA (.object C) := by
    intro C h
    obtain ⟨comp, cA, kA, h1, h2, h3, h4, h5⟩ := Cond.arrayOver_spec h
    exact ⟨cA, fun n z => ⟨fun k h => (by cases h), kA, h3, comp, h4⟩, kA, comp, h3, h4, h1, h5⟩
  obtain ⟨a0, p0⟩ := hAr .int (hts _ pg_w_ci) (Or.inl rfl)
  obtain ⟨a1, p1⟩ := hAr .boolean (hts _ pg_w_cz) (Or.inr rfl)
  obtain ⟨a2, p2⟩ := hOv "PersonLines$Life" (hts _ pg_w_ol)
  obtain ⟨a3, p3⟩ := hOv "PersonLines$Image" (hts _ pg_w_om)
  refine ⟨((fun c => (d c).1, fun c => (d c).2), (fun k => if k = 0 then a0 else if k = 1 then a1 else if k = 2 then a2 else a3), q, b), ⟨hall, hts _ pg_w_ol, hts _ pg_w_om, ?_, ?_⟩, rfl, rfl⟩
  · intro c w hw
    have hc : c < 10 := by
      have h1 := (List.getElem?_eq_some_iff.mp hw).1
      exact h1
    have e := (sm_cls_ok c hc).1
    have e2 := Option.some.inj (hw.symm.trans e)
    rw [e2]
    exact hd c hc
  · intro k w hw
    match k, hw with
    | 0, hw => cases hw; exact p0
    | 1, hw => cases hw; exact p1
    | 2, hw => cases hw; exact p2
    | 3, hw => cases hw; exact p3
    | k + 4, hw => simp [sm_tys] at hw
/-- THE LAW'S WALK out of its abstract run -/
theorem lw_sim {p : Program} {e : Env} {s : State} {m : MethodId} {below : List Frame} {meth : Method} {c : Code} (l : Launch) {b L : Nat} {xs : Nat → Int32} (C0 : lw_At p s m meth c b L xs) {S' : am_S} {M' : am_M}
    (h : am_R 179 0 [some am_q, none, none, none] [] (lw_S0 L (fun j => (xs j.toNat).toInt)) (fun _ _ => 0) = some (some (am_i 1), S', M')) (h1 : am_n S' ≤ 600000) (h2 : am_sl S' ≤ 7302250) : W p l e room_1 s m #[Value.ref b] below meth c s.heap [] 0 0 (lw_Z below #[Value.ref b] s) (entryFrame m ([Value.ref b] : List Value).toArray 4) := by
  obtain ⟨hx, hb, hr, hml, hown, hts, hX, hbl, hlocks, hgv⟩ := id C0
  obtain ⟨G, hK, hG1, hG2⟩ := lw_K hts (s.heap.size - 1)
  obtain ⟨f, hf⟩ := am_R_ex h
  have hA : ∀ q, sm_A G q → s.heap.size ≤ q := fun q hq => by have hq : sm_b G < q := hq; omega
  have hXX : sm_X G (lw_S0 L (fun j => (xs j.toNat).toInt)) s s.heap := by
    refine ⟨?_, by omega⟩
    rw [hG2]
    have e1 : (fun j : Nat => Int32.ofInt (am_sx (lw_S0 L (fun j => (xs j.toNat).toInt)) (j : Int))) = xs := by
      funext j
      show Int32.ofInt ((xs ((j : Int).toNat)).toInt) = xs j
      rw [Int32.ofInt_toInt, Int.toNat_natCast]
    rw [e1]
    exact hX
  have C : sm_C p room_1 s m meth c G 179 (lw_S0 L (fun j => (xs j.toNat).toInt)) (some (am_i 1), S', M') :=
    ⟨hx, hb, hml, hown, fun h => absurd h (by decide), hK, by show s.heap.size = sm_b G + 0 + 1; omega, ⟨by decide, by decide⟩, ⟨by show am_n S' - 0 ≤ 600000; omega, by show am_sl S' - 0 ≤ 7302250; omega⟩, by omega, hXX⟩
  have hR : sm_Rt p l e room_1 s m #[Value.ref b] below meth c (lw_Z below #[Value.ref b] s) G 179 (lw_S0 L (fun j => (xs j.toNat).toInt)) (some (am_i 1), S', M') := by
    intro pc H locs A hP1 hz1 hS1
    refine ⟨fun x hx1 hrt hd => ?_, fun hx1 => by cases hx1⟩
    cases hx1
    refine va_forget (fun q hq => hA _ (hS1.2.2 q hq)) ?_
    refine W.widen (k := 600000) (n := 7302250) (by show am_n S' - 0 ≤ _; omega) (by show am_sl S' - 0 ≤ _; omega) ?_
    exact lw_ret hx hb hr hlocks hd
  have hE : sm_L G 179 (pg_ent 179 [am_q]) _ := sm_entry (G := G) (z := 179) (as := [am_q]) (by rfl)
  have ev : ([am_q] : List am_V).map (sm_v G) = [Value.ref b] := by show [Value.ref (sm_sb G)] = _; rw [hG2]
  rw [ev] at hE
  have key := sm_run C hR (fun y as S M r hc h1 h2 => sm_main l G (pg_ht y + 1) y (by omega) h1 as S M r hc) f 0 [some am_q, none, none, none] [] _ _ hf s.heap [] _ ⟨fun k q hk => by simp [sm_w, lw_S0, am_n] at hk, by show s.heap.size = sm_b G + 0 + 1; omega, va_S.rf, hE, Nat.le_refl _, Nat.le_refl _, rfl⟩
  rw [lg_entry_eq]
  exact key
