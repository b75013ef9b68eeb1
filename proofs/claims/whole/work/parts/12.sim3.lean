/-! new cells, array copies, Math, calls -/
theorem sm_e_new (G : sm_G) (S : am_S) (M : am_M) (kd : Nat × Nat) (n : Nat) {j : Nat} (hj : j ≤ am_n S) : sm_e G (am_new S kd n) (am_zr M (am_n S + 1)) j = sm_e G S M j := by
  have hne : ¬ j = S.2.1.1 + 1 := by have : am_n S = S.2.1.1 := rfl; omega
  have e1 : am_kd (am_new S kd n) j = am_kd S j := by
    unfold am_kd am_new
    have h1 : (0 < j ∧ j ≤ S.2.1.1 + 1) ↔ (0 < j ∧ j ≤ S.2.1.1) := by constructor <;> intro h <;> exact ⟨h.1, by omega⟩
    simp only [h1, if_neg hne]
  have e2 : ∀ x : Int, am_rf (am_new S kd n) j x = am_rf S j x := fun x => by unfold am_rf am_new; exact if_neg hne
  have e3 : ∀ x : Int, am_zr M (am_n S + 1) j x = M j x := fun x => by unfold am_zr; exact if_neg hne
  unfold sm_e sm_f
  simp only [e1, e2, e3]
theorem sm_kd_new (S : am_S) (kd : Nat × Nat) (n : Nat) : am_kd (am_new S kd n) (am_n S + 1) = kd := by
  unfold am_kd am_new
  have : 0 < am_n S + 1 ∧ am_n S + 1 ≤ S.2.1.1 + 1 := ⟨by omega, Nat.le_refl _⟩
  rw [if_pos this]
  exact if_pos rfl
theorem sm_w_new (G : sm_G) (S : am_S) (M : am_M) (kd : Nat × Nat) (n : Nat) : sm_w G (am_new S kd n) (am_zr M (am_n S + 1)) = sm_w G S M ++ [(sm_b G + (am_n S + 1), sm_e G (am_new S kd n) (am_zr M (am_n S + 1)) (am_n S + 1))] := by
  have hn : am_n (am_new S kd n) = am_n S + 1 := rfl
  unfold sm_w
  rw [hn, List.range_succ, List.map_append]
  congr 1
  apply List.map_congr_left
  intro k hk
  rw [sm_e_new G S M kd n (by have := List.mem_range.mp hk; omega)]
theorem sm_zr0 (M : am_M) (k : Nat) (j : Int) : am_zr M k k j = 0 := by unfold am_zr; exact if_pos rfl
theorem sm_rf0 (S : am_S) (kd : Nat × Nat) (n : Nat) (j : Int) : am_rf (am_new S kd n) (am_n S + 1) j = 0 := by unfold am_rf am_new; exact if_pos rfl
section SM3
variable {p : Program} {l : Launch} {e : Env} {R : Room} {s : State} {m : MethodId} {args : Array Value} {below : List Frame} {meth : Method} {c : Code} {Q : State → Prop} {G : sm_G} {z : Nat} {S0 : am_S} {Fin : am_Z} {pc : Nat} {ls : am_L} {st : am_K} {S : am_S} {M : am_M}
/-- behind a making: the new cell stands where the abstract one does -/
theorem sm_made (C : sm_C p R s m meth c G z S0 Fin) {H : Heap} {locs : List Loc} {A : Array Slot} (hs : sm_St s G z S0 ls S M H locs A) {kd : Nat × Nat} {n : Nat} {pc' : Nat}
    (kk : sm_W p l e R s m args below meth c Q G z S0 pc' ls (am_r (am_n S + 1) :: st) (am_new S kd n) (am_zr M (am_n S + 1))) {H1 : Heap} {q : Nat} {E : va_E} (hE : E = sm_e G (am_new S kd n) (am_zr M (am_n S + 1)) (am_n S + 1))
    (hP : va_P G.1 pg_cls (sm_w G S M ++ [(q, E)]) H1) (hD : va_D (sm_A G) (sm_w G S M ++ [(q, E)])) (hS : va_S (sm_A G) s.heap H1 locs) : W p l e R s m args below meth c H1 locs (am_n S - am_n S0 + 1) (am_sl S - am_sl S0 + n) Q (F0 m pc' A (.ref q :: st.map (sm_v G))) := by
  refine sm_size (fun hz => ?_)
  have hc := C.2.2.2.2.2.2.1
  have hle := hs.2.2.2.2.1
  have hle2 := hs.2.2.2.2.2.1
  have hlast : (sm_w G S M ++ [(q, E)])[am_n S]? = some (q, E) := by
    rw [List.getElem?_append_right (by rw [sm_w_len]; exact Nat.le_refl _), sm_w_len, Nat.sub_self]; rfl
  have hlt : q < H1.size := (hP _ _ hlast).lt
  have hA : sm_b G < q := hD.2 _ _ hlast
  have hne : ∀ j, j < am_n S → q ≠ sm_b G + (j + 1) := by
    intro j hj hq
    have g := sm_w_get (G := G) (S := S) (M := M) (k := j + 1) ⟨by omega, by omega⟩
    rw [show j + 1 - 1 = j by omega] at g
    have g2 : (sm_w G S M ++ [(q, E)])[j]? = some (sm_b G + (j + 1), sm_e G S M (j + 1)) := by
      rw [List.getElem?_append_left (by rw [sm_w_len]; exact hj)]; exact g
    have := hD.1 _ _ _ _ hlast g2 hq
    omega
  have hq : q = sm_b G + (am_n S + 1) := by
    rcases Nat.lt_or_ge q (sm_b G + (am_n S + 1)) with h1 | h1
    · exact absurd (by omega) (hne (q - sm_b G - 1) (by omega))
    · omega
  subst hq
  have hn1 : am_n (am_new S kd n) = am_n S + 1 := rfl
  have hn2 : am_sl (am_new S kd n) = am_sl S + n := rfl
  have k1 := kk H1 locs A ⟨by rw [sm_w_new, ← hE]; exact hP, by omega, hS, hs.2.2.2.1, by omega, by omega, hs.2.2.2.2.2.2⟩
  rw [hn1, hn2, List.map_cons, sm_v_r (by omega), show am_n S + 1 - am_n S0 = am_n S - am_n S0 + 1 by omega, show am_sl S + n - am_sl S0 = am_sl S - am_sl S0 + n by omega] at k1
  exact k1
theorem sm_room (C : sm_C p R s m meth c G z S0 Fin) {H : Heap} {locs : List Loc} {A : Array Slot} (hs : sm_St s G z S0 ls S M H locs A) {n : Nat} (h1 : am_n S + 1 ≤ am_n Fin.2.1) (h2 : am_sl S + n ≤ am_sl Fin.2.1) : am_n S - am_n S0 + 1 ≤ R.cells ∧ am_sl S - am_sl S0 + n ≤ R.slots := by
  have a := C.2.2.2.2.2.2.2.2.1
  have b := hs.2.2.2.2.1
  have d := hs.2.2.2.2.2.1
  exact ⟨by omega, by omega⟩
theorem sm_new (C : sm_C p R s m meth c G z S0 Fin) {q ci b : Nat} (h1 : am_n S + 1 ≤ am_n Fin.2.1) (h2 : am_sl S + b ≤ am_sl Fin.2.1) (hc : ci < 10) (hb : b = pg_nf ci) (hf : pg_nl.any (fun r => decide (r.1 = (pg_oc z, q, ci))) = true) (hd : decode (pg_c z) pc = .ok (.new q, 3))
    (kk : sm_W p l e R s m args below meth c Q G z S0 (pc + 3) ls (am_r (am_n S + 1) :: st) (am_new S (4, ci) b) (am_zr M (am_n S + 1))) : sm_W p l e R s m args below meth c Q G z S0 pc ls st S M := by
  intro H locs A hs
  subst hb
  obtain ⟨c1, c2, c3, c4, c5⟩ := sm_cls_ok ci hc
  obtain ⟨r1, r2⟩ := sm_room C hs h1 h2
  have hi : pg_il.any (fun q => decide (q.1 = ci)) = true := by
    have : ∀ ci, ci < 10 → pg_il.any (fun q => decide (q.1 = ci)) = true := by decide +kernel
    exact this ci hc
  have hz : pg_zl.any (fun q => decide (q.1 = ci)) = true := by
    have : ∀ ci, ci < 10 → pg_zl.any (fun q => decide (q.1 = ci)) = true := by decide +kernel
    exact this ci hc
  have hA : ∀ q, s.heap.size ≤ q → sm_A G q := fun q h => by have := C.2.2.2.2.2.2.1; show sm_b G < q; omega
  refine va_new (fs := sm_f G (am_new S (4, ci) (pg_nf ci)) (am_zr M (am_n S + 1)) ci (am_n S + 1)) C.1 C.2.1 (args := args) (Ts := u_ws (pg_cn ci) (pg_fT ci) (pg_nf ci)) (fun w hw => sm_tb C (c2 w hw) (sm_u_good w hw)) (fun w hw => hw) (pg_ft ci) c3 C.2.2.2.1 (sm_tb C (pg_key pg_nl_ok hf) rfl) (sm_tb C (pg_key pg_il_ok hi) rfl) (sm_tb C (pg_key pg_zl_ok hz) rfl) C.2.2.2.2.2.1.2.2.2 hs.1 (sm_D G S M) hs.2.2.1 hA c1 ?_ r1 r2 hd (fun q1 H1 hP1 hD1 hS1 => ?_)
  · intro j hj
    have hty : ∀ ci, ci < 10 → ∀ j, j < pg_nf ci → pg_isr ci j = true ∨ pg_ft ci j = .int ∨ pg_ft ci j = .boolean := by decide +kernel
    unfold vp_V
    rw [List.getD_eq_getElem?_getD, sm_f_get hj, sm_zr0, sm_rf0]
    rcases hty ci hc j hj with h | h | h
    · rw [if_pos h]
      unfold pg_isr at h
      cases hq : pg_ft ci j with
      | object n => rfl
      | array n => rfl
      | _ => rw [hq] at h; cases h
    · rw [if_neg (by unfold pg_isr; rw [h]; decide), h]; rfl
    · rw [if_neg (by unfold pg_isr; rw [h]; decide), h]; rfl
  · exact sm_made C hs kk (sm_e_obj (sm_kd_new S (4, ci) (pg_nf ci))).symm hP1 hD1 hS1
theorem sm_newa (C : sm_C p R s m meth c G z S0 Fin) {t : ArrayType} {a : Nat} {n : Int} (h : 0 ≤ n ∧ n ≤ 65536) (h1 : am_n S + 1 ≤ am_n Fin.2.1) (h2 : am_sl S + n.toNat ≤ am_sl Fin.2.1) (ht : (t = .int ∧ a = 0) ∨ (t = .boolean ∧ a = 1)) (hd : decode (pg_c z) pc = .ok (.newarray t, 2))
    (kk : sm_W p l e R s m args below meth c Q G z S0 (pc + 2) ls (am_r (am_n S + 1) :: st) (am_new S (a, n.toNat) n.toNat) (am_zr M (am_n S + 1))) : sm_W p l e R s m args below meth c Q G z S0 pc ls (am_i n :: st) S M := by
  intro H locs A hs
  obtain ⟨r1, r2⟩ := sm_room C hs h1 h2
  have hA : ∀ q, s.heap.size ≤ q → sm_A G q := fun q h => by have := C.2.2.2.2.2.2.1; show sm_b G < q; omega
  have hK := C.2.2.2.2.2.1.2.2.2
  have hz : (fun j : Nat => Int32.ofInt (am_zr M (am_n S + 1) (am_n S + 1) (j : Int))) = fun _ => 0 := by funext j; rw [sm_zr0]; rfl
  rcases ht with ⟨rfl, rfl⟩ | ⟨rfl, rfl⟩
  · refine va_newa (atype := .int) (ty := .int) (a0 := (n.toNat, .inl (fun _ => 0))) C.1 C.2.1 (sm_tb C pg_w_ci rfl) rfl hK hs.1 (sm_D G S M) hs.2.2.1 hA (fun cA => rfl) (sm_n0 h.1 (by omega)) (sm_cl h.1 (by omega)) (by show n.toNat * 4 ≤ 536870912; omega) r1 r2 hd (fun q cA H1 hK1 hP1 hD1 hS1 => ?_)
    have e1 : cA = G.2.1 0 := by
      have a1 := (hK1.2 4 (cA, .int) rfl).2
      have a2 := (hK.2 0 (G.2.1 0, .int) rfl).2
      exact Option.some.inj (a1.symm.trans a2)
    refine sm_made C hs kk ?_ hP1 hD1 hS1
    rw [sm_e_int (t := 0) (by rw [sm_kd_new]) (by omega), sm_kd_new, hz, e1]
  · refine va_newa (atype := .boolean) (ty := .boolean) (a0 := (n.toNat, .inl (fun _ => 0))) C.1 C.2.1 (sm_tb C pg_w_cz rfl) rfl hK hs.1 (sm_D G S M) hs.2.2.1 hA (fun cA => rfl) (sm_n0 h.1 (by omega)) (sm_cl h.1 (by omega)) (by show n.toNat * 1 ≤ 536870912; omega) r1 r2 hd (fun q cA H1 hK1 hP1 hD1 hS1 => ?_)
    have e1 : cA = G.2.1 1 := by
      have a1 := (hK1.2 4 (cA, .boolean) rfl).2
      have a2 := (hK.2 1 (G.2.1 1, .boolean) rfl).2
      exact Option.some.inj (a1.symm.trans a2)
    refine sm_made C hs kk ?_ hP1 hD1 hS1
    rw [sm_e_int (t := 1) (by rw [sm_kd_new]) (by omega), sm_kd_new, hz, e1]
theorem sm_anew (C : sm_C p R s m meth c G z S0 Fin) {q a : Nat} {n : Int} (h : 0 ≤ n ∧ n ≤ 65536) (h1 : am_n S + 1 ≤ am_n Fin.2.1) (h2 : am_sl S + n.toNat ≤ am_sl Fin.2.1) (hf : pg_ql.any (fun r => decide (r.1 = (pg_oc z, q, a))) = true) (ht : a = 2 ∨ a = 3) (hd : decode (pg_c z) pc = .ok (.anewarray q, 3))
    (kk : sm_W p l e R s m args below meth c Q G z S0 (pc + 3) ls (am_r (am_n S + 1) :: st) (am_new S (a, n.toNat) n.toNat) (am_zr M (am_n S + 1))) : sm_W p l e R s m args below meth c Q G z S0 pc ls (am_i n :: st) S M := by
  intro H locs A hs
  obtain ⟨r1, r2⟩ := sm_room C hs h1 h2
  have hA : ∀ q, s.heap.size ≤ q → sm_A G q := fun q h => by have := C.2.2.2.2.2.2.1; show sm_b G < q; omega
  have hK := C.2.2.2.2.2.1.2.2.2
  have hz : ∀ b, (fun j : Nat => sm_o G (am_rf (am_new S (b, n.toNat) n.toNat) (am_n S + 1) (j : Int))) = fun _ => none := fun b => by funext j; rw [sm_rf0]; rfl
  have hw := sm_tb (args := args) C (pg_key pg_ql_ok hf) rfl
  rcases ht with rfl | rfl
  · refine va_newq (C := "PersonLines$Life") C.1 C.2.1 C.2.2.2.1 hw C.2.2.2.2.2.1.2.1 hK hs.1 (sm_D G S M) hs.2.2.1 hA (sm_n0 h.1 (by omega)) (sm_cl h.1 (by omega)) (by omega) r1 r2 hd (fun q cA H1 hK1 hP1 hD1 hS1 => ?_)
    have e1 : cA = G.2.1 2 := by
      obtain ⟨_, _, _, _, _, a1⟩ := (hK1.2 4 (cA, .object "PersonLines$Life") rfl).2
      obtain ⟨_, _, _, _, _, a2⟩ := (hK.2 2 (G.2.1 2, .object "PersonLines$Life") rfl).2
      exact Option.some.inj (a1.symm.trans a2)
    refine sm_made C hs kk ?_ hP1 hD1 hS1
    rw [sm_e_ref (t := 2) (by rw [sm_kd_new]) (Or.inl rfl), sm_kd_new, hz, e1]
  · refine va_newq (C := "PersonLines$Image") C.1 C.2.1 C.2.2.2.1 hw C.2.2.2.2.2.1.2.2.1 hK hs.1 (sm_D G S M) hs.2.2.1 hA (sm_n0 h.1 (by omega)) (sm_cl h.1 (by omega)) (by omega) r1 r2 hd (fun q cA H1 hK1 hP1 hD1 hS1 => ?_)
    have e1 : cA = G.2.1 3 := by
      obtain ⟨_, _, _, _, _, a1⟩ := (hK1.2 4 (cA, .object "PersonLines$Image") rfl).2
      obtain ⟨_, _, _, _, _, a2⟩ := (hK.2 3 (G.2.1 3, .object "PersonLines$Image") rfl).2
      exact Option.some.inj (a1.symm.trans a2)
    refine sm_made C hs kk ?_ hP1 hD1 hS1
    rw [sm_e_ref (t := 3) (by rw [sm_kd_new]) (Or.inr rfl), sm_kd_new, hz, e1]
theorem sm_cats {G : sm_G} : ∀ {st : am_K} {n : Nat}, st.length ≤ n → ((st.map (sm_v G)).map fun v => v.category).sum ≤ 2 * n := by
  intro st
  induction st with
  | nil => intro n _; simp
  | cons v r ih =>
    intro n h
    rw [List.length_cons] at h
    have h1 := ih (n := n - 1) (by omega)
    have h2 : (sm_v G v).category ≤ 2 := by rcases lv_cat (sm_v G v) with q | q <;> omega
    simp only [List.map_cons, List.sum_cons]
    simp only [List.map_map] at h1 ⊢
    omega
theorem sm_copy (C : sm_C p R s m meth c G z S0 Fin) {q a d : Nat} {n dp sp : Int} (hr : st.length ≤ 4) (h : (am_kd S a).1 = 0 ∧ (am_kd S d).1 = 0 ∧ 0 ≤ sp ∧ 0 ≤ dp ∧ 0 ≤ n ∧ sp + n ≤ ((am_kd S a).2 : Int) ∧ dp + n ≤ ((am_kd S d).2 : Int) ∧ sp + n ≤ 2147483647 ∧ dp + n ≤ 2147483647) (hf : pg_al.any (fun r => decide (r.1 = (pg_oc z, q))) = true) (hh : 1 ≤ pg_ht z) (hd : decode (pg_c z) pc = .ok (.invokestatic q, 3))
    (kk : sm_W p l e R s m args below meth c Q G z S0 (pc + 3) ls st S (am_cp M a sp d dp n)) : sm_W p l e R s m args below meth c Q G z S0 pc ls (am_i n :: am_i dp :: am_r d :: am_i sp :: am_r a :: st) S M := by
  intro H locs A hs
  obtain ⟨k1, k2, p1, p2, p3, p4, p5, p6, p7⟩ := h
  have ha := sm_kd_in (S := S) (k := a) (by omega)
  have hb := sm_kd_in (S := S) (k := d) (by omega)
  have ga := sm_w_get (G := G) (S := S) (M := M) ha
  have gb := sm_w_get (G := G) (S := S) (M := M) hb
  rw [sm_e_int k1 (by omega)] at ga
  rw [sm_e_int k2 (by omega)] at gb
  simp only [List.map_cons, sm_v_r ha.1, sm_v_r hb.1]
  have hrm := C.2.2.2.2.2.2.2.1
  have hcat := sm_cats (G := G) hr
  refine va_copyi (ty := .int) C.1 C.2.1 (by rw [C.2.2.1, hs.2.2.2.1.1]) C.2.2.2.1 (sm_tb C (pg_key pg_al_ok hf) rfl) (sm_tb C pg_w_an rfl) (sm_tb C pg_w_as rfl) (sm_tb C pg_w_ai rfl) C.2.2.2.2.2.1.2.2.2 hs.1 (sm_D G S M) hs.2.2.1 (a - 1) (d - 1) 0 0 ga gb rfl rfl rfl (sm_n0 p1 (by omega)) (sm_n0 p2 (by omega)) (sm_n0 p3 (by omega)) (by rw [sm_cl p1 (by omega), sm_cl p3 (by omega)]; omega) (by rw [sm_cl p2 (by omega), sm_cl p3 (by omega)]; omega) (fun i _ => rfl) (by omega) (by show _ + 18 ≤ _; omega) hd (fun H1 locs1 hP1 _ hS1 => ?_)
  refine sm_stored C hs hb rfl rfl kk ?_ hS1
  have ev : va_cpy (fun j : Nat => Int32.ofInt (M a (j : Int))) (fun j : Nat => Int32.ofInt (M d (j : Int))) (Int32.ofInt sp).toNatClampNeg (Int32.ofInt dp).toNatClampNeg (Int32.ofInt n).toNatClampNeg = (fun j : Nat => Int32.ofInt (am_cp M a sp d dp n d (j : Int))) := by
    rw [sm_cl p1 (by omega), sm_cl p2 (by omega), sm_cl p3 (by omega)]
    funext j
    unfold va_cpy am_cp
    by_cases hj : dp.toNat ≤ j ∧ j < dp.toNat + n.toNat
    · rw [if_pos hj, if_pos ⟨rfl, by omega, by omega⟩]
      show Int32.ofInt (M a ((sp.toNat + (j - dp.toNat) : Nat) : Int)) = _
      rw [show ((sp.toNat + (j - dp.toNat) : Nat) : Int) = sp + ((j : Int) - dp) by omega]
    · rw [if_neg hj, if_neg (fun q => hj ⟨by omega, by omega⟩)]
  rw [ev, ← sm_e_int (G := G) (M := am_cp M a sp d dp n) k2 (by omega), sm_w_set rfl hb (fun j hj => sm_e_cp S M hj)] at hP1
  exact hP1
theorem sm_max (C : sm_C p R s m meth c G z S0 Fin) {q : Nat} {x y : Int} (hr : st.length ≤ 4) (h : am_Ri x ∧ am_Ri y) (h1 : am_n S ≤ am_n Fin.2.1) (h2 : am_sl S ≤ am_sl Fin.2.1) (hf : pg_xx.any (fun r => decide (r.1 = (pg_oc z, q))) = true) (hh : 1 ≤ pg_ht z) (hd : decode (pg_c z) pc = .ok (.invokestatic q, 3))
    (kk : sm_W p l e R s m args below meth c Q G z S0 (pc + 3) ls (am_i (max x y) :: st) S M) : sm_W p l e R s m args below meth c Q G z S0 pc ls (am_i y :: am_i x :: st) S M := by
  intro H locs A hs
  have hrm := C.2.2.2.2.2.2.2.1
  have hcr := C.2.2.2.2.2.2.2.2.1
  have hcat := sm_cats (G := G) hr
  have b1 := hs.2.2.2.2.1
  have b2 := hs.2.2.2.2.2.1
  refine va_mmax C.1 C.2.1 (by rw [C.2.2.1, hs.2.2.2.1.1]) C.2.2.2.1 (sm_tb C (pg_key pg_xx_ok hf) rfl) (sm_tb C pg_w_xs rfl) (sm_tb C pg_w_mi rfl) (sm_tb C pg_w_xc rfl) (by omega) (by omega) (by omega) (by omega) hd ?_
  have e1 : (if Int32.ofInt x < Int32.ofInt y then Int32.ofInt y else Int32.ofInt x) = Int32.ofInt (max x y) := by
    by_cases hxy : x < y
    · rw [if_pos ((sm_lt h.1 h.2).mpr hxy), show max x y = y by omega]
    · rw [if_neg (fun g => hxy ((sm_lt h.1 h.2).mp g)), show max x y = x by omega]
  rw [e1]
  exact kk H locs A hs
theorem sm_min (C : sm_C p R s m meth c G z S0 Fin) {q : Nat} {x y : Int} (hr : st.length ≤ 4) (h : am_Ri x ∧ am_Ri y) (h1 : am_n S ≤ am_n Fin.2.1) (h2 : am_sl S ≤ am_sl Fin.2.1) (hf : pg_xn.any (fun r => decide (r.1 = (pg_oc z, q))) = true) (hh : 1 ≤ pg_ht z) (hd : decode (pg_c z) pc = .ok (.invokestatic q, 3))
    (kk : sm_W p l e R s m args below meth c Q G z S0 (pc + 3) ls (am_i (min x y) :: st) S M) : sm_W p l e R s m args below meth c Q G z S0 pc ls (am_i y :: am_i x :: st) S M := by
  intro H locs A hs
  have hrm := C.2.2.2.2.2.2.2.1
  have hcr := C.2.2.2.2.2.2.2.2.1
  have hcat := sm_cats (G := G) hr
  have b1 := hs.2.2.2.2.1
  have b2 := hs.2.2.2.2.2.1
  refine va_mmin C.1 C.2.1 (by rw [C.2.2.1, hs.2.2.2.1.1]) C.2.2.2.1 (sm_tb C (pg_key pg_xn_ok hf) rfl) (sm_tb C pg_w_ns rfl) (sm_tb C pg_w_mi rfl) (sm_tb C pg_w_nc rfl) (by omega) (by omega) (by omega) (by omega) hd ?_
  have e1 : (if Int32.ofInt y < Int32.ofInt x then Int32.ofInt y else Int32.ofInt x) = Int32.ofInt (min x y) := by
    by_cases hxy : y < x
    · rw [if_pos ((sm_lt h.2 h.1).mpr hxy), show min x y = y by omega]
    · rw [if_neg (fun g => hxy ((sm_lt h.2 h.1).mp g)), show min x y = x by omega]
  rw [e1]
  exact kk H locs A hs
theorem sm_objinit (C : sm_C p R s m meth c G z S0 Fin) {q k : Nat} (hk : 0 < k) (hr : st.length ≤ 4) (hf : pg_ol.any (fun r => decide (r.1 = (pg_oc z, q))) = true) (hh : 1 ≤ pg_ht z) (hd : decode (pg_c z) pc = .ok (.invokespecial q, 3))
    (kk : sm_W p l e R s m args below meth c Q G z S0 (pc + 3) ls st S M) : sm_W p l e R s m args below meth c Q G z S0 pc ls (am_r k :: st) S M := by
  intro H locs A hs
  have hrm := C.2.2.2.2.2.2.2.1
  have hcat := sm_cats (G := G) hr
  rw [List.map_cons, sm_v_r hk]
  exact W.objInit C.1 C.2.1 C.2.2.2.1 (sm_tb C (pg_key pg_ol_ok hf) rfl) (sm_tb C pg_w_oi rfl) (sm_tb C pg_w_oc rfl) rfl (by show A.size = _; rw [C.2.2.1, hs.2.2.2.1.1]) rfl hd (by omega) (by show 2 * 0 + _ + 12 ≤ _; omega) (kk H locs A hs)
end SM3
