/-! mornings -/
/-- rows that are alike where there are persons and lines -/
def vEq (P : vP) (R R' : vR) : Prop := (∀ p q, 0 ≤ p → p < vnp P → 0 ≤ q → q < vnp P → vnr R p q = vnr R' p q) ∧ (∀ p, 0 ≤ p → p < vnp P → vgt R p = vgt R' p) ∧ (∀ l, 0 ≤ l → l < vnl P → ven R l = ven R' l) ∧ R.2.2.2 = R'.2.2.2
theorem vEq_rf {P : vP} {R : vR} : vEq P R R := ⟨fun _ _ _ _ _ _ => rfl, fun _ _ _ => rfl, fun _ _ _ => rfl, rfl⟩
theorem cR_eq {P : vP} {R R' : vR} {b : Nat} {M : am_M} (h : vEq P R R') (cr : cR P R b M) : cR P R' b M :=
  ⟨fun p q a c d e => (cr.1 p q a c d e).trans (h.1 p q a c d e), fun p a c => (cr.2.1 p a c).trans (h.2.1 p a c), fun l a c => (cr.2.2.1 l a c).trans (h.2.2.1 l a c), cr.2.2.2.1.trans (congrArg (fun t => t.1) h.2.2.2), cr.2.2.2.2.1.trans (congrArg (fun t => t.2.1) h.2.2.2), cr.2.2.2.2.2.trans (congrArg (fun t => t.2.2) h.2.2.2)⟩
theorem mR_eq {P : vP} {R R' : vR} {x : Int} {M : am_M} (h : vEq P R R') (mr : mR P R x M) : mR P R' x M :=
  ⟨fun p q a c d e => (mr.1 p q a c d e).trans (h.1 p q a c d e), fun p a c => (mr.2.1 p a c).trans (h.2.1 p a c), fun l a c => (mr.2.2.1 l a c).trans (h.2.2.1 l a c), mr.2.2.2.1.trans (congrArg (fun t => t.1) h.2.2.2), mr.2.2.2.2.1.trans (congrArg (fun t => t.2.1) h.2.2.2), mr.2.2.2.2.2.trans (congrArg (fun t => t.2.2) h.2.2.2)⟩
theorem cR_to {P : vP} {R R' : vR} {b : Nat} {M : am_M} (cr : cR P R b M) (h : vEq P R R') : cR P R' b M := cR_eq h cr
theorem mR_to {P : vP} {R R' : vR} {x : Int} {M : am_M} (mr : mR P R x M) (h : vEq P R R') : mR P R' x M := mR_eq h mr
/-- two who get nearer by a morning -/
def vcd (R : vR) (a c : Int) : Prop := a ≠ c ∧ vlv R a ∧ vlv R c ∧ vgt R a = vgt R c ∧ vnr R a c < 9
/-- those of D are one nearer -/
noncomputable def vnu (R : vR) (D : Int → Int → Prop) : vR := ((fun a c => am_cif (D a c) (vnr R a c + 1) (vnr R a c)), R.2)
/-- all who live go home -/
noncomputable def vsh (R : vR) : vR := (R.1, (fun p => am_cif (vlv R p) p (vgt R p)), R.2.2)
noncomputable def vdawn (R : vR) : vR := vSy (vsh (vnu R (vcd R))) (vdy R + 1)
/-- some two get nearer -/
def vwm (P : vP) (R : vR) : Prop := ∃ a c, 0 ≤ a ∧ a < vnp P ∧ 0 ≤ c ∧ c < vnp P ∧ vcd R a c
theorem vcd_sym {P : vP} {R : vR} {B : Int} (hR : okR P B R) {a c : Int} (h1 : 0 ≤ a) (h2 : a < vnp P) (h3 : 0 ≤ c) (h4 : c < vnp P) : vcd R a c ↔ vcd R c a := by
  have e := (hR.1 a c h1 h2 h3 h4).2.2
  unfold vcd
  rw [e]
  exact ⟨fun ⟨a1, a2, a3, a4, a5⟩ => ⟨fun q => a1 q.symm, a3, a2, a4.symm, a5⟩, fun ⟨a1, a2, a3, a4, a5⟩ => ⟨fun q => a1 q.symm, a3, a2, a4.symm, a5⟩⟩
theorem okR_nu {P : vP} {R : vR} {B : Int} (hR : okR P B R) {D : Int → Int → Prop} (hD : ∀ a c, D a c → vcd R a c) (hs : ∀ a c, 0 ≤ a → a < vnp P → 0 ≤ c → c < vnp P → (D a c ↔ D c a)) : okR P B (vnu R D) := by
  obtain ⟨a1, a2, a3⟩ := hR
  refine ⟨fun a c h1 h2 h3 h4 => ?_, fun a h1 h2 => ⟨?_, (a2 a h1 h2).2⟩, a3⟩
  · have k := a1 a c h1 h2 h3 h4
    show 0 ≤ am_cif (D a c) (vnr R a c + 1) (vnr R a c) ∧ am_cif (D a c) (vnr R a c + 1) (vnr R a c) ≤ 9 ∧ am_cif (D a c) (vnr R a c + 1) (vnr R a c) = am_cif (D c a) (vnr R c a + 1) (vnr R c a)
    by_cases hd : D a c
    · have k5 := (hD a c hd).2.2.2.2
      rw [am_cif_t hd, am_cif_t ((hs a c h1 h2 h3 h4).mp hd)]
      omega
    · rw [am_cif_f hd, am_cif_f (fun q => hd ((hs a c h1 h2 h3 h4).mpr q))]; exact k
  · show am_cif (D a a) (vnr R a a + 1) (vnr R a a) = 9
    rw [am_cif_f (fun q => (hD a a q).1 rfl)]; exact (a2 a h1 h2).1
theorem okR_sh {P : vP} {R : vR} {B : Int} (hR : okR P B R) : okR P B (vsh R) := by
  obtain ⟨a1, a2, a3⟩ := hR
  refine ⟨a1, fun p h1 h2 => ⟨(a2 p h1 h2).1, ?_⟩, a3⟩
  show 0 ≤ am_cif (vlv R p) p (vgt R p) ∧ am_cif (vlv R p) p (vgt R p) < vnp P
  by_cases h : vlv R p
  · rw [am_cif_t h]; exact ⟨h1, h2⟩
  · rw [am_cif_f h]; exact (a2 p h1 h2).2
theorem okR_dawn {P : vP} {R : vR} {B : Int} (hR : okR P B R) (hd : vdy R < 9030 + B) : okR P B (vdawn R) := by
  have b1 := hR.2.2.2.2.2.2
  refine okR_Sy (okR_sh (okR_nu hR (fun _ _ h => h) (fun a c h1 h2 h3 h4 => vcd_sym hR h1 h2 h3 h4))) ?_
  omega
/-- one more pair -/
theorem vnu_step {P : vP} {R : vR} {B : Int} (hR : okR P B R) {D D' : Int → Int → Prop} {p q : Int} (h1 : 0 ≤ p) (h2 : p < vnp P) (h3 : 0 ≤ q) (h4 : q < vnp P) (hc : vcd R p q) (hn : ¬ D p q) (hn2 : ¬ D q p) (hD : ∀ a c, 0 ≤ a → a < vnp P → 0 ≤ c → c < vnp P → (D' a c ↔ D a c ∨ (a = p ∧ c = q) ∨ (a = q ∧ c = p))) : vEq P (vbn (vnu R D) p q) (vnu R D') := by
  have e1 : vnr (vnu R D) p q = vnr R p q := am_cif_f hn
  have sy := (hR.1 p q h1 h2 h3 h4).2.2
  unfold vbn
  rw [e1, if_pos hc.2.2.2.2]
  refine ⟨fun a c k1 k2 k3 k4 => ?_, fun _ _ _ => rfl, fun _ _ _ => rfl, rfl⟩
  show (if (a = p ∧ c = q) ∨ (a = q ∧ c = p) then vnr R p q + 1 else am_cif (D a c) (vnr R a c + 1) (vnr R a c)) = am_cif (D' a c) (vnr R a c + 1) (vnr R a c)
  have hd := hD a c k1 k2 k3 k4
  by_cases h : (a = p ∧ c = q) ∨ (a = q ∧ c = p)
  · rw [if_pos h, am_cif_t (hd.mpr (Or.inr h))]
    rcases h with ⟨rfl, rfl⟩ | ⟨rfl, rfl⟩
    · rfl
    · rw [sy]
  · rw [if_neg h]
    by_cases g : D a c
    · rw [am_cif_t g, am_cif_t (hd.mpr (Or.inl g))]
    · rw [am_cif_f g, am_cif_f (fun w => (hd.mp w).elim g h)]
theorem vnu_same {P : vP} {R : vR} {D D' : Int → Int → Prop} (hD : ∀ a c, 0 ≤ a → a < vnp P → 0 ≤ c → c < vnp P → (D' a c ↔ D a c)) : vEq P (vnu R D) (vnu R D') := by
  refine ⟨fun a c k1 k2 k3 k4 => ?_, fun _ _ _ => rfl, fun _ _ _ => rfl, rfl⟩
  show am_cif (D a c) (vnr R a c + 1) (vnr R a c) = am_cif (D' a c) (vnr R a c + 1) (vnr R a c)
  have hd := hD a c k1 k2 k3 k4
  by_cases g : D a c
  · rw [am_cif_t g, am_cif_t (hd.mpr g)]
  · rw [am_cif_f g, am_cif_f (fun w => g (hd.mp w))]
/-- the pairs that the class has looked at, at (p, q) -/
def zc (p q a c : Int) : Prop := max a c < p ∨ (max a c = p ∧ min a c < q)
/-- the pairs that the reference has looked at -/
def zm (p q a c : Int) : Prop := min a c < p ∨ (min a c = p ∧ max a c < q)
section DAWN
variable {S : am_S} {P : vP} {B : Int} {b : Nat} {x : Int}
theorem k_sendHome (hS : ly S) (hb : lf b) (hP : okP P) {R : vR} {M : am_M} (cp : cP P M) (cr : cR P R b M) : ∃ M1, am_call 26 [am_r b] S M = some (none, S, M1) ∧ cR P (vsh R) b M1 ∧ fr b (b + 3) M M1 := by
  obtain ⟨li0, li1, li2, li3, li4, li5, li6, li7⟩ := hS.2.2.2.2.1 b hb
  obtain ⟨pl0, pl1, pl2, pl3, pl4, pl5, pl6, pl7, pl8⟩ := hS.2.1
  have hP1 := hP.1
  have hP2 := hP.2.1
  have hP3 := hP.2.2.1
  have hP4 := hP.2.2.2.1
  have hbb : 6 < b := by unfold lf at hb; omega
  have key : ∀ (n : Nat) (p : Int) (M' : am_M) (R' : vR), 0 ≤ p → p + n = vnp P → cP P M' → cR P R' b M' → R'.2.2 = R.2.2 → ∃ M1, am_R 26 2 [some (am_r b), some (am_i p)] [] S M' = some (none, S, M1) ∧ cR P (R'.1, (fun q => am_cif (vlv R q ∧ p ≤ q) q (vgt R' q)), R'.2.2) b M1 ∧ fr b (b + 3) M' M1 := by
    intro n
    induction n with
    | zero =>
      intro p M' R' hp hn cp' cr' hr
      have c1 := cp'.1
      refine ⟨M', ?_, ?_, fr_rf⟩
      · rw [b_Li_sendHome_2]
        simp (disch := omega) only [b_Li_sendHome_34, li0, li1, li2, li3, li4, li5, li6, li7, pl0, pl1, pl2, pl3, pl4, pl5, pl6, pl7, pl8, c1, am_ck_T, am_ck_t, am_cif_t, am_cif_f, am_cif_T, am_cif_F, am_then_s, am_push_s, am_push_n, true_and, and_true, true_or, or_true, Int.cast_ofNat_Int, am_02, am_22, not_true_eq_false, not_false_eq_true]
      · refine cR_to cr' ⟨fun _ _ _ _ _ _ => rfl, fun q k1 k2 => ?_, fun _ _ _ => rfl, rfl⟩
        show vgt R' q = am_cif _ q (vgt R' q)
        rw [am_cif_f (fun w => by have := w.2; omega)]
    | succ n ih =>
      intro p M' R' hp hn cp' cr' hr
      have c1 := cp'.1
      have lv := k_lives hS hb cr' p
      have e : vlv R' p = vlv R p := by unfold vlv vdd; rw [hr]
      rw [e] at lv
      by_cases h : vlv R p
      · obtain ⟨M1, d1, d2, d3⟩ := ih (p + 1) (am_wr M' (b + 2) p p) (vSg R' p p) (by omega) (by omega) (cP_fr (fr_wr (lo := b) (hi := b + 3) (by omega)) hbb cp') (cR_Sg cr' p p) hr
        refine ⟨M1, ?_, ?_, fr_tr (fr_wr (by omega)) d3⟩
        · rw [b_Li_sendHome_2]
          simp (disch := omega) only [b_Li_sendHome_13, b_Li_sendHome_18, b_Li_sendHome_21, b_Li_sendHome_28, li0, li1, li2, li3, li4, li5, li6, li7, pl0, pl1, pl2, pl3, pl4, pl5, pl6, pl7, pl8, c1, lv, bo_t h, d1, am_ck_T, am_ck_t, am_cif_t, am_cif_f, am_cif_T, am_cif_F, am_then_s, am_push_s, am_push_n, true_and, and_true, true_or, or_true, Int.cast_ofNat_Int, am_02, am_22, not_true_eq_false, not_false_eq_true]
        · refine cR_to d2 ⟨fun _ _ _ _ _ _ => rfl, fun q k1 k2 => ?_, fun _ _ _ => rfl, rfl⟩
          show am_cif (vlv R q ∧ p + 1 ≤ q) q (if q = p then p else vgt R' q) = am_cif (vlv R q ∧ p ≤ q) q (vgt R' q)
          by_cases hq : q = p
          · subst hq
            rw [am_cif_f (fun w => by have := w.2; omega), if_pos rfl, am_cif_t ⟨h, by omega⟩]
          · rw [if_neg hq]
            by_cases hl : vlv R q ∧ p ≤ q
            · rw [am_cif_t hl, am_cif_t ⟨hl.1, by have := hl.2; omega⟩]
            · rw [am_cif_f hl, am_cif_f (fun w => hl ⟨w.1, by have := w.2; omega⟩)]
      · obtain ⟨M1, d1, d2, d3⟩ := ih (p + 1) M' R' (by omega) (by omega) cp' cr' hr
        refine ⟨M1, ?_, ?_, d3⟩
        · rw [b_Li_sendHome_2]
          simp (disch := omega) only [b_Li_sendHome_13, b_Li_sendHome_18, b_Li_sendHome_28, li0, li1, li2, li3, li4, li5, li6, li7, pl0, pl1, pl2, pl3, pl4, pl5, pl6, pl7, pl8, c1, lv, bo_f h, d1, am_ck_T, am_ck_t, am_cif_t, am_cif_f, am_cif_T, am_cif_F, am_then_s, am_push_s, am_push_n, true_and, and_true, true_or, or_true, Int.cast_ofNat_Int, am_02, am_22, not_true_eq_false, not_false_eq_true]
        · refine cR_to d2 ⟨fun _ _ _ _ _ _ => rfl, fun q k1 k2 => ?_, fun _ _ _ => rfl, rfl⟩
          show am_cif (vlv R q ∧ p + 1 ≤ q) q (vgt R' q) = am_cif (vlv R q ∧ p ≤ q) q (vgt R' q)
          by_cases hl : vlv R q ∧ p ≤ q
          · rw [am_cif_t hl, am_cif_t ⟨hl.1, by have h9 : q ≠ p := fun w => h (w ▸ hl.1); have := hl.2; omega⟩]
          · rw [am_cif_f hl, am_cif_f (fun w => hl ⟨w.1, by have := w.2; omega⟩)]
  obtain ⟨M1, d1, d2, d3⟩ := key (vnp P).toNat 0 M R (by omega) (by omega) cp cr rfl
  refine ⟨M1, by rw [c_Li_sendHome, b_Li_sendHome_0]; exact d1, ?_, d3⟩
  refine cR_to d2 ⟨fun _ _ _ _ _ _ => rfl, fun q k1 k2 => ?_, fun _ _ _ => rfl, rfl⟩
  show am_cif (vlv R q ∧ 0 ≤ q) q (vgt R q) = am_cif (vlv R q) q (vgt R q)
  by_cases h : vlv R q
  · rw [am_cif_t h, am_cif_t ⟨h, k1⟩]
  · rw [am_cif_f h, am_cif_f (fun w => h w.1)]
/-- the class's inner loop -/
theorem k_dawn_in (hS : ly S) (hb : lf b) (hP : okP P) {R : vR} (hR : okR P B R) {p : Int} (hp : 0 ≤ p) (hp2 : p < vnp P) : ∀ (n : Nat) (q : Int) (M : am_M) (w : Prop), 0 ≤ q → q + n = p → cP P M → cR P (vnu R (fun a c => vcd R a c ∧ zc p q a c)) b M → (w ↔ ∃ a c, 0 ≤ a ∧ a < vnp P ∧ 0 ≤ c ∧ c < vnp P ∧ vcd R a c ∧ zc p q a c) →
    ∃ (M1 : am_M) (w1 : Prop), am_R 25 17 [some (am_r b), some (am_i (bo w)), some (am_i p), some (am_i q)] [] S M = am_R 25 4 [some (am_r b), some (am_i (bo w1)), some (am_i (p + 1)), some (am_i p)] [] S M1 ∧ cR P (vnu R (fun a c => vcd R a c ∧ zc (p + 1) 0 a c)) b M1 ∧ fr b (b + 3) M M1 ∧ (w1 ↔ ∃ a c, 0 ≤ a ∧ a < vnp P ∧ 0 ≤ c ∧ c < vnp P ∧ vcd R a c ∧ zc (p + 1) 0 a c) := by
  obtain ⟨li0, li1, li2, li3, li4, li5, li6, li7⟩ := hS.2.2.2.2.1 b hb
  obtain ⟨pl0, pl1, pl2, pl3, pl4, pl5, pl6, pl7, pl8⟩ := hS.2.1
  have hP1 := hP.1
  have hP2 := hP.2.1
  have hP3 := hP.2.2.1
  have hP4 := hP.2.2.2.1
  have hbb : 6 < b := by unfold lf at hb; omega
  have hz : ∀ a c, 0 ≤ a → 0 ≤ c → vcd R a c → (zc p p a c ↔ zc (p + 1) 0 a c) := by
    intro a c h1 h2 hc
    have := hc.1
    unfold zc
    omega
  intro n
  induction n with
  | zero =>
    intro q M w hq hn cp cr hw
    obtain rfl : q = p := by omega
    refine ⟨M, w, ?_, ?_, fr_rf, ?_⟩
    · rw [b_Li_dawn_17]
      simp (disch := omega) only [b_Li_dawn_70, am_ck_T, am_ck_t, am_cif_t, am_cif_f, am_cif_T, am_cif_F, am_then_s, am_push_s, am_push_n, true_and, and_true, true_or, or_true, Int.cast_ofNat_Int, am_02, am_22, not_true_eq_false, not_false_eq_true]
    · exact cR_eq (vnu_same (fun a c h1 h2 h3 h4 => ⟨fun g => ⟨g.1, (hz a c h1 h3 g.1).mpr g.2⟩, fun g => ⟨g.1, (hz a c h1 h3 g.1).mp g.2⟩⟩)) cr
    · rw [hw]
      exact ⟨fun ⟨a, c, h1, h2, h3, h4, h5, h6⟩ => ⟨a, c, h1, h2, h3, h4, h5, (hz a c h1 h3 h5).mp h6⟩, fun ⟨a, c, h1, h2, h3, h4, h5, h6⟩ => ⟨a, c, h1, h2, h3, h4, h5, (hz a c h1 h3 h5).mpr h6⟩⟩
  | succ n ih =>
    intro q M w hq hn cp cr hw
    have hD : ∀ a c, 0 ≤ a → a < vnp P → 0 ≤ c → c < vnp P → ((vcd R a c ∧ zc p (q + 1) a c) ↔ ((vcd R a c ∧ zc p q a c) ∨ (vcd R p q ∧ ((a = p ∧ c = q) ∨ (a = q ∧ c = p))))) := by
      intro a c h1 h2 h3 h4
      constructor
      · intro g
        by_cases e : (a = p ∧ c = q) ∨ (a = q ∧ c = p)
        · refine Or.inr ⟨?_, e⟩
          rcases e with ⟨rfl, rfl⟩ | ⟨rfl, rfl⟩
          · exact g.1
          · exact (vcd_sym hR h1 h2 h3 h4).mp g.1
        · exact Or.inl ⟨g.1, by have g2 := g.2; unfold zc at g2 ⊢; omega⟩
      · rintro (g | ⟨g, ⟨rfl, rfl⟩ | ⟨rfl, rfl⟩⟩)
        · exact ⟨g.1, by have g2 := g.2; unfold zc at g2 ⊢; omega⟩
        · exact ⟨g, by unfold zc; omega⟩
        · exact ⟨(vcd_sym hR h3 h4 h1 h2).mp g, by unfold zc; omega⟩
    have lp := k_lives hS hb cr p
    have lq := k_lives hS hb cr q
    have lp' : vlv (vnu R (fun a c => vcd R a c ∧ zc p q a c)) p = vlv R p := rfl
    have lq' : vlv (vnu R (fun a c => vcd R a c ∧ zc p q a c)) q = vlv R q := rfl
    rw [lp'] at lp
    rw [lq'] at lq
    have gp := cr.2.1 p hp hp2
    have gq := cr.2.1 q hq (by omega)
    have gp : M (b + 2) p = vgt R p := gp
    have gq : M (b + 2) q = vgt R q := gq
    have rp := (hR.2.1 p hp hp2).2
    have rq := (hR.2.1 q hq (by omega)).2
    have hnz : ¬ zc p q p q := by unfold zc; omega
    have hnz2 : ¬ zc p q q p := by unfold zc; omega
    by_cases hc : vcd R p q
    · have okn : okR P B (vnu R (fun a c => vcd R a c ∧ zc p q a c)) := okR_nu hR (fun _ _ h => h.1) (fun a c h1 h2 h3 h4 => ⟨fun g => ⟨(vcd_sym hR h1 h2 h3 h4).mp g.1, by have := g.2; unfold zc at this ⊢; omega⟩, fun g => ⟨(vcd_sym hR h1 h2 h3 h4).mpr g.1, by have := g.2; unfold zc at this ⊢; omega⟩⟩)
      obtain ⟨M1, d1, d2, d3⟩ := k_bn hS hb hP okn cr hp hp2 hq (by omega)
      have e1 : vnr (vnu R (fun a c => vcd R a c ∧ zc p q a c)) p q = vnr R p q := am_cif_f (fun g => hnz g.2)
      rw [e1, bo_t hc.2.2.2.2] at d1
      have d4 := cR_eq (vnu_step (D' := fun a c => vcd R a c ∧ zc p (q + 1) a c) hR hp hp2 hq (by omega) hc (fun g => hnz g.2) (fun g => hnz2 g.2) (fun a c h1 h2 h3 h4 => (hD a c h1 h2 h3 h4).trans ⟨fun g => g.elim Or.inl (fun g => Or.inr g.2), fun g => g.elim Or.inl (fun g => Or.inr ⟨hc, g⟩)⟩)) d2
      obtain ⟨M2, w2, f1, f2, f3, f4⟩ := ih (q + 1) M1 True (by omega) (by omega) (cP_fr d3 hbb cp) d4 ⟨fun _ => ⟨p, q, hp, hp2, hq, by omega, hc, by unfold zc; omega⟩, fun _ => trivial⟩
      rw [bo_t trivial] at f1
      refine ⟨M2, w2, ?_, f2, fr_tr d3 f3, f4⟩
      obtain ⟨hc1, hc2, hc3, hc4, hc5⟩ := hc
      rw [b_Li_dawn_17]
      simp (disch := omega) only [b_Li_dawn_22, b_Li_dawn_27, b_Li_dawn_30, b_Li_dawn_35, b_Li_dawn_38, b_Li_dawn_53, b_Li_dawn_59, b_Li_dawn_62, b_Li_dawn_64, li0, li1, li2, li3, li4, li5, li6, li7, pl0, pl1, pl2, pl3, pl4, pl5, pl6, pl7, pl8, lp, lq, bo_t hc2, bo_t hc3, gp, gq, hc4, d1, f1, am_ck_T, am_ck_t, am_cif_t, am_cif_f, am_cif_T, am_cif_F, am_then_s, am_push_s, am_push_n, true_and, and_true, true_or, or_true, Int.cast_ofNat_Int, am_02, am_22, not_true_eq_false, not_false_eq_true]
    · have d4 := cR_eq (vnu_same (D' := fun a c => vcd R a c ∧ zc p (q + 1) a c) (fun a c h1 h2 h3 h4 => (hD a c h1 h2 h3 h4).trans ⟨fun g => g.elim id (fun g => absurd g.1 hc), Or.inl⟩)) cr
      have hw' : w ↔ ∃ a c, 0 ≤ a ∧ a < vnp P ∧ 0 ≤ c ∧ c < vnp P ∧ vcd R a c ∧ zc p (q + 1) a c := by
        rw [hw]
        exact ⟨fun ⟨a, c, h1, h2, h3, h4, h5⟩ => ⟨a, c, h1, h2, h3, h4, (hD a c h1 h2 h3 h4).mpr (Or.inl h5)⟩, fun ⟨a, c, h1, h2, h3, h4, h5⟩ => ⟨a, c, h1, h2, h3, h4, ((hD a c h1 h2 h3 h4).mp h5).elim id (fun g => absurd g.1 hc)⟩⟩
      obtain ⟨M2, w2, f1, f2, f3, f4⟩ := ih (q + 1) M w (by omega) (by omega) cp d4 hw'
      by_cases l1 : vlv R p
      · by_cases l2 : vlv R q
        · by_cases l3 : vgt R p = vgt R q
          · obtain ⟨M1, d1, d2, d3⟩ := k_bn hS hb hP (okR_nu hR (D := fun a c => vcd R a c ∧ zc p q a c) (fun _ _ h => h.1) (fun a c h1 h2 h3 h4 => ⟨fun g => ⟨(vcd_sym hR h1 h2 h3 h4).mp g.1, by have := g.2; unfold zc at this ⊢; omega⟩, fun g => ⟨(vcd_sym hR h1 h2 h3 h4).mpr g.1, by have := g.2; unfold zc at this ⊢; omega⟩⟩)) cr hp hp2 hq (by omega)
            have e1 : vnr (vnu R (fun a c => vcd R a c ∧ zc p q a c)) p q = vnr R p q := am_cif_f (fun g => hnz g.2)
            have n9 : ¬ vnr R p q < 9 := fun g => hc ⟨by omega, l1, l2, l3, g⟩
            have db : vbn (vnu R (fun a c => vcd R a c ∧ zc p q a c)) p q = vnu R (fun a c => vcd R a c ∧ zc p q a c) := by unfold vbn; rw [e1, if_neg n9]
            rw [e1, bo_f n9] at d1
            rw [db] at d2
            obtain ⟨M3, w3, g1, g2, g3, g4⟩ := ih (q + 1) M1 w (by omega) (by omega) (cP_fr d3 hbb cp) (cR_eq (vnu_same (D' := fun a c => vcd R a c ∧ zc p (q + 1) a c) (fun a c h1 h2 h3 h4 => (hD a c h1 h2 h3 h4).trans ⟨fun g => g.elim id (fun g => absurd g.1 hc), Or.inl⟩)) d2) hw'
            refine ⟨M3, w3, ?_, g2, fr_tr d3 g3, g4⟩
            rw [b_Li_dawn_17]
            simp (disch := omega) only [b_Li_dawn_22, b_Li_dawn_27, b_Li_dawn_30, b_Li_dawn_35, b_Li_dawn_38, b_Li_dawn_53, b_Li_dawn_59, b_Li_dawn_64, li0, li1, li2, li3, li4, li5, li6, li7, pl0, pl1, pl2, pl3, pl4, pl5, pl6, pl7, pl8, lp, lq, bo_t l1, bo_t l2, gp, gq, l3, d1, g1, am_ck_T, am_ck_t, am_cif_t, am_cif_f, am_cif_T, am_cif_F, am_then_s, am_push_s, am_push_n, true_and, and_true, true_or, or_true, Int.cast_ofNat_Int, am_02, am_22, not_true_eq_false, not_false_eq_true]
          · refine ⟨M2, w2, ?_, f2, f3, f4⟩
            rw [b_Li_dawn_17]
            simp (disch := omega) only [b_Li_dawn_22, b_Li_dawn_27, b_Li_dawn_30, b_Li_dawn_35, b_Li_dawn_38, b_Li_dawn_64, li0, li1, li2, li3, li4, li5, li6, li7, pl0, pl1, pl2, pl3, pl4, pl5, pl6, pl7, pl8, lp, lq, bo_t l1, bo_t l2, gp, gq, f1, am_ck_T, am_ck_t, am_cif_t, am_cif_f, am_cif_T, am_cif_F, am_then_s, am_push_s, am_push_n, true_and, and_true, true_or, or_true, Int.cast_ofNat_Int, am_02, am_22, not_true_eq_false, not_false_eq_true]
        · refine ⟨M2, w2, ?_, f2, f3, f4⟩
          rw [b_Li_dawn_17]
          simp (disch := omega) only [b_Li_dawn_22, b_Li_dawn_27, b_Li_dawn_30, b_Li_dawn_35, b_Li_dawn_64, li0, li1, li2, li3, li4, li5, li6, li7, pl0, pl1, pl2, pl3, pl4, pl5, pl6, pl7, pl8, lp, lq, bo_t l1, bo_f l2, f1, am_ck_T, am_ck_t, am_cif_t, am_cif_f, am_cif_T, am_cif_F, am_then_s, am_push_s, am_push_n, true_and, and_true, true_or, or_true, Int.cast_ofNat_Int, am_02, am_22, not_true_eq_false, not_false_eq_true]
      · refine ⟨M2, w2, ?_, f2, f3, f4⟩
        rw [b_Li_dawn_17]
        simp (disch := omega) only [b_Li_dawn_22, b_Li_dawn_27, b_Li_dawn_64, li0, li1, li2, li3, li4, li5, li6, li7, pl0, pl1, pl2, pl3, pl4, pl5, pl6, pl7, pl8, lp, bo_f l1, f1, am_ck_T, am_ck_t, am_cif_t, am_cif_f, am_cif_T, am_cif_F, am_then_s, am_push_s, am_push_n, true_and, and_true, true_or, or_true, Int.cast_ofNat_Int, am_02, am_22, not_true_eq_false, not_false_eq_true]
theorem k_dawn (hS : ly S) (hb : lf b) (hP : okP P) {R : vR} {M : am_M} (hR : okR P B R) (cp : cP P M) (cr : cR P R b M) : ∃ M1, am_call 25 [am_r b] S M = some (some (am_i (bo (vwm P R))), S, M1) ∧ cR P (vdawn R) b M1 ∧ fr b (b + 3) M M1 := by
  have hP1 := hP.1
  have hP2 := hP.2.1
  have hP3 := hP.2.2.1
  have hP4 := hP.2.2.2.1
  have hbb : 6 < b := by unfold lf at hb; omega
  have key : ∀ (n : Nat) (p : Int) (M : am_M) (w : Prop) (o : Option am_V), 0 ≤ p → p + n = vnp P → cP P M → cR P (vnu R (fun a c => vcd R a c ∧ zc p 0 a c)) b M → (w ↔ ∃ a c, 0 ≤ a ∧ a < vnp P ∧ 0 ≤ c ∧ c < vnp P ∧ vcd R a c ∧ zc p 0 a c) → ∃ M1, am_R 25 4 [some (am_r b), some (am_i (bo w)), some (am_i p), o] [] S M = some (some (am_i (bo (vwm P R))), S, M1) ∧ cR P (vdawn R) b M1 ∧ fr b (b + 3) M M1 := by
    obtain ⟨li0, li1, li2, li3, li4, li5, li6, li7⟩ := hS.2.2.2.2.1 b hb
    obtain ⟨pl0, pl1, pl2, pl3, pl4, pl5, pl6, pl7, pl8⟩ := hS.2.1
    intro n
    induction n with
    | zero =>
      intro p M w o hp hn cp cr hw
      have c1 := cp.1
      have hz : ∀ a c, 0 ≤ a → a < vnp P → 0 ≤ c → c < vnp P → zc p 0 a c := by intro a c h1 h2 h3 h4; unfold zc; omega
      have cr2 := cR_eq (vnu_same (D' := vcd R) (fun a c h1 h2 h3 h4 => ⟨fun g => ⟨g, hz a c h1 h2 h3 h4⟩, fun g => g.1⟩)) cr
      obtain ⟨M1, d1, d2, d3⟩ := k_sendHome hS hb hP cp cr2
      have hwm : bo w = bo (vwm P R) := bo_c (hw.trans ⟨fun ⟨a, c, h1, h2, h3, h4, h5, h6⟩ => ⟨a, c, h1, h2, h3, h4, h5⟩, fun ⟨a, c, h1, h2, h3, h4, h5⟩ => ⟨a, c, h1, h2, h3, h4, h5, hz a c h1 h2 h3 h4⟩⟩)
      have e6 : M1 b 6 = vdy R := d2.2.2.2.2.2
      have r01 := bo_01 w
      refine ⟨am_wr M1 b 6 (vdy R + 1), ?_, cR_Sy d2 _, fr_tr d3 (fr_wr (by omega))⟩
      rw [← hwm, b_Li_dawn_4]
      simp (disch := omega) only [b_Li_dawn_76, b_Li_dawn_80, li0, li1, li2, li3, li4, li5, li6, li7, pl0, pl1, pl2, pl3, pl4, pl5, pl6, pl7, pl8, c1, d1, e6, am_ck_T, am_ck_t, am_cif_t, am_cif_f, am_cif_T, am_cif_F, am_then_s, am_push_s, am_push_n, true_and, and_true, true_or, or_true, Int.cast_ofNat_Int, am_02, am_22, not_true_eq_false, not_false_eq_true]
    | succ n ih =>
      intro p M w o hp hn cp cr hw
      have c1 := cp.1
      obtain ⟨M1, w1, d1, d2, d3, d4⟩ := k_dawn_in hS hb hP hR hp (show p < vnp P by omega) p.toNat 0 M w (by omega) (by omega) cp cr hw
      obtain ⟨M2, f1, f2, f3⟩ := ih (p + 1) M1 w1 (some (am_i p)) (by omega) (by omega) (cP_fr d3 hbb cp) d2 d4
      refine ⟨M2, ?_, f2, fr_tr d3 f3⟩
      rw [b_Li_dawn_4]
      simp (disch := omega) only [b_Li_dawn_15, li0, li1, li2, li3, li4, li5, li6, li7, pl0, pl1, pl2, pl3, pl4, pl5, pl6, pl7, pl8, c1, d1, f1, am_ck_T, am_ck_t, am_cif_t, am_cif_f, am_cif_T, am_cif_F, am_then_s, am_push_s, am_push_n, true_and, and_true, true_or, or_true, Int.cast_ofNat_Int, am_02, am_22, not_true_eq_false, not_false_eq_true]
  have z0 : ∀ a c, 0 ≤ a → a < vnp P → 0 ≤ c → c < vnp P → ¬ zc 0 0 a c := by intro a c h1 h2 h3 h4; unfold zc; omega
  have cr0 : cR P (vnu R (fun a c => vcd R a c ∧ zc 0 0 a c)) b M := by
    refine cR_to cr ⟨fun a c h1 h2 h3 h4 => ?_, fun _ _ _ => rfl, fun _ _ _ => rfl, rfl⟩
    exact (am_cif_f (fun g => z0 a c h1 h2 h3 h4 g.2)).symm
  obtain ⟨M1, d1, d2, d3⟩ := key (vnp P).toNat 0 M False none (by omega) (by omega) cp cr0 ⟨fun h => h.elim, fun ⟨a, c, h1, h2, h3, h4, h5, h6⟩ => z0 a c h1 h2 h3 h4 h6⟩
  rw [bo_f (fun h => h)] at d1
  exact ⟨M1, by rw [c_Li_dawn, b_Li_dawn_0]; exact d1, d2, d3⟩
end DAWN
