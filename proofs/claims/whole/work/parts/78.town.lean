/-! town: the class -/
def tx (l : List Int) (i : Int) : Int := (l[i.toNat]?).getD 0
/-- how all begins -/
def vR0 (D : vD) : vR := (D.2, (fun q => q), (fun l => vst D.1 l (vsz D.1 l - 1)), 0, 0, 0)
def vXf (X : vX) (f : Int × Int) : vX := (xP X, xR X, xH X, X.2.2.2.1, xS X, xB X, [], f.2, xD X)
def vXt (X : vX) (D : vD) : vX := (D.1, vR0 D, [], (none, none), [], [], [], -1, xD X)
theorem nil_no {α : Type} {k : Nat} {q : α} {p : Prop} (h : ([] : List α)[k]? = some q) : p := by
  rw [List.getElem?_nil] at h
  cases h
section TOWN
variable {S : am_S} {M M1 : am_M} {X : vX} {B : Int} {P : vP} {R : vR} {D : vD}
theorem tx_TL (ok : okX B X) : hTL (tx (xT X)) ((xT X).length : Int) := by
  have a := ok.2.2.2.2.2.2.2.2.1
  refine ⟨fun j => ?_, by omega, by have := a.1; omega⟩
  unfold tx
  cases e : (xT X)[j.toNat]? with
  | none => show (0 : Int) ≤ 0 ∧ (0 : Int) ≤ 255; omega
  | some q => exact a.2 q (List.mem_of_getElem? e)
theorem tx_e {l : List Int} {j : Int} (h1 : 0 ≤ j) (h2 : j < (l.length : Int)) : l[j.toNat]? = some (tx l j) := by
  have hl : j.toNat < l.length := by omega
  unfold tx
  rw [List.getElem?_eq_getElem hl]
  rfl
theorem okR_0 (hD : okD D) (hB : 0 ≤ B) : okR D.1 B (vR0 D) := by
  obtain ⟨n1, n2, n3, n4, n5, n6, n7⟩ := hD.1
  refine ⟨hD.2.1, fun p p1 p2 => ⟨hD.2.2 p p1 p2, p1, p2⟩, fun l l1 l2 => ?_, fun l k l1 l2 k1 k2 => ?_, by show (0 : Int) ≤ 0; omega, by show (0 : Int) < 256; omega, by show (0 : Int) ≤ 0; omega, hB, by show (0 : Int) ≤ 0; omega, by show (0 : Int) ≤ 9030 + B; omega, fun p p1 p2 => ?_⟩
  · have s := n5 l l1 l2
    exact n6 l (vsz D.1 l - 1) l1 l2 (by omega) (by omega)
  · exact n7 l k (vsz D.1 l - 1) l1 l2 k1 k2 (by omega)
  · show am_and (am_shr 0 p) 1 = 0
    rw [bs_1 bs_0 (show 0 ≤ p by omega) p2]
    exact bo_f (fun z => z)
theorem vlv_0 {R : vR} {q : Int} (h : vdd R = 0) (h1 : 0 ≤ q) (h2 : q < 8) : vlv R q := by
  unfold vlv
  rw [h, bs_1 bs_0 h1 h2]
  exact bo_f (fun z => z)
theorem k_planCopy (hS : ly S) (hD : okD D) (cd : cD D M) : ∃ M1, am_call 30 [am_r 2, am_r 8] S M = some (none, S, M1) ∧ cP D.1 M1 ∧ (∀ p q, 0 ≤ p → p < vnp D.1 → 0 ≤ q → q < vnp D.1 → M1 3 (p * 8 + q) = D.2 p q) ∧ fr 2 6 M M1 := by
  obtain ⟨pl0, pl1, pl2, pl3, pl4, pl5, pl6, pl7, pl8⟩ := hS.2.1
  obtain ⟨dr0, dr1, dr2, dr3, dr4, dr5, dr6, dr7, dr8⟩ := hS.2.2.1
  have hP := hD.1
  have hP1 := hP.1
  have hP2 := hP.2.1
  have hP3 := hP.2.2.1
  have hP4 := hP.2.2.2.1
  have e1 := cd.1
  have e2 : am_wr M 2 0 (vnp D.1) 8 1 = vnl D.1 := (am_wr_k (by omega)).trans cd.2.1
  refine ⟨am_cp (am_cp (am_cp (am_cp (am_wr (am_wr M 2 0 (vnp D.1)) 2 1 (vnl D.1)) 9 0 3 0 64) 10 0 4 0 6) 11 0 5 0 6) 12 0 6 0 36, ?_, ⟨?_, ?_, fun l l1 l2 => ⟨?_, ?_⟩, fun l k l1 l2 k1 k2 => ?_⟩, fun p q p1 p2 q1 q2 => ?_, ?_⟩
  · simp (disch := omega) only [c_Pl_copyFrom, b_Pl_copyFrom_0, pl0, pl1, pl2, pl3, pl4, pl5, pl6, pl7, pl8, dr0, dr1, dr2, dr3, dr4, dr5, dr6, dr7, dr8, e1, e2, am_ck_T, am_ck_t, am_cif_t, am_cif_f, am_cif_T, am_cif_F, am_then_s, am_push_s, am_push_n, true_and, and_true, true_or, or_true, Int.cast_ofNat_Int, am_02, am_22, not_true_eq_false, not_false_eq_true]
  · rw [am_cp_k (by omega), am_cp_k (by omega), am_cp_k (by omega), am_cp_k (by omega), am_wr_i (by omega), am_wr_s]
  · rw [am_cp_k (by omega), am_cp_k (by omega), am_cp_k (by omega), am_cp_k (by omega), am_wr_s]
  · rw [am_cp_k (by omega), am_cp_in (by omega), am_cp_k (by omega), am_cp_k (by omega), am_wr_k (by omega), am_wr_k (by omega), show (0 : Int) + (l - 0) = l by omega]
    exact (cd.2.2.1 l l1 l2).1
  · rw [am_cp_k (by omega), am_cp_k (by omega), am_cp_in (by omega), am_cp_k (by omega), am_wr_k (by omega), am_wr_k (by omega), show (0 : Int) + (l - 0) = l by omega]
    exact (cd.2.2.1 l l1 l2).2
  · have s := hP.2.2.2.2.1 l l1 l2
    rw [am_cp_in (by omega), am_cp_k (by omega), am_cp_k (by omega), am_cp_k (by omega), am_wr_k (by omega), am_wr_k (by omega), show (0 : Int) + (l * 6 + k - 0) = l * 6 + k by omega]
    exact cd.2.2.2.1 l k l1 l2 k1 k2
  · rw [am_cp_k (by omega), am_cp_k (by omega), am_cp_k (by omega), am_cp_in (by omega), am_wr_k (by omega), am_wr_k (by omega), show (0 : Int) + (p * 8 + q - 0) = p * 8 + q by omega]
    exact cd.2.2.2.2 p q p1 p2 q1 q2
  · intro k hk j
    rw [am_cp_k (by omega), am_cp_k (by omega), am_cp_k (by omega), am_cp_k (by omega), am_wr_k (by omega), am_wr_k (by omega)]
theorem k_begin (hS : ly S) (hD : okD D) (cp : cP D.1 M) (cn : ∀ p q, 0 ≤ p → p < vnp D.1 → 0 ≤ q → q < vnp D.1 → M 3 (p * 8 + q) = D.2 p q) : ∃ M1, am_call 10 [am_r 14] S M = some (none, S, M1) ∧ cR D.1 (vR0 D) 14 M1 ∧ fr 14 17 M M1 := by
  have hb : lf 14 := by unfold lf; omega
  obtain ⟨li0, li1, li2, li3, li4, li5, li6, li7⟩ := hS.2.2.2.2.1 14 hb
  obtain ⟨pl0, pl1, pl2, pl3, pl4, pl5, pl6, pl7, pl8⟩ := hS.2.1
  have hP := hD.1
  have hP1 := hP.1
  have hP2 := hP.2.1
  have hP3 := hP.2.2.1
  have hP4 := hP.2.2.2.1
  have loop : ∀ (n : Nat) (l : Int) (M : am_M), 0 ≤ l → l + n = vnl D.1 → cP D.1 M → (∀ i, 0 ≤ i → i < l → M 17 i = vst D.1 i (vsz D.1 i - 1)) → ∃ M1, am_R 10 23 [some (am_r 14), some (am_i l)] [] S M = am_R 10 70 [some (am_r 14), some (am_i (vnl D.1))] [] S M1 ∧ (∀ i, 0 ≤ i → i < vnl D.1 → M1 17 i = vst D.1 i (vsz D.1 i - 1)) ∧ fr 17 17 M M1 := by
    intro n
    induction n with
    | zero =>
      intro l M l1 l2 cp h
      obtain rfl : l = vnl D.1 := by omega
      have c2 := cp.2.1
      refine ⟨M, ?_, h, fr_rf⟩
      rw [b_Li_begin_23]
      simp (disch := omega) only [li0, li1, li2, li3, li4, li5, li6, li7, pl0, pl1, pl2, pl3, pl4, pl5, pl6, pl7, pl8, c2, am_ck_T, am_ck_t, am_cif_t, am_cif_f, am_cif_T, am_cif_F, am_then_s, am_push_s, am_push_n, true_and, and_true, true_or, or_true, Int.cast_ofNat_Int, am_02, am_22, not_true_eq_false, not_false_eq_true]
    | succ n ih =>
      intro l M l1 l2 cp h
      have c2 := cp.2.1
      have s := hP.2.2.2.2.1 l l1 (by omega)
      have c3 := (cp.2.2.1 l l1 (by omega)).1
      have c4 : M 6 (l * 6 + vsz D.1 l - 1) = vst D.1 l (vsz D.1 l - 1) := by
        have := cp.2.2.2 l (vsz D.1 l - 1) l1 (by omega) (by omega) (by omega)
        rw [show l * 6 + (vsz D.1 l - 1) = l * 6 + vsz D.1 l - 1 by omega] at this
        exact this
      have f0 : fr 17 17 M (am_wr M 17 l (vst D.1 l (vsz D.1 l - 1))) := fr_wr (by omega)
      obtain ⟨M1, d1, d2, d3⟩ := ih (l + 1) (am_wr M 17 l (vst D.1 l (vsz D.1 l - 1))) (by omega) (by omega) (cP_fr f0 (by omega) cp) (fun i i1 i2 => by
        by_cases e : i = l
        · rw [e, am_wr_s]
        · rw [am_wr_i e]; exact h i i1 (by omega))
      refine ⟨M1, ?_, d2, fr_tr f0 d3⟩
      rw [b_Li_begin_23]
      simp (disch := omega) only [b_Li_begin_34, li0, li1, li2, li3, li4, li5, li6, li7, pl0, pl1, pl2, pl3, pl4, pl5, pl6, pl7, pl8, c2, c3, c4, d1, am_ck_T, am_ck_t, am_cif_t, am_cif_f, am_cif_T, am_cif_F, am_then_s, am_push_s, am_push_n, true_and, and_true, true_or, or_true, Int.cast_ofNat_Int, am_02, am_22, not_true_eq_false, not_false_eq_true]
  have f0 : fr 14 17 M (am_cp M 3 0 15 0 64) := fun k hk j => am_cp_k (by omega)
  obtain ⟨Ma, a1, a2, a3⟩ := loop (vnl D.1).toNat 0 (am_cp M 3 0 15 0 64) (by omega) (by omega) (cP_fr f0 (by omega) cp) (fun i i1 i2 => by omega)
  have f1 : fr 14 17 M (am_wr (am_wr (am_wr Ma 14 4 0) 14 5 0) 14 6 0) := fr_tr f0 (fr_tr (fr_mono a3 (by omega) (by omega)) (fr_tr (fr_wr (by omega)) (fr_tr (fr_wr (by omega)) (fr_wr (by omega)))))
  have cr : cR D.1 (D.2, Ma 16, (fun l => vst D.1 l (vsz D.1 l - 1)), 0, 0, 0) 14 (am_wr (am_wr (am_wr Ma 14 4 0) 14 5 0) 14 6 0) := by
    refine ⟨fun p q p1 p2 q1 q2 => ?_, fun p p1 p2 => ?_, fun l l1 l2 => ?_, ?_, ?_, am_wr_s⟩
    · rw [am_wr_k (by omega), am_wr_k (by omega), am_wr_k (by omega), a3 (14 + 1) (by omega), am_cp_in (by omega), show (0 : Int) + (p * 8 + q - 0) = p * 8 + q by omega]
      exact cn p q p1 p2 q1 q2
    · rw [am_wr_k (by omega), am_wr_k (by omega), am_wr_k (by omega)]
    · rw [am_wr_k (by omega), am_wr_k (by omega), am_wr_k (by omega)]
      exact a2 l l1 l2
    · rw [am_wr_i (by omega), am_wr_i (by omega), am_wr_s]
    · rw [am_wr_i (by omega), am_wr_s]
  obtain ⟨Mb, b1, b2, b3⟩ := k_sendHome hS hb hP (cP_fr f1 (by omega) cp) cr
  refine ⟨Mb, ?_, cR_to b2 ⟨fun _ _ _ _ _ _ => rfl, fun q q1 q2 => ?_, fun _ _ _ => rfl, rfl⟩, fr_tr f1 b3⟩
  · simp (disch := omega) only [c_Li_begin, b_Li_begin_0, li0, li1, li2, li3, li4, li5, li6, li7, pl0, pl1, pl2, pl3, pl4, pl5, pl6, pl7, pl8, a1, b_Li_begin_70, b_Li_begin_89, b1, am_ck_T, am_ck_t, am_cif_t, am_cif_f, am_cif_T, am_cif_F, am_then_s, am_push_s, am_push_n, true_and, and_true, true_or, or_true, Int.cast_ofNat_Int, am_02, am_22, not_true_eq_false, not_false_eq_true]
  · exact am_cif_t (vlv_0 rfl q1 (by omega))
theorem cP_k2 (h : ∀ k, 2 ≤ k → k ≤ 6 → ∀ j, M1 k j = M k j) (cp : cP P M) : cP P M1 :=
  ⟨(h 2 (by omega) (by omega) 0).trans cp.1, (h 2 (by omega) (by omega) 1).trans cp.2.1, fun l a c => ⟨(h 5 (by omega) (by omega) l).trans (cp.2.2.1 l a c).1, (h 4 (by omega) (by omega) l).trans (cp.2.2.1 l a c).2⟩, fun l k a c d e => (h 6 (by omega) (by omega) _).trans (cp.2.2.2 l k a c d e)⟩
theorem k_town_f (hS : ly S) (ok : okX B X) (c : CX X M) {f : Int × Int} (hs : sc (tx (xT X)) ((xT X).length : Int) 200 (tb (tx (xT X)) ((xT X).length : Int) 0) vD0 = Sum.inl f) (hf : okF ((xT X).length : Int) f) : ∃ M1, am_call 65 [am_r 1] S M = some (some (am_i (-10 - f.1)), S, M1) ∧ CX (vXf X f) M1 ∧ fr 1 163 M M1 := by
  obtain ⟨tp0, tp1, tp2, tp3, tp4, tp5, tp6, tp7, tp8, tp9⟩ := hS.1
  obtain ⟨re0, re1, re2, re3⟩ := hS.2.2.2.1
  have hT := tx_TL ok
  have ct := c.2.2.2.2.2.2.2.1
  obtain ⟨Ma, k, a1, a2, a3, a4⟩ := k_read hS hT ct.1 (fun j j1 j2 => by have := ct.2 j.toNat _ (tx_e j1 j2); rw [show ((j.toNat : Nat) : Int) = j by omega] at this; exact this)
  rw [hs] at a4
  obtain ⟨e1, e2⟩ := a4
  have o1 := hf.1
  have o2 := hf.2.1
  have h : ∀ k, k ≠ 1 → ¬ (7 ≤ k ∧ k ≤ 12) → ∀ j, am_wr Ma 1 9 f.2 k j = M k j := fun k k1 k2 j => (am_wr_k k1).trans (a2 k (by omega) j)
  refine ⟨am_wr Ma 1 9 f.2, ?_, ?_, fr_tr (fr_mono a2 (by omega) (by omega)) (fr_wr (by omega))⟩
  · rw [e1] at a1
    simp (disch := omega) only [c_Pe_town, b_Pe_town_0, b_Pe_town_7, b_Pe_town_23, tp0, tp1, tp2, tp3, tp4, tp5, tp6, tp7, tp8, tp9, re0, re1, re2, re3, a1, e2, am_ck_T, am_ck_t, am_cif_t, am_cif_f, am_cif_T, am_cif_F, am_then_s, am_push_s, am_push_n, true_and, and_true, true_or, or_true, Int.cast_ofNat_Int, am_02, am_22, not_true_eq_false, not_false_eq_true]
  · obtain ⟨b1, b2, b3, b4, b5, b6, b7, b8, b9, b10⟩ := c
    exact ⟨cP_k2 (fun k k1 k2 => h k (by omega) (by omega)) b1, cR_fr (fun k k1 k2 => h k (by omega) (by omega)) b2, cH_fr (fun k k1 k2 => h k (by omega) (by omega)) b3, cI_fr (fun k k1 k2 => h k (by omega) (by omega)) b4, cI_fr (fun k k1 k2 => h k (by omega) (by omega)) b5, cS_fr (fun k k1 k2 => h k (by omega) (by omega)) b6, cB_fr (fun k k1 k2 => h k (by omega) (by omega)) b7, ⟨(am_wr_k (by omega)).trans a3, fun k q hq => nil_no hq⟩, am_wr_s, (am_wr_i (by omega)).trans ((a2 1 (by omega) 10).trans b10)⟩
theorem k_town_t (hS : ly S) (ok : okX B X) (c : CX X M) (hs : sc (tx (xT X)) ((xT X).length : Int) 200 (tb (tx (xT X)) ((xT X).length : Int) 0) vD0 = Sum.inr D) (hD : okD D) : ∃ M1, am_call 65 [am_r 1] S M = some (some (am_i (vnp D.1)), S, M1) ∧ CX (vXt X D) M1 ∧ fr 1 163 M M1 := by
  obtain ⟨tp0, tp1, tp2, tp3, tp4, tp5, tp6, tp7, tp8, tp9⟩ := hS.1
  obtain ⟨re0, re1, re2, re3⟩ := hS.2.2.2.1
  obtain ⟨pl0, pl1, pl2, pl3, pl4, pl5, pl6, pl7, pl8⟩ := hS.2.1
  obtain ⟨dr0, dr1, dr2, dr3, dr4, dr5, dr6, dr7, dr8⟩ := hS.2.2.1
  obtain ⟨hi0, hi1, hi2, hi3⟩ := hS.2.2.2.2.2.1
  obtain ⟨si0, si1, si2, si3, si4, si5, si6, si7⟩ := hS.2.2.2.2.2.2.2.1
  obtain ⟨bk0, bk1, bk2, bk3, bk4⟩ := hS.2.2.2.2.2.2.2.2.1
  obtain ⟨im0, im1, im2, im3, im4, im5, im6⟩ := hS.2.2.2.2.2.2.2.2.2.1
  have hb : lf 14 := by unfold lf; omega
  obtain ⟨li0, li1, li2, li3, li4, li5, li6, li7⟩ := hS.2.2.2.2.1 14 hb
  have hT := tx_TL ok
  have ct := c.2.2.2.2.2.2.2.1
  obtain ⟨Ma, k, a1, a2, a3, a4⟩ := k_read hS hT ct.1 (fun j j1 j2 => by have := ct.2 j.toNat _ (tx_e j1 j2); rw [show ((j.toNat : Nat) : Int) = j by omega] at this; exact this)
  rw [hs] at a4
  obtain ⟨e1, e2, cd⟩ := a4
  rw [e1] at a1
  have cd1 : cD D (am_wr Ma 1 9 (-1)) := cD_fr cd (fun k k1 k2 j => am_wr_k (by omega))
  obtain ⟨Mb, b1, b2, b3, b4⟩ := k_planCopy hS hD cd1
  obtain ⟨Mc, c1, c2, c3⟩ := k_begin hS hD b2 b3
  have cp := cP_fr c3 (by omega) b2
  have n1 : am_wr (am_wr (am_wr (am_wr (am_wr Mc 22 2 0) 146 4 0) 150 2 0) 154 2 0) 159 2 0 2 0 = vnp D.1 := by
    rw [am_wr_k (by omega), am_wr_k (by omega), am_wr_k (by omega), am_wr_k (by omega), am_wr_k (by omega)]; exact cp.1
  have i2 : ∀ x : Int, x = 2 → am_R 65 72 [some (am_r 1), some (am_i 0), some (am_i x)] [] S (am_wr (am_wr (am_wr (am_wr (am_wr Mc 22 2 0) 146 4 0) 150 2 0) 154 2 0) 159 2 0) = some (some (am_i (vnp D.1)), S, am_wr (am_wr (am_wr (am_wr (am_wr Mc 22 2 0) 146 4 0) 150 2 0) 154 2 0) 159 2 0) := by
    intro x hx
    rw [b_Pe_town_72]
    simp (disch := omega) only [b_Pe_town_93, tp0, tp1, tp2, tp3, tp4, tp5, tp6, tp7, tp8, tp9, pl0, pl1, pl2, pl3, pl4, pl5, pl6, pl7, pl8, n1, am_ck_T, am_ck_t, am_cif_t, am_cif_f, am_cif_T, am_cif_F, am_then_s, am_push_s, am_push_n, true_and, and_true, true_or, or_true, Int.cast_ofNat_Int, am_02, am_22, not_true_eq_false, not_false_eq_true]
  have i1 : ∀ x : Int, x = 1 → am_R 65 72 [some (am_r 1), some (am_i 0), some (am_i x)] [] S (am_wr (am_wr (am_wr (am_wr Mc 22 2 0) 146 4 0) 150 2 0) 154 2 0) = some (some (am_i (vnp D.1)), S, am_wr (am_wr (am_wr (am_wr (am_wr Mc 22 2 0) 146 4 0) 150 2 0) 154 2 0) 159 2 0) := by
    intro x hx
    subst hx
    have i2' := i2 (1 + 1) (by omega)
    rw [b_Pe_town_72]
    simp (disch := omega) only [b_Pe_town_77, tp0, tp1, tp2, tp3, tp4, tp5, tp6, tp7, tp8, tp9, im0, im1, im2, im3, im4, im5, im6, i2', implies_true, am_ck_T, am_ck_t, am_cif_t, am_cif_f, am_cif_T, am_cif_F, am_then_s, am_push_s, am_push_n, true_and, and_true, true_or, or_true, Int.cast_ofNat_Int, am_02, am_22, not_true_eq_false, not_false_eq_true]
  have i0 : am_R 65 72 [some (am_r 1), some (am_i 0), some (am_i 0)] [] S (am_wr (am_wr (am_wr Mc 22 2 0) 146 4 0) 150 2 0) = some (some (am_i (vnp D.1)), S, am_wr (am_wr (am_wr (am_wr (am_wr Mc 22 2 0) 146 4 0) 150 2 0) 154 2 0) 159 2 0) := by
    have i1' := i1 (0 + 1) (by omega)
    rw [b_Pe_town_72]
    simp (disch := omega) only [b_Pe_town_77, tp0, tp1, tp2, tp3, tp4, tp5, tp6, tp7, tp8, tp9, im0, im1, im2, im3, im4, im5, im6, i1', implies_true, am_ck_T, am_ck_t, am_cif_t, am_cif_f, am_cif_T, am_cif_F, am_then_s, am_push_s, am_push_n, true_and, and_true, true_or, or_true, Int.cast_ofNat_Int, am_02, am_22, not_true_eq_false, not_false_eq_true]
  have hcl : am_call 5 [am_r 22] S Mc = some (none, S, am_wr Mc 22 2 0) := by
    simp (disch := omega) only [c_Hi_clear, b_Hi_clear_0, hi0, hi1, hi2, am_ck_T, am_ck_t, am_cif_t, am_cif_f, am_cif_T, am_cif_F, am_then_s, am_push_s, am_push_n, true_and, and_true, true_or, or_true, Int.cast_ofNat_Int, am_02, am_22, not_true_eq_false, not_false_eq_true]
  have scl : am_call 47 [am_r 146] S (am_wr Mc 22 2 0) = some (none, S, am_wr (am_wr Mc 22 2 0) 146 4 0) := by
    simp (disch := omega) only [c_Si_clear, b_Si_clear_0, si0, si1, si2, si3, si4, si5, si6, si7, am_ck_T, am_ck_t, am_cif_t, am_cif_f, am_cif_T, am_cif_F, am_then_s, am_push_s, am_push_n, true_and, and_true, true_or, or_true, Int.cast_ofNat_Int, am_02, am_22, not_true_eq_false, not_false_eq_true]
  have bcl : am_call 1 [am_r 150] S (am_wr (am_wr Mc 22 2 0) 146 4 0) = some (none, S, am_wr (am_wr (am_wr Mc 22 2 0) 146 4 0) 150 2 0) := by
    simp (disch := omega) only [c_Bk_clear, b_Bk_clear_0, bk0, bk1, bk2, bk3, bk4, am_ck_T, am_ck_t, am_cif_t, am_cif_f, am_cif_T, am_cif_F, am_then_s, am_push_s, am_push_n, true_and, and_true, true_or, or_true, Int.cast_ofNat_Int, am_02, am_22, not_true_eq_false, not_false_eq_true]
  refine ⟨am_wr (am_wr (am_wr (am_wr (am_wr Mc 22 2 0) 146 4 0) 150 2 0) 154 2 0) 159 2 0, ?_, ?_, ?_⟩
  · simp (disch := omega) only [c_Pe_town, b_Pe_town_0, b_Pe_town_7, b_Pe_town_28, b_Pe_town_42, b_Pe_town_49, b_Pe_town_56, b_Pe_town_63, b_Pe_town_70, tp0, tp1, tp2, tp3, tp4, tp5, tp6, tp7, tp8, tp9, re0, re1, re2, re3, hi0, hi1, hi2, si0, si1, si2, si3, si4, si5, si6, si7, bk0, bk1, bk2, bk3, bk4, pl0, pl1, pl2, pl3, pl4, pl5, pl6, pl7, pl8, li0, a1, e2, b1, c1, hcl, scl, bcl, i0, am_ck_T, am_ck_t, am_cif_t, am_cif_f, am_cif_T, am_cif_F, am_then_s, am_push_s, am_push_n, true_and, and_true, true_or, or_true, Int.cast_ofNat_Int, am_02, am_22, not_true_eq_false, not_false_eq_true]
  · obtain ⟨nx, x1, x2, x3, x4⟩ := c.2.2.1
    refine ⟨cP_k (fun k hk j => ?_) cp, cR_fr (fun k k1 k2 j => ?_) c2, ⟨nx, x1, ?_, ?_, fun k q hq => nil_no hq⟩, ?_, am_wr_s, ⟨?_, fun k q hq => nil_no hq⟩, ⟨?_, fun k q hq => nil_no hq⟩, ⟨?_, fun k q hq => nil_no hq⟩, ?_, ?_⟩
    · rw [am_wr_k (by omega), am_wr_k (by omega), am_wr_k (by omega), am_wr_k (by omega), am_wr_k (by omega)]
    · rw [am_wr_k (by omega), am_wr_k (by omega), am_wr_k (by omega), am_wr_k (by omega), am_wr_k (by omega)]
    · rw [am_wr_k (by omega), am_wr_k (by omega), am_wr_k (by omega), am_wr_k (by omega), am_wr_i (by omega), c3 22 (by omega), b4 22 (by omega), am_wr_k (by omega), a2 22 (by omega)]
      exact x2
    · rw [am_wr_k (by omega), am_wr_k (by omega), am_wr_k (by omega), am_wr_k (by omega), am_wr_s]; rfl
    · show am_wr (am_wr (am_wr (am_wr (am_wr Mc 22 2 0) 146 4 0) 150 2 0) 154 2 0) 159 2 0 154 2 = 0
      rw [am_wr_k (by omega), am_wr_s]
    · rw [am_wr_k (by omega), am_wr_k (by omega), am_wr_k (by omega), am_wr_s]; rfl
    · rw [am_wr_k (by omega), am_wr_k (by omega), am_wr_s]; rfl
    · rw [am_wr_k (by omega), am_wr_k (by omega), am_wr_k (by omega), am_wr_k (by omega), am_wr_k (by omega), c3 7 (by omega), b4 7 (by omega), am_wr_k (by omega)]
      exact a3
    · rw [am_wr_k (by omega), am_wr_k (by omega), am_wr_k (by omega), am_wr_k (by omega), am_wr_k (by omega), c3 1 (by omega), b4 1 (by omega), am_wr_s]; rfl
    · rw [am_wr_k (by omega), am_wr_k (by omega), am_wr_k (by omega), am_wr_k (by omega), am_wr_k (by omega), c3 1 (by omega), b4 1 (by omega), am_wr_i (by omega), a2 1 (by omega)]
      exact c.2.2.2.2.2.2.2.2.2
  · exact fr_tr (fr_mono a2 (by omega) (by omega)) (fr_tr (fr_wr (k := 1) (i := 9) (v := -1) (by omega)) (fr_tr (fr_mono b4 (by omega) (by omega)) (fr_tr (fr_mono c3 (by omega) (by omega)) (fr_tr (fr_wr (by omega)) (fr_tr (fr_wr (by omega)) (fr_tr (fr_wr (by omega)) (fr_tr (fr_wr (by omega)) (fr_wr (by omega)))))))))
end TOWN
