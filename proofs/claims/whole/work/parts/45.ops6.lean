/-! the book, what was seen, the text: write, tear, see, feed -/
section OPS6
variable {S : am_S} {M M1 : am_M} {X : vX} {B : Int} {P : vP}
theorem CX_ext {s' b' : List (Int × Int)} {t' : List Int} (c : CX X M) (h : ∀ k, k ≤ 6 ∨ (14 ≤ k ∧ k ≤ 143) ∨ (153 ≤ k ∧ k ≤ 163) → ∀ j, M1 k j = M k j) (cs : cS s' M1) (cb : cB b' M1) (ct : cT t' M1) : CX (xP X, xR X, xH X, X.2.2.2.1, s', b', t', xF X, xD X) M1 := by
  obtain ⟨a1, a2, a3, a4, a5, a6, a7, a8, a9, a10⟩ := c
  exact ⟨⟨(h 2 (by omega) 0).trans a1.1, (h 2 (by omega) 1).trans a1.2.1, fun l u w => ⟨(h 5 (by omega) l).trans (a1.2.2.1 l u w).1, (h 4 (by omega) l).trans (a1.2.2.1 l u w).2⟩, fun l k u w s t => (h 6 (by omega) _).trans (a1.2.2.2 l k u w s t)⟩, cR_fr (fun k _ _ => h k (by omega)) a2, cH_fr (fun k _ _ => h k (by omega)) a3, cI_fr (fun k _ _ => h k (by omega)) a4, cI_fr (fun k _ _ => h k (by omega)) a5, cs, cb, ct, (h 1 (by omega) 9).trans a9, (h 1 (by omega) 10).trans a10⟩
theorem MX_ext {s' b' : List (Int × Int)} {t' : List Int} (hP : okP (xP X)) (c : MX X M) (h : ∀ k, 165 ≤ k ∧ k ≤ 170 → ∀ j, M1 k j = M k j) (h4 : ∀ j, j ≠ 11 → j ≠ 20 → j ≠ 23 → M1 164 j = M 164 j) (cs : mS s' M1) (cb : mB b' M1) (ct : mT t' M1) : MX (xP X, xR X, xH X, X.2.2.2.1, s', b', t', xF X, xD X) M1 := by
  obtain ⟨a1, a2, a3, a4, a5, a6, a7, a8, a9, a10⟩ := c
  exact ⟨⟨(h4 6 (by omega) (by omega) (by omega)).trans a1.1, (h4 8 (by omega) (by omega) (by omega)).trans a1.2.1, fun l u w => ⟨(h 169 (by omega) l).trans (a1.2.2.1 l u w).1, (h 170 (by omega) l).trans (a1.2.2.1 l u w).2⟩, fun l k u w s t => (h 168 (by omega) _).trans (a1.2.2.2 l k u w s t)⟩, mR_fr hP (fun j _ _ => h 165 (by omega) j) a2, ⟨(h4 16 (by omega) (by omega) (by omega)).trans a3.1, fun k q hq => mR_fr hP (fun j _ _ => h 165 (by omega) j) (a3.2 k q hq)⟩, mI_fr hP (h 166 (by omega)) (fun j _ _ => h 165 (by omega) j) a4, mI_fr hP (h 166 (by omega)) (fun j _ _ => h 165 (by omega) j) a5, cs, cb, ct, (h4 15 (by omega) (by omega) (by omega)).trans a9, (h 165 (by omega) 81).trans a10⟩
/-- one more pair in two arrays -/
theorem pr_add {l : List (Int × Int)} {a b : Nat} {u v : Int} (hab : a ≠ b) (h : ∀ (k : Nat) (q : Int × Int), l[k]? = some q → M a (k : Int) = q.1 ∧ M b (k : Int) = q.2) : ∀ (k : Nat) (q : Int × Int), (l ++ [(u, v)])[k]? = some q → am_wr (am_wr M a (l.length : Int) u) b (l.length : Int) v a (k : Int) = q.1 ∧ am_wr (am_wr M a (l.length : Int) u) b (l.length : Int) v b (k : Int) = q.2 := by
  intro k q hq
  by_cases hk : k < l.length
  · rw [List.getElem?_append_left hk] at hq
    have := h k q hq
    rw [am_wr_k hab, am_wr_i (by omega), am_wr_i (by omega), am_wr_k (Ne.symm hab)]
    exact this
  · rw [List.getElem?_append_right (by omega)] at hq
    have hk2 : k = l.length := by
      have := (List.getElem?_eq_some_iff.mp hq).1
      rw [List.length_singleton] at this
      omega
    subst hk2
    rw [Nat.sub_self] at hq
    cases hq
    rw [am_wr_k hab, am_wr_s, am_wr_s]
    exact ⟨rfl, rfl⟩
def vSB (X : vX) (l : List (Int × Int)) : vX := (xP X, xR X, xH X, X.2.2.2.1, xS X, l, xT X, xF X, xD X)
def vSS (X : vX) (l : List (Int × Int)) : vX := (xP X, xR X, xH X, X.2.2.2.1, l, xB X, xT X, xF X, xD X)
def vST (X : vX) (l : List Int) : vX := (xP X, xR X, xH X, X.2.2.2.1, xS X, xB X, l, xF X, xD X)
theorem p_write (hS : ly S) {p q : Int} (i1 : am_Ri p) (i2 : am_Ri q) : Pr S 89 172 [am_i p, am_i q] := by
  intro B X h0 h1 ok
  obtain ⟨tp0, tp1, tp2, tp3, tp4, tp5, tp6, tp7, tp8, tp9⟩ := hS.1
  obtain ⟨bk0, bk1, bk2, bk3, bk4⟩ := hS.2.2.2.2.2.2.2.2.1
  obtain ⟨mo0, ⟨mr0, mr1, mr2, mr3, mr4, mr5, mr6, mr7, mr8, mr9, mr10, mr11⟩, mk0, mk1, mk2, mk3, mk4, mk5, mk6, mk7, mk8, mk9, mk10, mk11⟩ := hS.2.2.2.2.2.2.2.2.2.2
  have hP := ok.1
  have okB := ok.2.2.2.2.2.2.2.1
  by_cases hp : 0 ≤ p ∧ p < vnp (xP X)
  · by_cases hq : 0 ≤ q ∧ q < vnp (xP X)
    · by_cases hf : (xB X).length < 20
      · have ok2 : okX B (vSB X (xB X ++ [(p, q)])) := by
          obtain ⟨a1, a2, a3, a4, a5, a6, a7, a8, a9⟩ := ok
          refine ⟨a1, a2, a3, a4, a5, a6, a7, ⟨?_, fun t ht => ?_⟩, a9⟩
          · show (xB X ++ [(p, q)]).length ≤ 20
            rw [List.length_append, List.length_singleton]; omega
          · rcases List.mem_append.mp ht with ht | ht
            · exact a8.2 t ht
            · rw [List.mem_singleton.mp ht]; exact ⟨hp.1, hp.2, hq.1, hq.2⟩
        refine ⟨((xB X).length : Int) + 1, vSB X (xB X ++ [(p, q)]), ⟨by omega, by omega⟩, okX_B ok2 (by omega), fun M c => ?_, fun M c => ?_⟩
        · have e1 := k_isPerson hS hP c.1 i1
          have e2 := k_isPerson hS hP c.1 i2
          rw [bo_t hp] at e1
          rw [bo_t hq] at e2
          have n1 := c.2.2.2.2.2.2.1.1
          have m1 : ∀ i v, am_wr M 151 i v 150 2 = ((xB X).length : Int) := fun i v => (am_wr_k (by omega)).trans n1
          have m2 : ∀ i v i' v', am_wr (am_wr M 151 i v) 152 i' v' 150 2 = ((xB X).length : Int) := fun i v i' v' => (am_wr_k (by omega)).trans (m1 i v)
          refine ⟨am_wr (am_wr (am_wr M 151 ((xB X).length : Int) p) 152 ((xB X).length : Int) q) 150 2 (((xB X).length : Int) + 1), ?_, CX_ext c (fun k hk j => (am_wr_k (by omega)).trans ((am_wr_k (by omega)).trans (am_wr_k (by omega)))) (cS_fr (fun k _ _ j => (am_wr_k (by omega)).trans ((am_wr_k (by omega)).trans (am_wr_k (by omega)))) c.2.2.2.2.2.1) ⟨?_, fun k t ht => ?_⟩ (cT_fr (fun j => (am_wr_k (by omega)).trans ((am_wr_k (by omega)).trans (am_wr_k (by omega)))) (fun j => (am_wr_k (by omega)).trans ((am_wr_k (by omega)).trans (am_wr_k (by omega)))) c.2.2.2.2.2.2.2.1), fr_tr (fr_wr (by omega)) (fr_tr (fr_wr (by omega)) (fr_wr (by omega)))⟩
          · simp (disch := omega) only [c_Pe_write, b_Pe_write_0, b_Pe_write_5, b_Pe_write_8, b_Pe_write_13, b_Pe_write_16, b_Pe_write_19, b_Pe_write_31, b_Pe_write_34, b_Pe_write_43, c_Bk_add, b_Bk_add_0, b_Bk_add_9, b_Bk_add_39, tp0, tp1, tp2, tp3, tp4, tp5, tp6, tp7, tp8, tp9, bk0, bk1, bk2, bk3, bk4, e1, e2, n1, m1, m2, am_wr_s, am_ck_T, am_ck_t, am_cif_t, am_cif_f, am_cif_T, am_cif_F, am_then_s, am_push_s, am_push_n, true_and, and_true, true_or, or_true, Int.cast_ofNat_Int, am_02, am_22, not_true_eq_false, not_false_eq_true]
          · rw [am_wr_s, List.length_append, List.length_singleton]; omega
          · rw [am_wr_k (show (151 : Nat) ≠ 150 by omega), am_wr_k (show (152 : Nat) ≠ 150 by omega)]
            exact pr_add (by omega) c.2.2.2.2.2.2.1.2 k t ht
        · have e1 := m_isPerson hS hP c.1 i1
          have e2 := m_isPerson hS hP c.1 i2
          rw [bo_t hp] at e1
          rw [bo_t hq] at e2
          have n1 := c.2.2.2.2.2.2.1.1
          have m1 : ∀ i v, am_wr M 175 i v 164 23 = ((xB X).length : Int) := fun i v => (am_wr_k (by omega)).trans n1
          have m2 : ∀ i v i' v', am_wr (am_wr M 175 i v) 176 i' v' 164 23 = ((xB X).length : Int) := fun i v i' v' => (am_wr_k (by omega)).trans (m1 i v)
          refine ⟨am_wr (am_wr (am_wr M 175 ((xB X).length : Int) p) 176 ((xB X).length : Int) q) 164 23 (((xB X).length : Int) + 1), ?_, MX_ext hP c (fun k hk j => (am_wr_k (by omega)).trans ((am_wr_k (by omega)).trans (am_wr_k (by omega)))) (fun j _ _ hj => (am_wr_i hj).trans ((am_wr_k (by omega)).trans (am_wr_k (by omega)))) ?_ ⟨?_, fun k t ht => ?_⟩ ?_, fr_tr (fr_wr (by omega)) (fr_tr (fr_wr (by omega)) (fr_wr (by omega)))⟩
          · simp (disch := omega) only [c_Mo_write, b_Mo_write_0, b_Mo_write_5, b_Mo_write_8, b_Mo_write_13, b_Mo_write_16, b_Mo_write_19, b_Mo_write_28, b_Mo_write_31, mo0, mr0, mr1, mr2, mr3, mr4, mr5, mr6, mr7, mr8, mr9, mr10, mr11, mk0, mk1, mk2, mk3, mk4, mk5, mk6, mk7, mk8, mk9, mk10, mk11, e1, e2, n1, m1, m2, am_wr_s, am_ck_T, am_ck_t, am_cif_t, am_cif_f, am_cif_T, am_cif_F, am_then_s, am_push_s, am_push_n, true_and, and_true, true_or, or_true, Int.cast_ofNat_Int, am_02, am_22, not_true_eq_false, not_false_eq_true]
          · exact ⟨(am_wr_i (by omega)).trans ((am_wr_k (by omega)).trans ((am_wr_k (by omega)).trans c.2.2.2.2.2.1.1)), fun k t ht => ⟨(am_wr_k (by omega)).trans ((am_wr_k (by omega)).trans ((am_wr_k (by omega)).trans (c.2.2.2.2.2.1.2 k t ht).1)), (am_wr_k (by omega)).trans ((am_wr_k (by omega)).trans ((am_wr_k (by omega)).trans (c.2.2.2.2.2.1.2 k t ht).2))⟩⟩
          · rw [am_wr_s, List.length_append, List.length_singleton]; omega
          · rw [am_wr_k (show (175 : Nat) ≠ 164 by omega), am_wr_k (show (176 : Nat) ≠ 164 by omega)]
            exact pr_add (by omega) c.2.2.2.2.2.2.1.2 k t ht
          · exact ⟨(am_wr_i (by omega)).trans ((am_wr_k (by omega)).trans ((am_wr_k (by omega)).trans c.2.2.2.2.2.2.2.1.1)), fun k t ht => (am_wr_k (by omega)).trans ((am_wr_k (by omega)).trans ((am_wr_k (by omega)).trans (c.2.2.2.2.2.2.2.1.2 k t ht)))⟩
      · refine ⟨-1000000004, X, ⟨by omega, by omega⟩, okX_B ok (by omega), CC_id (fun M c => ?_), MM_id (fun M c => ?_)⟩
        · have e1 := k_isPerson hS hP c.1 i1
          have e2 := k_isPerson hS hP c.1 i2
          rw [bo_t hp] at e1
          rw [bo_t hq] at e2
          have n1 := c.2.2.2.2.2.2.1.1
          simp (disch := omega) only [c_Pe_write, b_Pe_write_0, b_Pe_write_5, b_Pe_write_8, b_Pe_write_13, b_Pe_write_16, b_Pe_write_19, b_Pe_write_31, b_Pe_write_34, b_Pe_write_43, tp0, tp1, tp2, tp3, tp4, tp5, tp6, tp7, tp8, tp9, bk0, bk1, bk2, bk3, bk4, e1, e2, n1, am_ck_T, am_ck_t, am_cif_t, am_cif_f, am_cif_T, am_cif_F, am_then_s, am_push_s, am_push_n, true_and, and_true, true_or, or_true, Int.cast_ofNat_Int, am_02, am_22, not_true_eq_false, not_false_eq_true]
        · have e1 := m_isPerson hS hP c.1 i1
          have e2 := m_isPerson hS hP c.1 i2
          rw [bo_t hp] at e1
          rw [bo_t hq] at e2
          have n1 : M 164 23 = 20 := by rw [c.2.2.2.2.2.2.1.1]; omega
          simp (disch := omega) only [c_Mo_write, b_Mo_write_0, b_Mo_write_5, b_Mo_write_8, b_Mo_write_13, b_Mo_write_16, b_Mo_write_19, b_Mo_write_28, b_Mo_write_31, mo0, mr0, mr1, mr2, mr3, mr4, mr5, mr6, mr7, mr8, mr9, mr10, mr11, mk0, mk1, mk2, mk3, mk4, mk5, mk6, mk7, mk8, mk9, mk10, mk11, e1, e2, n1, am_ck_T, am_ck_t, am_cif_t, am_cif_f, am_cif_T, am_cif_F, am_then_s, am_push_s, am_push_n, true_and, and_true, true_or, or_true, Int.cast_ofNat_Int, am_02, am_22, not_true_eq_false, not_false_eq_true]
    · refine ⟨-1000000001, X, ⟨by omega, by omega⟩, okX_B ok (by omega), CC_id (fun M c => ?_), MM_id (fun M c => ?_)⟩
      · have e1 := k_isPerson hS hP c.1 i1
        have e2 := k_isPerson hS hP c.1 i2
        rw [bo_t hp] at e1
        rw [bo_f hq] at e2
        simp (disch := omega) only [c_Pe_write, b_Pe_write_0, b_Pe_write_5, b_Pe_write_8, b_Pe_write_13, b_Pe_write_16, b_Pe_write_19, b_Pe_write_31, b_Pe_write_34, b_Pe_write_43, tp0, tp1, tp2, tp3, tp4, tp5, tp6, tp7, tp8, tp9, bk0, bk1, bk2, bk3, bk4, e1, e2, am_ck_T, am_ck_t, am_cif_t, am_cif_f, am_cif_T, am_cif_F, am_then_s, am_push_s, am_push_n, true_and, and_true, true_or, or_true, Int.cast_ofNat_Int, am_02, am_22, not_true_eq_false, not_false_eq_true]
      · have e1 := m_isPerson hS hP c.1 i1
        have e2 := m_isPerson hS hP c.1 i2
        rw [bo_t hp] at e1
        rw [bo_f hq] at e2
        simp (disch := omega) only [c_Mo_write, b_Mo_write_0, b_Mo_write_5, b_Mo_write_8, b_Mo_write_13, b_Mo_write_16, b_Mo_write_19, b_Mo_write_28, b_Mo_write_31, mo0, mr0, mr1, mr2, mr3, mr4, mr5, mr6, mr7, mr8, mr9, mr10, mr11, mk0, mk1, mk2, mk3, mk4, mk5, mk6, mk7, mk8, mk9, mk10, mk11, e1, e2, am_ck_T, am_ck_t, am_cif_t, am_cif_f, am_cif_T, am_cif_F, am_then_s, am_push_s, am_push_n, true_and, and_true, true_or, or_true, Int.cast_ofNat_Int, am_02, am_22, not_true_eq_false, not_false_eq_true]
  · refine ⟨-1000000001, X, ⟨by omega, by omega⟩, okX_B ok (by omega), CC_id (fun M c => ?_), MM_id (fun M c => ?_)⟩
    · have e1 := k_isPerson hS hP c.1 i1
      rw [bo_f hp] at e1
      simp (disch := omega) only [c_Pe_write, b_Pe_write_0, b_Pe_write_5, b_Pe_write_8, b_Pe_write_13, b_Pe_write_16, b_Pe_write_19, b_Pe_write_31, b_Pe_write_34, b_Pe_write_43, tp0, tp1, tp2, tp3, tp4, tp5, tp6, tp7, tp8, tp9, bk0, bk1, bk2, bk3, bk4, e1, am_ck_T, am_ck_t, am_cif_t, am_cif_f, am_cif_T, am_cif_F, am_then_s, am_push_s, am_push_n, true_and, and_true, true_or, or_true, Int.cast_ofNat_Int, am_02, am_22, not_true_eq_false, not_false_eq_true]
    · have e1 := m_isPerson hS hP c.1 i1
      rw [bo_f hp] at e1
      simp (disch := omega) only [c_Mo_write, b_Mo_write_0, b_Mo_write_5, b_Mo_write_8, b_Mo_write_13, b_Mo_write_16, b_Mo_write_19, b_Mo_write_28, b_Mo_write_31, mo0, mr0, mr1, mr2, mr3, mr4, mr5, mr6, mr7, mr8, mr9, mr10, mr11, mk0, mk1, mk2, mk3, mk4, mk5, mk6, mk7, mk8, mk9, mk10, mk11, e1, am_ck_T, am_ck_t, am_cif_t, am_cif_f, am_cif_T, am_cif_F, am_then_s, am_push_s, am_push_n, true_and, and_true, true_or, or_true, Int.cast_ofNat_Int, am_02, am_22, not_true_eq_false, not_false_eq_true]
theorem p_see (hS : ly S) {l i : Int} (i1 : am_Ri l) (i2 : am_Ri i) : Pr S 86 167 [am_i l, am_i i] := by
  intro B X h0 h1 ok
  obtain ⟨tp0, tp1, tp2, tp3, tp4, tp5, tp6, tp7, tp8, tp9⟩ := hS.1
  obtain ⟨si0, si1, si2, si3, si4, si5, si6, si7⟩ := hS.2.2.2.2.2.2.2.1
  obtain ⟨mo0, ⟨mr0, mr1, mr2, mr3, mr4, mr5, mr6, mr7, mr8, mr9, mr10, mr11⟩, mk0, mk1, mk2, mk3, mk4, mk5, mk6, mk7, mk8, mk9, mk10, mk11⟩ := hS.2.2.2.2.2.2.2.2.2.2
  have hP := ok.1
  have hP1 := hP.1
  have hP2 := hP.2.1
  have hP3 := hP.2.2.1
  have hP4 := hP.2.2.2.1
  have okS := ok.2.2.2.2.2.2.1
  by_cases hp : 0 ≤ l ∧ l < vnl (xP X)
  · have s1 := hP.2.2.2.2.1 l hp.1 hp.2
    by_cases hq : 0 ≤ i ∧ i < vsz (xP X) l
    · by_cases hf : (xS X).length < 6
      · have ok2 : okX B (vSS X (xS X ++ [(l, i)])) := by
          obtain ⟨a1, a2, a3, a4, a5, a6, a7, a8⟩ := ok
          refine ⟨a1, a2, a3, a4, a5, a6, ⟨?_, fun t ht => ?_⟩, a8⟩
          · show (xS X ++ [(l, i)]).length ≤ 6
            rw [List.length_append, List.length_singleton]; omega
          · rcases List.mem_append.mp ht with ht | ht
            · exact a7.2 t ht
            · rw [List.mem_singleton.mp ht]; exact ⟨hp.1, hp.2, hq.1, hq.2⟩
        refine ⟨((xS X).length : Int) + 1, vSS X (xS X ++ [(l, i)]), ⟨by omega, by omega⟩, okX_B ok2 (by omega), fun M c => ?_, fun M c => ?_⟩
        · have e1 := k_isLine hS hP c.1 i1
          have e2 := k_isStop hS hP c.1 hp i2
          rw [bo_t hp] at e1
          rw [bo_t hq] at e2
          have n1 := c.2.2.2.2.2.1.1
          have m1 : ∀ i v, am_wr M 147 i v 146 4 = ((xS X).length : Int) := fun i v => (am_wr_k (by omega)).trans n1
          have m2 : ∀ i v i' v', am_wr (am_wr M 147 i v) 148 i' v' 146 4 = ((xS X).length : Int) := fun i v i' v' => (am_wr_k (by omega)).trans (m1 i v)
          refine ⟨am_wr (am_wr (am_wr M 147 ((xS X).length : Int) l) 148 ((xS X).length : Int) i) 146 4 (((xS X).length : Int) + 1), ?_, CX_ext c (fun k hk j => (am_wr_k (by omega)).trans ((am_wr_k (by omega)).trans (am_wr_k (by omega)))) ⟨?_, fun k t ht => ?_⟩ (cB_fr (fun k _ _ j => (am_wr_k (by omega)).trans ((am_wr_k (by omega)).trans (am_wr_k (by omega)))) c.2.2.2.2.2.2.1) (cT_fr (fun j => (am_wr_k (by omega)).trans ((am_wr_k (by omega)).trans (am_wr_k (by omega)))) (fun j => (am_wr_k (by omega)).trans ((am_wr_k (by omega)).trans (am_wr_k (by omega)))) c.2.2.2.2.2.2.2.1), fr_tr (fr_wr (by omega)) (fr_tr (fr_wr (by omega)) (fr_wr (by omega)))⟩
          · simp (disch := omega) only [c_Pe_see, b_Pe_see_0, b_Pe_see_5, b_Pe_see_8, b_Pe_see_11, b_Pe_see_17, b_Pe_see_20, b_Pe_see_23, b_Pe_see_35, b_Pe_see_38, b_Pe_see_47, c_Si_add, b_Si_add_0, b_Si_add_9, b_Si_add_39, tp0, tp1, tp2, tp3, tp4, tp5, tp6, tp7, tp8, tp9, si0, si1, si2, si3, si4, si5, si6, si7, e1, e2, n1, m1, m2, am_wr_s, am_ck_T, am_ck_t, am_cif_t, am_cif_f, am_cif_T, am_cif_F, am_then_s, am_push_s, am_push_n, true_and, and_true, true_or, or_true, Int.cast_ofNat_Int, am_02, am_22, not_true_eq_false, not_false_eq_true]
          · rw [am_wr_s, List.length_append, List.length_singleton]; omega
          · rw [am_wr_k (show (147 : Nat) ≠ 146 by omega), am_wr_k (show (148 : Nat) ≠ 146 by omega)]
            exact pr_add (by omega) c.2.2.2.2.2.1.2 k t ht
        · have e1 := m_isLine hS hP c.1 i1
          have e2 := m_in (S := S) (M := M) (v := i) (lo := 0) (hi := vsz (xP X) l - 1) ⟨by omega, by omega⟩ ⟨by omega, by omega⟩ ⟨by omega, by omega⟩
          have e4 := (c.1.2.2.1 l hp.1 hp.2).1
          rw [bo_t hp] at e1
          rw [bo_t (by omega)] at e2
          have n1 := c.2.2.2.2.2.1.1
          have m1 : ∀ i v, am_wr M 173 i v 164 20 = ((xS X).length : Int) := fun i v => (am_wr_k (by omega)).trans n1
          have m2 : ∀ i v i' v', am_wr (am_wr M 173 i v) 174 i' v' 164 20 = ((xS X).length : Int) := fun i v i' v' => (am_wr_k (by omega)).trans (m1 i v)
          refine ⟨am_wr (am_wr (am_wr M 173 ((xS X).length : Int) l) 174 ((xS X).length : Int) i) 164 20 (((xS X).length : Int) + 1), ?_, MX_ext hP c (fun k hk j => (am_wr_k (by omega)).trans ((am_wr_k (by omega)).trans (am_wr_k (by omega)))) (fun j _ hj _ => (am_wr_i hj).trans ((am_wr_k (by omega)).trans (am_wr_k (by omega)))) ⟨?_, fun k t ht => ?_⟩ ?_ ?_, fr_tr (fr_wr (by omega)) (fr_tr (fr_wr (by omega)) (fr_wr (by omega)))⟩
          · simp (disch := omega) only [c_Mo_see, b_Mo_see_0, b_Mo_see_5, b_Mo_see_8, b_Mo_see_11, b_Mo_see_26, b_Mo_see_29, b_Mo_see_32, b_Mo_see_41, b_Mo_see_44, mo0, mr0, mr1, mr2, mr3, mr4, mr5, mr6, mr7, mr8, mr9, mr10, mr11, mk0, mk1, mk2, mk3, mk4, mk5, mk6, mk7, mk8, mk9, mk10, mk11, e1, e2, e4, n1, m1, m2, am_wr_s, am_ck_T, am_ck_t, am_cif_t, am_cif_f, am_cif_T, am_cif_F, am_then_s, am_push_s, am_push_n, true_and, and_true, true_or, or_true, Int.cast_ofNat_Int, am_02, am_22, not_true_eq_false, not_false_eq_true]
          · rw [am_wr_s, List.length_append, List.length_singleton]; omega
          · rw [am_wr_k (show (173 : Nat) ≠ 164 by omega), am_wr_k (show (174 : Nat) ≠ 164 by omega)]
            exact pr_add (by omega) c.2.2.2.2.2.1.2 k t ht
          · exact ⟨(am_wr_i (by omega)).trans ((am_wr_k (by omega)).trans ((am_wr_k (by omega)).trans c.2.2.2.2.2.2.1.1)), fun k t ht => ⟨(am_wr_k (by omega)).trans ((am_wr_k (by omega)).trans ((am_wr_k (by omega)).trans (c.2.2.2.2.2.2.1.2 k t ht).1)), (am_wr_k (by omega)).trans ((am_wr_k (by omega)).trans ((am_wr_k (by omega)).trans (c.2.2.2.2.2.2.1.2 k t ht).2))⟩⟩
          · exact ⟨(am_wr_i (by omega)).trans ((am_wr_k (by omega)).trans ((am_wr_k (by omega)).trans c.2.2.2.2.2.2.2.1.1)), fun k t ht => (am_wr_k (by omega)).trans ((am_wr_k (by omega)).trans ((am_wr_k (by omega)).trans (c.2.2.2.2.2.2.2.1.2 k t ht)))⟩
      · refine ⟨-1000000004, X, ⟨by omega, by omega⟩, okX_B ok (by omega), CC_id (fun M c => ?_), MM_id (fun M c => ?_)⟩
        · have e1 := k_isLine hS hP c.1 i1
          have e2 := k_isStop hS hP c.1 hp i2
          rw [bo_t hp] at e1
          rw [bo_t hq] at e2
          have n1 := c.2.2.2.2.2.1.1
          simp (disch := omega) only [c_Pe_see, b_Pe_see_0, b_Pe_see_5, b_Pe_see_8, b_Pe_see_11, b_Pe_see_17, b_Pe_see_20, b_Pe_see_23, b_Pe_see_35, b_Pe_see_38, b_Pe_see_47, tp0, tp1, tp2, tp3, tp4, tp5, tp6, tp7, tp8, tp9, si0, si1, si2, si3, si4, si5, si6, si7, e1, e2, n1, am_ck_T, am_ck_t, am_cif_t, am_cif_f, am_cif_T, am_cif_F, am_then_s, am_push_s, am_push_n, true_and, and_true, true_or, or_true, Int.cast_ofNat_Int, am_02, am_22, not_true_eq_false, not_false_eq_true]
        · have e1 := m_isLine hS hP c.1 i1
          have e2 := m_in (S := S) (M := M) (v := i) (lo := 0) (hi := vsz (xP X) l - 1) ⟨by omega, by omega⟩ ⟨by omega, by omega⟩ ⟨by omega, by omega⟩
          have e4 := (c.1.2.2.1 l hp.1 hp.2).1
          rw [bo_t hp] at e1
          rw [bo_t (by omega)] at e2
          have n1 : M 164 20 = 6 := by rw [c.2.2.2.2.2.1.1]; omega
          simp (disch := omega) only [c_Mo_see, b_Mo_see_0, b_Mo_see_5, b_Mo_see_8, b_Mo_see_11, b_Mo_see_26, b_Mo_see_29, b_Mo_see_32, b_Mo_see_41, b_Mo_see_44, mo0, mr0, mr1, mr2, mr3, mr4, mr5, mr6, mr7, mr8, mr9, mr10, mr11, mk0, mk1, mk2, mk3, mk4, mk5, mk6, mk7, mk8, mk9, mk10, mk11, e1, e2, e4, n1, am_ck_T, am_ck_t, am_cif_t, am_cif_f, am_cif_T, am_cif_F, am_then_s, am_push_s, am_push_n, true_and, and_true, true_or, or_true, Int.cast_ofNat_Int, am_02, am_22, not_true_eq_false, not_false_eq_true]
    · refine ⟨-1000000002, X, ⟨by omega, by omega⟩, okX_B ok (by omega), CC_id (fun M c => ?_), MM_id (fun M c => ?_)⟩
      · have e1 := k_isLine hS hP c.1 i1
        have e2 := k_isStop hS hP c.1 hp i2
        rw [bo_t hp] at e1
        rw [bo_f hq] at e2
        simp (disch := omega) only [c_Pe_see, b_Pe_see_0, b_Pe_see_5, b_Pe_see_8, b_Pe_see_11, b_Pe_see_17, b_Pe_see_20, b_Pe_see_23, b_Pe_see_35, b_Pe_see_38, b_Pe_see_47, tp0, tp1, tp2, tp3, tp4, tp5, tp6, tp7, tp8, tp9, si0, si1, si2, si3, si4, si5, si6, si7, e1, e2, am_ck_T, am_ck_t, am_cif_t, am_cif_f, am_cif_T, am_cif_F, am_then_s, am_push_s, am_push_n, true_and, and_true, true_or, or_true, Int.cast_ofNat_Int, am_02, am_22, not_true_eq_false, not_false_eq_true]
      · have e1 := m_isLine hS hP c.1 i1
        have e2 := m_in (S := S) (M := M) (v := i) (lo := 0) (hi := vsz (xP X) l - 1) ⟨by omega, by omega⟩ ⟨by omega, by omega⟩ ⟨by omega, by omega⟩
        have e4 := (c.1.2.2.1 l hp.1 hp.2).1
        rw [bo_t hp] at e1
        rw [bo_f (by omega)] at e2
        simp (disch := omega) only [c_Mo_see, b_Mo_see_0, b_Mo_see_5, b_Mo_see_8, b_Mo_see_11, b_Mo_see_26, b_Mo_see_29, b_Mo_see_32, b_Mo_see_41, b_Mo_see_44, mo0, mr0, mr1, mr2, mr3, mr4, mr5, mr6, mr7, mr8, mr9, mr10, mr11, mk0, mk1, mk2, mk3, mk4, mk5, mk6, mk7, mk8, mk9, mk10, mk11, e1, e2, e4, am_ck_T, am_ck_t, am_cif_t, am_cif_f, am_cif_T, am_cif_F, am_then_s, am_push_s, am_push_n, true_and, and_true, true_or, or_true, Int.cast_ofNat_Int, am_02, am_22, not_true_eq_false, not_false_eq_true]
  · refine ⟨-1000000001, X, ⟨by omega, by omega⟩, okX_B ok (by omega), CC_id (fun M c => ?_), MM_id (fun M c => ?_)⟩
    · have e1 := k_isLine hS hP c.1 i1
      rw [bo_f hp] at e1
      simp (disch := omega) only [c_Pe_see, b_Pe_see_0, b_Pe_see_5, b_Pe_see_8, b_Pe_see_11, b_Pe_see_17, b_Pe_see_20, b_Pe_see_23, b_Pe_see_35, b_Pe_see_38, b_Pe_see_47, tp0, tp1, tp2, tp3, tp4, tp5, tp6, tp7, tp8, tp9, si0, si1, si2, si3, si4, si5, si6, si7, e1, am_ck_T, am_ck_t, am_cif_t, am_cif_f, am_cif_T, am_cif_F, am_then_s, am_push_s, am_push_n, true_and, and_true, true_or, or_true, Int.cast_ofNat_Int, am_02, am_22, not_true_eq_false, not_false_eq_true]
    · have e1 := m_isLine hS hP c.1 i1
      rw [bo_f hp] at e1
      simp (disch := omega) only [c_Mo_see, b_Mo_see_0, b_Mo_see_5, b_Mo_see_8, b_Mo_see_11, b_Mo_see_26, b_Mo_see_29, b_Mo_see_32, b_Mo_see_41, b_Mo_see_44, mo0, mr0, mr1, mr2, mr3, mr4, mr5, mr6, mr7, mr8, mr9, mr10, mr11, mk0, mk1, mk2, mk3, mk4, mk5, mk6, mk7, mk8, mk9, mk10, mk11, e1, am_ck_T, am_ck_t, am_cif_t, am_cif_f, am_cif_T, am_cif_F, am_then_s, am_push_s, am_push_n, true_and, and_true, true_or, or_true, Int.cast_ofNat_Int, am_02, am_22, not_true_eq_false, not_false_eq_true]
end OPS6
