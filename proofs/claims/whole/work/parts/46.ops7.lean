/-! feed, tear, judge, names, meet -/
theorem bt_or0 : ∀ (d : Fin 256) (p : Fin 8), am_or (d.val : Int) (am_shl 0 (p.val : Int)) = (d.val : Int) := by decide +kernel
/-- who stands at the gate q -/
noncomputable def vmt (R : vR) (q : Int) : Nat → Int → Int → Int
  | 0, _, a => a
  | n + 1, p, a => vmt R q n (p + 1) (am_cif (vlv R p ∧ vgt R p = q) (am_or a (am_shl 1 p)) a)
/-- the first entry that is wrong -/
def vjg (R : vR) : List (Int × Int) → Int → Int
  | [], _ => -1
  | t :: l, i => if vgt R t.1 = t.2 then vjg R l (i + 1) else i
def vnm (q : Int) : Nat → Int → Int
  | 0, y => y
  | n + 1, y => vnm q n (y * (1000 - q) / 1000)
theorem vnm_rng {q : Int} (h1 : 0 ≤ q) (h2 : q ≤ 1000) : ∀ (n : Nat) (y : Int), 0 ≤ y → y ≤ 1000000000 → 0 ≤ vnm q n y ∧ vnm q n y ≤ 1000000000 := by
  intro n
  induction n with
  | zero => intro y h3 h4; exact ⟨h3, h4⟩
  | succ n ih =>
    intro y h3 h4
    have m1 : 0 ≤ y * (1000 - q) := Int.mul_nonneg h3 (by omega)
    have m2 : y * (1000 - q) ≤ y * 1000 := Int.mul_le_mul_of_nonneg_left (by omega) h3
    exact ih _ (by omega) (by omega)
section OPS7
variable {S : am_S} {M M1 : am_M} {X : vX} {B : Int} {P : vP}
theorem p_feed (hS : ly S) {v : Int} (i1 : am_Ri v) : Pr S 64 108 [am_i v] := by
  intro B X h0 h1 ok
  obtain ⟨tp0, tp1, tp2, tp3, tp4, tp5, tp6, tp7, tp8, tp9⟩ := hS.1
  obtain ⟨re0, re1, re2, re3⟩ := hS.2.2.2.1
  obtain ⟨mo0, ⟨mr0, mr1, mr2, mr3, mr4, mr5, mr6, mr7, mr8, mr9, mr10, mr11⟩, mk0, mk1, mk2, mk3, mk4, mk5, mk6, mk7, mk8, mk9, mk10, mk11⟩ := hS.2.2.2.2.2.2.2.2.2.2
  have hP := ok.1
  have okT := ok.2.2.2.2.2.2.2.2.1
  by_cases hv : 0 ≤ v ∧ v ≤ 255
  · by_cases hf : (xT X).length < 200
    · have ok2 : okX B (vST X (xT X ++ [v])) := by
        obtain ⟨a1, a2, a3, a4, a5, a6, a7, a8, a9, a10⟩ := ok
        refine ⟨a1, a2, a3, a4, a5, a6, a7, a8, ⟨?_, fun t ht => ?_⟩, a10⟩
        · show (xT X ++ [v]).length ≤ 200
          rw [List.length_append, List.length_singleton]; omega
        · rcases List.mem_append.mp ht with ht | ht
          · exact a9.2 t ht
          · rw [List.mem_singleton.mp ht]; exact hv
      have add : ∀ (M : am_M) (a : Nat), (∀ (k : Nat) (q : Int), (xT X)[k]? = some q → M a (k : Int) = q) → ∀ (k : Nat) (q : Int), (xT X ++ [v])[k]? = some q → am_wr M a ((xT X).length : Int) v a (k : Int) = q := by
        intro M a h k q hq
        by_cases hk : k < (xT X).length
        · rw [List.getElem?_append_left hk] at hq
          rw [am_wr_i (by omega)]; exact h k q hq
        · rw [List.getElem?_append_right (by omega)] at hq
          have hk2 : k = (xT X).length := by
            have := (List.getElem?_eq_some_iff.mp hq).1
            rw [List.length_singleton] at this
            omega
          subst hk2
          rw [Nat.sub_self] at hq
          cases hq
          exact am_wr_s
      refine ⟨((xT X).length : Int) + 1, vST X (xT X ++ [v]), ⟨by omega, by omega⟩, okX_B ok2 (by omega), fun M c => ?_, fun M c => ?_⟩
      · have n1 := c.2.2.2.2.2.2.2.1.1
        have m1 : ∀ i v, am_wr M 13 i v 7 2 = ((xT X).length : Int) := fun i v => (am_wr_k (by omega)).trans n1
        refine ⟨am_wr (am_wr M 13 ((xT X).length : Int) v) 7 2 (((xT X).length : Int) + 1), ?_, CX_ext c (fun k hk j => (am_wr_k (by omega)).trans (am_wr_k (by omega))) (cS_fr (fun k _ _ j => (am_wr_k (by omega)).trans (am_wr_k (by omega))) c.2.2.2.2.2.1) (cB_fr (fun k _ _ j => (am_wr_k (by omega)).trans (am_wr_k (by omega))) c.2.2.2.2.2.2.1) ⟨?_, fun k t ht => ?_⟩, fr_tr (fr_wr (by omega)) (fr_wr (by omega))⟩
        · simp (disch := omega) only [c_Pe_feed, b_Pe_feed_0, b_Pe_feed_4, b_Pe_feed_11, b_Pe_feed_14, b_Pe_feed_27, b_Pe_feed_30, b_Pe_feed_38, c_Re_add, b_Re_add_0, b_Re_add_10, b_Re_add_30, tp0, tp1, tp2, tp3, tp4, tp5, tp6, tp7, tp8, tp9, re0, re1, re2, re3, n1, m1, am_wr_s, am_ck_T, am_ck_t, am_cif_t, am_cif_f, am_cif_T, am_cif_F, am_then_s, am_push_s, am_push_n, true_and, and_true, true_or, or_true, Int.cast_ofNat_Int, am_02, am_22, not_true_eq_false, not_false_eq_true]
        · rw [am_wr_s, List.length_append, List.length_singleton]; omega
        · rw [am_wr_k (show (13 : Nat) ≠ 7 by omega)]
          exact add M 13 c.2.2.2.2.2.2.2.1.2 k t ht
      · have e0 := m_in (S := S) (M := M) (v := v) (lo := 0) (hi := 255) ⟨by omega, by omega⟩ ⟨by omega, by omega⟩ ⟨by omega, by omega⟩
        rw [bo_t hv] at e0
        have n1 := c.2.2.2.2.2.2.2.1.1
        have m1 : ∀ i v, am_wr M 171 i v 164 11 = ((xT X).length : Int) := fun i v => (am_wr_k (by omega)).trans n1
        refine ⟨am_wr (am_wr M 171 ((xT X).length : Int) v) 164 11 (((xT X).length : Int) + 1), ?_, MX_ext hP c (fun k hk j => (am_wr_k (by omega)).trans (am_wr_k (by omega))) (fun j hj _ _ => (am_wr_i hj).trans (am_wr_k (by omega))) ?_ ?_ ⟨?_, fun k t ht => ?_⟩, fr_tr (fr_wr (by omega)) (fr_wr (by omega))⟩
        · simp (disch := omega) only [c_Mo_feed, b_Mo_feed_0, b_Mo_feed_9, b_Mo_feed_12, b_Mo_feed_15, b_Mo_feed_25, b_Mo_feed_28, mo0, mr0, mr1, mr2, mr3, mr4, mr5, mr6, mr7, mr8, mr9, mr10, mr11, mk0, mk1, mk2, mk3, mk4, mk5, mk6, mk7, mk8, mk9, mk10, mk11, e0, n1, m1, am_wr_s, am_ck_T, am_ck_t, am_cif_t, am_cif_f, am_cif_T, am_cif_F, am_then_s, am_push_s, am_push_n, true_and, and_true, true_or, or_true, Int.cast_ofNat_Int, am_02, am_22, not_true_eq_false, not_false_eq_true]
        · exact ⟨(am_wr_i (by omega)).trans ((am_wr_k (by omega)).trans c.2.2.2.2.2.1.1), fun k t ht => ⟨(am_wr_k (by omega)).trans ((am_wr_k (by omega)).trans (c.2.2.2.2.2.1.2 k t ht).1), (am_wr_k (by omega)).trans ((am_wr_k (by omega)).trans (c.2.2.2.2.2.1.2 k t ht).2)⟩⟩
        · exact ⟨(am_wr_i (by omega)).trans ((am_wr_k (by omega)).trans c.2.2.2.2.2.2.1.1), fun k t ht => ⟨(am_wr_k (by omega)).trans ((am_wr_k (by omega)).trans (c.2.2.2.2.2.2.1.2 k t ht).1), (am_wr_k (by omega)).trans ((am_wr_k (by omega)).trans (c.2.2.2.2.2.2.1.2 k t ht).2)⟩⟩
        · rw [am_wr_s, List.length_append, List.length_singleton]; omega
        · rw [am_wr_k (show (171 : Nat) ≠ 164 by omega)]
          exact add M 171 c.2.2.2.2.2.2.2.1.2 k t ht
    · refine ⟨-1000000004, X, ⟨by omega, by omega⟩, okX_B ok (by omega), CC_id (fun M c => ?_), MM_id (fun M c => ?_)⟩
      · have n1 := c.2.2.2.2.2.2.2.1.1
        simp (disch := omega) only [c_Pe_feed, b_Pe_feed_0, b_Pe_feed_4, b_Pe_feed_11, b_Pe_feed_14, b_Pe_feed_27, b_Pe_feed_30, b_Pe_feed_38, tp0, tp1, tp2, tp3, tp4, tp5, tp6, tp7, tp8, tp9, re0, re1, re2, re3, n1, am_ck_T, am_ck_t, am_cif_t, am_cif_f, am_cif_T, am_cif_F, am_then_s, am_push_s, am_push_n, true_and, and_true, true_or, or_true, Int.cast_ofNat_Int, am_02, am_22, not_true_eq_false, not_false_eq_true]
      · have e0 := m_in (S := S) (M := M) (v := v) (lo := 0) (hi := 255) ⟨by omega, by omega⟩ ⟨by omega, by omega⟩ ⟨by omega, by omega⟩
        rw [bo_t hv] at e0
        have n1 : M 164 11 = 200 := by rw [c.2.2.2.2.2.2.2.1.1]; omega
        simp (disch := omega) only [c_Mo_feed, b_Mo_feed_0, b_Mo_feed_9, b_Mo_feed_12, b_Mo_feed_15, b_Mo_feed_25, b_Mo_feed_28, mo0, mr0, mr1, mr2, mr3, mr4, mr5, mr6, mr7, mr8, mr9, mr10, mr11, mk0, mk1, mk2, mk3, mk4, mk5, mk6, mk7, mk8, mk9, mk10, mk11, e0, n1, am_ck_T, am_ck_t, am_cif_t, am_cif_f, am_cif_T, am_cif_F, am_then_s, am_push_s, am_push_n, true_and, and_true, true_or, or_true, Int.cast_ofNat_Int, am_02, am_22, not_true_eq_false, not_false_eq_true]
  · refine ⟨-1000000002, X, ⟨by omega, by omega⟩, okX_B ok (by omega), CC_id (fun M c => ?_), MM_id (fun M c => ?_)⟩
    · by_cases hn1 : v < 0
      · simp (disch := omega) only [c_Pe_feed, b_Pe_feed_0, b_Pe_feed_4, b_Pe_feed_11, b_Pe_feed_14, b_Pe_feed_27, b_Pe_feed_30, b_Pe_feed_38, tp0, tp1, tp2, tp3, tp4, tp5, tp6, tp7, tp8, tp9, am_ck_T, am_ck_t, am_cif_t, am_cif_f, am_cif_T, am_cif_F, am_then_s, am_push_s, am_push_n, true_and, and_true, true_or, or_true, Int.cast_ofNat_Int, am_02, am_22, not_true_eq_false, not_false_eq_true]
      · simp (disch := omega) only [c_Pe_feed, b_Pe_feed_0, b_Pe_feed_4, b_Pe_feed_11, b_Pe_feed_14, b_Pe_feed_27, b_Pe_feed_30, b_Pe_feed_38, tp0, tp1, tp2, tp3, tp4, tp5, tp6, tp7, tp8, tp9, am_ck_T, am_ck_t, am_cif_t, am_cif_f, am_cif_T, am_cif_F, am_then_s, am_push_s, am_push_n, true_and, and_true, true_or, or_true, Int.cast_ofNat_Int, am_02, am_22, not_true_eq_false, not_false_eq_true]
    · have e0 := m_in (S := S) (M := M) (v := v) (lo := 0) (hi := 255) ⟨by omega, by omega⟩ ⟨by omega, by omega⟩ ⟨by omega, by omega⟩
      rw [bo_f hv] at e0
      simp (disch := omega) only [c_Mo_feed, b_Mo_feed_0, b_Mo_feed_9, b_Mo_feed_12, b_Mo_feed_15, b_Mo_feed_25, b_Mo_feed_28, mo0, mr0, mr1, mr2, mr3, mr4, mr5, mr6, mr7, mr8, mr9, mr10, mr11, mk0, mk1, mk2, mk3, mk4, mk5, mk6, mk7, mk8, mk9, mk10, mk11, e0, am_ck_T, am_ck_t, am_cif_t, am_cif_f, am_cif_T, am_cif_F, am_then_s, am_push_s, am_push_n, true_and, and_true, true_or, or_true, Int.cast_ofNat_Int, am_02, am_22, not_true_eq_false, not_false_eq_true]
theorem p_tear (hS : ly S) : Pr S 91 174 [] := by
  intro B X h0 h1 ok
  obtain ⟨tp0, tp1, tp2, tp3, tp4, tp5, tp6, tp7, tp8, tp9⟩ := hS.1
  obtain ⟨si0, si1, si2, si3, si4, si5, si6, si7⟩ := hS.2.2.2.2.2.2.2.1
  obtain ⟨bk0, bk1, bk2, bk3, bk4⟩ := hS.2.2.2.2.2.2.2.2.1
  obtain ⟨mo0, ⟨mr0, mr1, mr2, mr3, mr4, mr5, mr6, mr7, mr8, mr9, mr10, mr11⟩, mk0, mk1, mk2, mk3, mk4, mk5, mk6, mk7, mk8, mk9, mk10, mk11⟩ := hS.2.2.2.2.2.2.2.2.2.2
  have hP := ok.1
  have okS := ok.2.2.2.2.2.2.1.1
  have okB := ok.2.2.2.2.2.2.2.1.1
  have ok2 : okX B (xP X, xR X, xH X, X.2.2.2.1, [], [], xT X, xF X, xD X) := by
    obtain ⟨a1, a2, a3, a4, a5, a6, a7, a8, a9⟩ := ok
    exact ⟨a1, a2, a3, a4, a5, a6, ⟨Nat.zero_le _, fun t ht => absurd ht List.not_mem_nil⟩, ⟨Nat.zero_le _, fun t ht => absurd ht List.not_mem_nil⟩, a9⟩
  refine ⟨((xS X).length : Int) + ((xB X).length : Int), _, ⟨by omega, by omega⟩, okX_B ok2 (by omega), fun M c => ?_, fun M c => ?_⟩
  · have n1 := c.2.2.2.2.2.1.1
    have n2 := c.2.2.2.2.2.2.1.1
    refine ⟨am_wr (am_wr M 146 4 0) 150 2 0, ?_, CX_ext c (fun k hk j => (am_wr_k (by omega)).trans (am_wr_k (by omega))) ⟨(am_wr_k (by omega)).trans am_wr_s, fun k q hq => by rw [List.getElem?_nil] at hq; cases hq⟩ ⟨am_wr_s, fun k q hq => by rw [List.getElem?_nil] at hq; cases hq⟩ (cT_fr (fun j => (am_wr_k (by omega)).trans (am_wr_k (by omega))) (fun j => (am_wr_k (by omega)).trans (am_wr_k (by omega))) c.2.2.2.2.2.2.2.1), fr_tr (fr_wr (by omega)) (fr_wr (by omega))⟩
    simp (disch := omega) only [c_Pe_tear, b_Pe_tear_0, b_Pe_tear_23, b_Pe_tear_30, c_Si_clear, b_Si_clear_0, c_Bk_clear, b_Bk_clear_0, tp0, tp1, tp2, tp3, tp4, tp5, tp6, tp7, tp8, tp9, si0, si1, si2, si3, si4, si5, si6, si7, bk0, bk1, bk2, bk3, bk4, n1, n2, implies_true, am_ck_T, am_ck_t, am_cif_t, am_cif_f, am_cif_T, am_cif_F, am_then_s, am_push_s, am_push_n, true_and, and_true, true_or, or_true, Int.cast_ofNat_Int, am_02, am_22, not_true_eq_false, not_false_eq_true]
  · have n1 := c.2.2.2.2.2.1.1
    have n2 := c.2.2.2.2.2.2.1.1
    refine ⟨am_wr (am_wr M 164 20 0) 164 23 0, ?_, MX_ext hP c (fun k hk j => (am_wr_k (by omega)).trans (am_wr_k (by omega))) (fun j _ h2 h3 => (am_wr_i h3).trans (am_wr_i h2)) ⟨(am_wr_i (by omega)).trans am_wr_s, fun k q hq => by rw [List.getElem?_nil] at hq; cases hq⟩ ⟨am_wr_s, fun k q hq => by rw [List.getElem?_nil] at hq; cases hq⟩ ⟨(am_wr_i (by omega)).trans ((am_wr_i (by omega)).trans c.2.2.2.2.2.2.2.1.1), fun k t ht => (am_wr_k (by omega)).trans ((am_wr_k (by omega)).trans (c.2.2.2.2.2.2.2.1.2 k t ht))⟩, fr_tr (fr_wr (by omega)) (fr_wr (by omega))⟩
    simp (disch := omega) only [c_Mo_tear, b_Mo_tear_0, mo0, mr0, mr1, mr2, mr3, mr4, mr5, mr6, mr7, mr8, mr9, mr10, mr11, mk0, mk1, mk2, mk3, mk4, mk5, mk6, mk7, mk8, mk9, mk10, mk11, n1, n2, implies_true, am_ck_T, am_ck_t, am_cif_t, am_cif_f, am_cif_T, am_cif_F, am_then_s, am_push_s, am_push_n, true_and, and_true, true_or, or_true, Int.cast_ofNat_Int, am_02, am_22, not_true_eq_false, not_false_eq_true]
end OPS7
