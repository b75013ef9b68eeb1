/-! undo -/
section OPS4
variable {S : am_S} {M M1 : am_M} {X : vX} {B : Int} {P : vP}
theorem CX_mid {R' : vR} {Hs' : List vR} (c : CX X M) (h : fr 14 143 M M1) (cr : cR (xP X) R' 14 M1) (ch : cH (xP X) Hs' M1) : CX (xP X, R', Hs', X.2.2.2) M1 := by
  obtain ⟨a1, a2, a3, a4, a5, a6, a7, a8, a9, a10⟩ := c
  exact ⟨cP_fr h (by omega) a1, cr, ch, cI_fr (fun k h1 h2 => h k (by omega)) a4, cI_fr (fun k h1 h2 => h k (by omega)) a5, cS_fr (fun k h1 h2 => h k (by omega)) a6, cB_fr (fun k h1 h2 => h k (by omega)) a7, cT_fr (h 7 (by omega)) (h 13 (by omega)) a8, (h 1 (by omega) 9).trans a9, (h 1 (by omega) 10).trans a10⟩
theorem MX_mid {R' : vR} {Hs' : List vR} (hP : okP (xP X)) (c : MX X M) (h : ∀ k, k ≠ 165 → ∀ j, ¬ (k = 164 ∧ j = 16) → M1 k j = M k j) (h2 : ∀ j, 81 ≤ j → j < 328 → M1 165 j = M 165 j) (mr : mR (xP X) R' 0 M1) (mh : mH (xP X) Hs' M1) : MX (xP X, R', Hs', X.2.2.2) M1 := by
  obtain ⟨a1, a2, a3, a4, a5, a6, a7, a8, a9, a10⟩ := c
  refine ⟨⟨(h 164 (by omega) 6 (by omega)).trans a1.1, (h 164 (by omega) 8 (by omega)).trans a1.2.1, fun l u v => ⟨(h 169 (by omega) l (by omega)).trans (a1.2.2.1 l u v).1, (h 170 (by omega) l (by omega)).trans (a1.2.2.1 l u v).2⟩, fun l k u v w z => (h 168 (by omega) _ (by omega)).trans (a1.2.2.2 l k u v w z)⟩, mr, mh, mI_fr hP (fun j => h 166 (by omega) j (by omega)) (fun j _ _ => h2 j (by omega) (by omega)) a4, mI_fr hP (fun j => h 166 (by omega) j (by omega)) (fun j _ _ => h2 j (by omega) (by omega)) a5, ?_, ?_, ?_, (h 164 (by omega) 15 (by omega)).trans a9, (h2 81 (by omega) (by omega)).trans a10⟩
  · exact ⟨(h 164 (by omega) 20 (by omega)).trans a6.1, fun k q hq => ⟨(h 173 (by omega) _ (by omega)).trans (a6.2 k q hq).1, (h 174 (by omega) _ (by omega)).trans (a6.2 k q hq).2⟩⟩
  · exact ⟨(h 164 (by omega) 23 (by omega)).trans a7.1, fun k q hq => ⟨(h 175 (by omega) _ (by omega)).trans (a7.2 k q hq).1, (h 176 (by omega) _ (by omega)).trans (a7.2 k q hq).2⟩⟩
  · exact ⟨(h 164 (by omega) 11 (by omega)).trans a8.1, fun k q hq => (h 171 (by omega) _ (by omega)).trans (a8.2 k q hq)⟩
theorem okX_mid {R' : vR} {Hs' : List vR} (ok : okX B X) (h1 : okR (xP X) B R') (h2 : ∀ q ∈ Hs', okR (xP X) B q) (h3 : Hs'.length ≤ 30) : okX B (xP X, R', Hs', X.2.2.2) := by
  obtain ⟨a1, a2, a3, a4, a5⟩ := ok
  exact ⟨a1, h1, h2, h3, a5⟩
theorem k_bringBack (hS : ly S) (ok : okX B X) (c : CX X M) {n : Nat} (h1 : 1 ≤ n) (h2 : n ≤ (xH X).length) {R' : vR} (hq : (xH X)[(xH X).length - n]? = some R') : ∃ M1, am_call 7 [am_r 22, am_r 14, am_i (n : Int)] S M = some (none, S, M1) ∧ CX (xP X, R', (xH X).take ((xH X).length - n), X.2.2.2) M1 ∧ fr 14 143 M M1 := by
  obtain ⟨hi0, hi1, hi2, hi3⟩ := hS.2.2.2.2.2.1
  obtain ⟨nx, n1, n2, n3, n4⟩ := c.2.2.1
  have hP := ok.1
  have hl := ok.2.2.2.1
  have lf14 : lf 14 := by unfold lf; omega
  have li0 := (hS.2.2.2.2.1 14 lf14).1
  have hb : lf (24 + 4 * ((nx + 30 - n) % 30)) := by unfold lf; omega
  have e0 : ((nx : Int) + 30 - (n : Int)) % 30 = (((nx + 30 - n) % 30 : Nat) : Int) := by omega
  have e1 := hi3 ((nx + 30 - n) % 30) (by omega)
  have t := n4 _ R' hq
  rw [show (nx + 30 - (xH X).length + ((xH X).length - n)) % 30 = (nx + 30 - n) % 30 by omega] at t
  have t2 : cR (xP X) R' (24 + 4 * ((nx + 30 - n) % 30)) (am_wr (am_wr M 22 1 (((nx + 30 - n) % 30 : Nat) : Int)) 22 2 ((xH X).length - (n : Int))) := cR_fr (fun k _ _ j => (am_wr_k (by omega)).trans (am_wr_k (by omega))) t
  obtain ⟨M1, d1, d2, d3⟩ := k_copy (S := S) (b := 14) hS lf14 hb hP (by omega) t2
  have m3 : am_wr M 22 1 (((nx + 30 - n) % 30 : Nat) : Int) 22 2 = ((xH X).length : Int) := by rw [am_wr_i (by omega)]; exact n3
  have m4 : am_wr (am_wr M 22 1 (((nx + 30 - n) % 30 : Nat) : Int)) 22 2 ((xH X).length - (n : Int)) 22 1 = (((nx + 30 - n) % 30 : Nat) : Int) := by rw [am_wr_i (by omega), am_wr_s]
  have fz0 : fr 14 143 M (am_wr (am_wr M 22 1 (((nx + 30 - n) % 30 : Nat) : Int)) 22 2 ((xH X).length - (n : Int))) := fr_tr (fr_wr (by omega)) (fr_wr (by omega))
  have fz1 : fr 14 143 M M1 := fr_tr fz0 (fr_mono d3 (by omega) (by omega))
  refine ⟨M1, ?_, CX_mid c fz1 d2 ?_, fz1⟩
  · simp (disch := omega) only [c_Hi_bringBack, b_Hi_bringBack_0, b_Hi_bringBack_5, b_Hi_bringBack_13, b_Hi_bringBack_14, b_Hi_bringBack_53, hi0, hi1, hi2, n2, n3, li0, e0, m3, m4, e1, d1, am_ck_T, am_ck_t, am_cif_t, am_cif_f, am_cif_T, am_cif_F, am_then_s, am_push_s, am_push_n, true_and, and_true, true_or, or_true, Int.cast_ofNat_Int, am_02, am_22, not_true_eq_false, not_false_eq_true]
  · refine ⟨(nx + 30 - n) % 30, by omega, ?_, ?_, fun k q hk => ?_⟩
    · rw [d3 22 (by omega)]; exact m4
    · rw [d3 22 (by omega), am_wr_s, List.length_take]; omega
    · have hk2 : k < (xH X).length - n := by
        have := (List.getElem?_eq_some_iff.mp hk).1
        rw [List.length_take] at this
        omega
      rw [List.getElem?_take_of_lt hk2] at hk
      have u := n4 k q hk
      rw [List.length_take, show ((nx + 30 - n) % 30 + 30 - min ((xH X).length - n) (xH X).length + k) % 30 = (nx + 30 - (xH X).length + k) % 30 by omega]
      exact cR_fr (fun c _ _ j => (d3 c (by omega) j).trans ((am_wr_k (by omega)).trans (am_wr_k (by omega)))) u
theorem p_undo (hS : ly S) {n : Int} (i1 : am_Ri n) : Pr S 77 149 [am_i n] := by
  intro B X h0 h1 ok
  obtain ⟨tp0, tp1, tp2, tp3, tp4, tp5, tp6, tp7, tp8, tp9⟩ := hS.1
  obtain ⟨hi0, hi1, hi2, hi3⟩ := hS.2.2.2.2.2.1
  obtain ⟨mo0, ⟨mr0, mr1, mr2, mr3, mr4, mr5, mr6, mr7, mr8, mr9, mr10, mr11⟩, mk0, mk1, mk2, mk3, mk4, mk5, mk6, mk7, mk8, mk9, mk10, mk11⟩ := hS.2.2.2.2.2.2.2.2.2.2
  have hP := ok.1
  have hR := ok.2.1
  have hl := ok.2.2.2.1
  have lf14 : lf 14 := by unfold lf; omega
  have li0 := (hS.2.2.2.2.1 14 lf14).1
  by_cases hn : 1 ≤ n ∧ n ≤ 30
  · by_cases hm : n ≤ ((xH X).length : Int)
    · obtain ⟨N, rfl⟩ : ∃ N : Nat, n = (N : Int) := ⟨n.toNat, by omega⟩
      have hlt : (xH X).length - N < (xH X).length := by omega
      obtain ⟨R', hq⟩ : ∃ R', (xH X)[(xH X).length - N]? = some R' := ⟨_, List.getElem?_eq_getElem hlt⟩
      have okr : okR (xP X) B R' := ok.2.2.1 R' (List.mem_of_getElem? hq)
      have ok2 : okX B (xP X, R', (xH X).take ((xH X).length - N), X.2.2.2) := okX_mid ok okr (fun q h => ok.2.2.1 q (List.mem_of_mem_take h)) (by rw [List.length_take]; omega)
      have r := okr.2.2.2.2.2.2.2.2
      refine ⟨vdy R', (xP X, R', (xH X).take ((xH X).length - N), X.2.2.2), ⟨by omega, by omega⟩, okX_B ok2 (by omega), fun M c => ?_, fun M c => ?_⟩
      · obtain ⟨nx, n1, n2, n3, n4⟩ := c.2.2.1
        obtain ⟨M1, d1, d2, d3⟩ := k_bringBack hS ok c (n := N) (by omega) (by omega) hq
        have e1 : M1 14 6 = vdy R' := d2.2.1.2.2.2.2.2
        refine ⟨M1, ?_, d2, fr_mono d3 (by omega) (by omega)⟩
        simp (disch := omega) only [c_Pe_undo, b_Pe_undo_0, b_Pe_undo_5, b_Pe_undo_11, b_Pe_undo_14, b_Pe_undo_25, b_Pe_undo_28, b_Pe_undo_40, tp0, tp1, tp2, tp3, tp4, tp5, tp6, tp7, tp8, tp9, hi0, hi1, hi2, li0, n3, d1, e1, am_ck_T, am_ck_t, am_cif_t, am_cif_f, am_cif_T, am_cif_F, am_then_s, am_push_s, am_push_n, true_and, and_true, true_or, or_true, Int.cast_ofNat_Int, am_02, am_22, not_true_eq_false, not_false_eq_true]
      · have n3 := c.2.2.1.1
        have n4 := c.2.2.1.2
        have e0 := m_in (S := S) (M := M) (v := (N : Int)) (lo := 1) (hi := 30) ⟨by omega, by omega⟩ ⟨by omega, by omega⟩ ⟨by omega, by omega⟩
        rw [bo_t hn] at e0
        obtain ⟨M1, d1, d2, d3⟩ := m_copy (M := am_wr M 164 16 (((xH X).length : Int) - (N : Int))) (S := S) hS (x := 328 + 82 * (((xH X).length : Int) - (N : Int))) (y := 0) (by omega) (by omega) (by omega)
        have g1 : ∀ v w : Int, am_wr M 164 16 v 165 w = M 165 w := fun v w => am_wr_k (by omega)
        have e81 : M 165 81 = xD X := c.2.2.2.2.2.2.2.2.2
        have src : mR (xP X) R' (328 + 82 * (((xH X).length : Int) - (N : Int))) (am_wr M 164 16 (((xH X).length : Int) - (N : Int))) := by
          have u := n4 _ R' hq
          rw [show (((xH X).length - N : Nat) : Int) = ((xH X).length : Int) - (N : Int) by omega] at u
          exact mR_fr hP (fun j _ _ => g1 _ j) u
        have mr1 : mR (xP X) R' 0 M1 := mR_copy hP d2 src
        have mr2 : mR (xP X) R' 0 (am_wr M1 165 81 (xD X)) := mR_fr hP (fun j _ _ => am_wr_i (by omega)) mr1
        have e79 : am_wr M1 165 81 (xD X) 165 79 = vdy R' := mr2.2.2.2.2.2
        refine ⟨am_wr M1 165 81 (xD X), ?_, MX_mid hP c ?_ ?_ mr2 ⟨?_, fun k q hk => ?_⟩, ?_⟩
        · simp (disch := omega) only [c_Mo_undo, b_Mo_undo_0, b_Mo_undo_9, b_Mo_undo_12, b_Mo_undo_15, b_Mo_undo_23, b_Mo_undo_26, b_Mo_undo_60, mo0, mr0, mr1, mr2, mr3, mr4, mr5, mr6, mr7, mr8, mr9, mr10, mr11, mk0, mk1, mk2, mk3, mk4, mk5, mk6, mk7, mk8, mk9, mk10, mk11, n3, e0, am_wr_s, d1, g1, e81, e79, am_ck_T, am_ck_t, am_cif_t, am_cif_f, am_cif_T, am_cif_F, am_then_s, am_push_s, am_push_n, true_and, and_true, true_or, or_true, Int.cast_ofNat_Int, am_02, am_22, not_true_eq_false, not_false_eq_true]
        · intro k hk j hj
          rw [am_wr_k hk, d3.1 k (by omega) j]
          by_cases h164 : k = 164
          · subst h164; exact am_wr_i (by omega)
          · exact am_wr_k h164
        · intro j j1 j2
          by_cases hj : j = 81
          · rw [hj, am_wr_s, e81]
          · rw [am_wr_i hj, d3.2 j (by omega)]; exact g1 _ j
        · rw [am_wr_k (by omega), d3.1 164 (by omega) 16, am_wr_s, List.length_take]; omega
        · have hk2 : k < (xH X).length - N := by
            have := (List.getElem?_eq_some_iff.mp hk).1
            rw [List.length_take] at this
            omega
          rw [List.getElem?_take_of_lt hk2] at hk
          exact mR_fr hP (fun j _ _ => (am_wr_i (by omega)).trans ((d3.2 j (by omega)).trans (g1 _ j))) (n4 k q hk)
        · exact fr_tr (fr_wr (by omega)) (fr_tr (fr_mono d3.1 (by omega) (by omega)) (fr_wr (by omega)))
    · refine ⟨-1000000003, X, ⟨by omega, by omega⟩, okX_B ok (by omega), CC_id (fun M c => ?_), MM_id (fun M c => ?_)⟩
      · obtain ⟨nx, n1, n2, n3, n4⟩ := c.2.2.1
        simp (disch := omega) only [c_Pe_undo, b_Pe_undo_0, b_Pe_undo_5, b_Pe_undo_11, b_Pe_undo_14, b_Pe_undo_25, b_Pe_undo_28, b_Pe_undo_40, tp0, tp1, tp2, tp3, tp4, tp5, tp6, tp7, tp8, tp9, hi0, hi1, hi2, n3, am_ck_T, am_ck_t, am_cif_t, am_cif_f, am_cif_T, am_cif_F, am_then_s, am_push_s, am_push_n, true_and, and_true, true_or, or_true, Int.cast_ofNat_Int, am_02, am_22, not_true_eq_false, not_false_eq_true]
      · have n3 := c.2.2.1.1
        have e0 := m_in (S := S) (M := M) (v := n) (lo := 1) (hi := 30) ⟨by omega, by omega⟩ ⟨by omega, by omega⟩ ⟨by omega, by omega⟩
        rw [bo_t hn] at e0
        simp (disch := omega) only [c_Mo_undo, b_Mo_undo_0, b_Mo_undo_9, b_Mo_undo_12, b_Mo_undo_15, b_Mo_undo_23, b_Mo_undo_26, b_Mo_undo_60, mo0, mr0, mr1, mr2, mr3, mr4, mr5, mr6, mr7, mr8, mr9, mr10, mr11, mk0, mk1, mk2, mk3, mk4, mk5, mk6, mk7, mk8, mk9, mk10, mk11, n3, e0, am_ck_T, am_ck_t, am_cif_t, am_cif_f, am_cif_T, am_cif_F, am_then_s, am_push_s, am_push_n, true_and, and_true, true_or, or_true, Int.cast_ofNat_Int, am_02, am_22, not_true_eq_false, not_false_eq_true]
  · refine ⟨-1000000002, X, ⟨by omega, by omega⟩, okX_B ok (by omega), CC_id (fun M c => ?_), MM_id (fun M c => ?_)⟩
    · by_cases hn1 : n < 1
      · simp (disch := omega) only [c_Pe_undo, b_Pe_undo_0, b_Pe_undo_5, b_Pe_undo_11, b_Pe_undo_14, b_Pe_undo_25, b_Pe_undo_28, b_Pe_undo_40, tp0, tp1, tp2, tp3, tp4, tp5, tp6, tp7, tp8, tp9, hi0, hi1, hi2, am_ck_T, am_ck_t, am_cif_t, am_cif_f, am_cif_T, am_cif_F, am_then_s, am_push_s, am_push_n, true_and, and_true, true_or, or_true, Int.cast_ofNat_Int, am_02, am_22, not_true_eq_false, not_false_eq_true]
      · simp (disch := omega) only [c_Pe_undo, b_Pe_undo_0, b_Pe_undo_5, b_Pe_undo_11, b_Pe_undo_14, b_Pe_undo_25, b_Pe_undo_28, b_Pe_undo_40, tp0, tp1, tp2, tp3, tp4, tp5, tp6, tp7, tp8, tp9, hi0, hi1, hi2, am_ck_T, am_ck_t, am_cif_t, am_cif_f, am_cif_T, am_cif_F, am_then_s, am_push_s, am_push_n, true_and, and_true, true_or, or_true, Int.cast_ofNat_Int, am_02, am_22, not_true_eq_false, not_false_eq_true]
    · have e0 := m_in (S := S) (M := M) (v := n) (lo := 1) (hi := 30) ⟨by omega, by omega⟩ ⟨by omega, by omega⟩ ⟨by omega, by omega⟩
      rw [bo_f hn] at e0
      simp (disch := omega) only [c_Mo_undo, b_Mo_undo_0, b_Mo_undo_9, b_Mo_undo_12, b_Mo_undo_15, b_Mo_undo_23, b_Mo_undo_26, b_Mo_undo_60, mo0, mr0, mr1, mr2, mr3, mr4, mr5, mr6, mr7, mr8, mr9, mr10, mr11, mk0, mk1, mk2, mk3, mk4, mk5, mk6, mk7, mk8, mk9, mk10, mk11, e0, am_ck_T, am_ck_t, am_cif_t, am_cif_f, am_cif_T, am_cif_F, am_then_s, am_push_s, am_push_n, true_and, and_true, true_or, or_true, Int.cast_ofNat_Int, am_02, am_22, not_true_eq_false, not_false_eq_true]
end OPS4
