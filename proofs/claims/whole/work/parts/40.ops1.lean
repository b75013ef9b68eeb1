/-! ONE CALL: the class and the reference answer alike, and keep the state alike -/
def CC (S : am_S) (z : Nat) (as : List am_V) (X : vX) (r : Int) (X' : vX) : Prop := ∀ M, CX X M → ∃ M1, am_call z (am_r 1 :: as) S M = some (some (am_i r), S, M1) ∧ CX X' M1 ∧ fr 1 163 M M1
def MM (S : am_S) (z : Nat) (as : List am_V) (X : vX) (r : Int) (X' : vX) : Prop := ∀ M, MX X M → ∃ M1, am_call z (am_r 164 :: as) S M = some (some (am_i r), S, M1) ∧ MX X' M1 ∧ fr 164 176 M M1
def Pr (S : am_S) (zc zm : Nat) (as : List am_V) : Prop := ∀ B X, 0 ≤ B → B ≤ 1000000 → okX B X → ∃ r X', am_Ri r ∧ okX (B + 1000) X' ∧ CC S zc as X r X' ∧ MM S zm as X r X'
section OPS
variable {S : am_S} {M : am_M} {X : vX} {B : Int} {P : vP}
theorem CC_id {z : Nat} {as : List am_V} {r : Int} (h : ∀ M, CX X M → am_call z (am_r 1 :: as) S M = some (some (am_i r), S, M)) : CC S z as X r X := fun M c => ⟨M, h M c, c, fr_rf⟩
theorem MM_id {z : Nat} {as : List am_V} {r : Int} (h : ∀ M, MX X M → am_call z (am_r 164 :: as) S M = some (some (am_i r), S, M)) : MM S z as X r X := fun M c => ⟨M, h M c, c, fr_rf⟩
theorem okI_B {I : Option (vR × Int)} {B' : Int} (h : okI P B I) (hB : B ≤ B') : okI P B' I := fun q hq => ⟨okR_B (h q hq).1 hB, (h q hq).2⟩
theorem okX_B {B' : Int} (ok : okX B X) (hB : B ≤ B') : okX B' X := by
  obtain ⟨a1, a2, a3, a4, a5, a6, a7⟩ := ok
  exact ⟨a1, okR_B a2 hB, fun q hq => okR_B (a3 q hq) hB, a4, okI_B a5 hB, okI_B a6 hB, a7⟩
/-- the row changes, the old one can be brought back -/
theorem vrem_mem {Hs : List vR} {R q : vR} (h : q ∈ vrem Hs R) : q ∈ Hs ∨ q = R := by
  unfold vrem at h
  by_cases h1 : Hs.length = 30
  · rw [if_pos h1] at h
    rcases List.mem_append.mp h with h | h
    · exact Or.inl (List.mem_of_mem_drop h)
    · exact Or.inr (List.mem_singleton.mp h)
  · rw [if_neg h1] at h
    rcases List.mem_append.mp h with h | h
    · exact Or.inl h
    · exact Or.inr (List.mem_singleton.mp h)
theorem okX_rem (ok : okX B X) : okX B (xP X, xR X, vrem (xH X) (xR X), X.2.2.2) := by
  obtain ⟨a1, a2, a3, a4, a5⟩ := ok
  refine ⟨a1, a2, fun q hq => ?_, ?_, a5⟩
  · rcases vrem_mem hq with h | h
    · exact a3 q h
    · rw [h]; exact a2
  · show (vrem (xH X) (xR X)).length ≤ 30
    rw [vrem_len _ _ a4]; omega
theorem okX_row {B' : Int} {R' : vR} (ok : okX B X) (hB : B ≤ B') (hR : okR (xP X) B' R') : okX B' (xP X, R', X.2.2) := by
  obtain ⟨a1, a2, a3⟩ := okX_B ok hB
  exact ⟨a1, hR, a3⟩
theorem k_isPerson (hS : ly S) (hP : okP P) (cp : cP P M) {p : Int} (h : am_Ri p) : am_call 95 [am_r 1, am_i p] S M = some (some (am_i (bo (0 ≤ p ∧ p < vnp P))), S, M) := by
  obtain ⟨tp0, tp1, tp2, tp3, tp4, tp5, tp6, tp7, tp8, tp9⟩ := hS.1
  obtain ⟨pl0, pl1, pl2, pl3, pl4, pl5, pl6, pl7, pl8⟩ := hS.2.1
  have hP1 := hP.1
  have hP2 := hP.2.1
  have hP3 := hP.2.2.1
  have hP4 := hP.2.2.2.1
  have e1 := cp.1
  by_cases h1 : p < 0
  · rw [bo_f (by omega)]
    simp (disch := omega) only [c_Pe_isPerson, b_Pe_isPerson_0, b_Pe_isPerson_4, b_Pe_isPerson_15, b_Pe_isPerson_19, b_Pe_isPerson_20, tp0, tp1, tp2, tp3, tp4, tp5, tp6, tp7, tp8, tp9, pl0, pl1, pl2, pl3, pl4, pl5, pl6, pl7, pl8, e1, am_ck_T, am_ck_t, am_cif_t, am_cif_f, am_cif_T, am_cif_F, am_then_s, am_push_s, am_push_n, true_and, and_true, true_or, or_true, Int.cast_ofNat_Int, am_02, am_22, not_true_eq_false, not_false_eq_true]
  · by_cases h2 : vnp P ≤ p
    · rw [bo_f (by omega)]
      simp (disch := omega) only [c_Pe_isPerson, b_Pe_isPerson_0, b_Pe_isPerson_4, b_Pe_isPerson_15, b_Pe_isPerson_19, b_Pe_isPerson_20, tp0, tp1, tp2, tp3, tp4, tp5, tp6, tp7, tp8, tp9, pl0, pl1, pl2, pl3, pl4, pl5, pl6, pl7, pl8, e1, am_ck_T, am_ck_t, am_cif_t, am_cif_f, am_cif_T, am_cif_F, am_then_s, am_push_s, am_push_n, true_and, and_true, true_or, or_true, Int.cast_ofNat_Int, am_02, am_22, not_true_eq_false, not_false_eq_true]
    · rw [bo_t (by omega)]
      simp (disch := omega) only [c_Pe_isPerson, b_Pe_isPerson_0, b_Pe_isPerson_4, b_Pe_isPerson_15, b_Pe_isPerson_19, b_Pe_isPerson_20, tp0, tp1, tp2, tp3, tp4, tp5, tp6, tp7, tp8, tp9, pl0, pl1, pl2, pl3, pl4, pl5, pl6, pl7, pl8, e1, am_ck_T, am_ck_t, am_cif_t, am_cif_f, am_cif_T, am_cif_F, am_then_s, am_push_s, am_push_n, true_and, and_true, true_or, or_true, Int.cast_ofNat_Int, am_02, am_22, not_true_eq_false, not_false_eq_true]
theorem k_isLine (hS : ly S) (hP : okP P) (cp : cP P M) {p : Int} (h : am_Ri p) : am_call 96 [am_r 1, am_i p] S M = some (some (am_i (bo (0 ≤ p ∧ p < vnl P))), S, M) := by
  obtain ⟨tp0, tp1, tp2, tp3, tp4, tp5, tp6, tp7, tp8, tp9⟩ := hS.1
  obtain ⟨pl0, pl1, pl2, pl3, pl4, pl5, pl6, pl7, pl8⟩ := hS.2.1
  have hP1 := hP.1
  have hP2 := hP.2.1
  have hP3 := hP.2.2.1
  have hP4 := hP.2.2.2.1
  have e1 := cp.2.1
  by_cases h1 : p < 0
  · rw [bo_f (by omega)]
    simp (disch := omega) only [c_Pe_isLine, b_Pe_isLine_0, b_Pe_isLine_4, b_Pe_isLine_15, b_Pe_isLine_19, b_Pe_isLine_20, tp0, tp1, tp2, tp3, tp4, tp5, tp6, tp7, tp8, tp9, pl0, pl1, pl2, pl3, pl4, pl5, pl6, pl7, pl8, e1, am_ck_T, am_ck_t, am_cif_t, am_cif_f, am_cif_T, am_cif_F, am_then_s, am_push_s, am_push_n, true_and, and_true, true_or, or_true, Int.cast_ofNat_Int, am_02, am_22, not_true_eq_false, not_false_eq_true]
  · by_cases h2 : vnl P ≤ p
    · rw [bo_f (by omega)]
      simp (disch := omega) only [c_Pe_isLine, b_Pe_isLine_0, b_Pe_isLine_4, b_Pe_isLine_15, b_Pe_isLine_19, b_Pe_isLine_20, tp0, tp1, tp2, tp3, tp4, tp5, tp6, tp7, tp8, tp9, pl0, pl1, pl2, pl3, pl4, pl5, pl6, pl7, pl8, e1, am_ck_T, am_ck_t, am_cif_t, am_cif_f, am_cif_T, am_cif_F, am_then_s, am_push_s, am_push_n, true_and, and_true, true_or, or_true, Int.cast_ofNat_Int, am_02, am_22, not_true_eq_false, not_false_eq_true]
    · rw [bo_t (by omega)]
      simp (disch := omega) only [c_Pe_isLine, b_Pe_isLine_0, b_Pe_isLine_4, b_Pe_isLine_15, b_Pe_isLine_19, b_Pe_isLine_20, tp0, tp1, tp2, tp3, tp4, tp5, tp6, tp7, tp8, tp9, pl0, pl1, pl2, pl3, pl4, pl5, pl6, pl7, pl8, e1, am_ck_T, am_ck_t, am_cif_t, am_cif_f, am_cif_T, am_cif_F, am_then_s, am_push_s, am_push_n, true_and, and_true, true_or, or_true, Int.cast_ofNat_Int, am_02, am_22, not_true_eq_false, not_false_eq_true]
theorem k_isStop (hS : ly S) (hP : okP P) (cp : cP P M) {l k : Int} (hl : 0 ≤ l ∧ l < vnl P) (h : am_Ri k) : am_call 97 [am_r 1, am_i l, am_i k] S M = some (some (am_i (bo (0 ≤ k ∧ k < vsz P l))), S, M) := by
  obtain ⟨tp0, tp1, tp2, tp3, tp4, tp5, tp6, tp7, tp8, tp9⟩ := hS.1
  obtain ⟨pl0, pl1, pl2, pl3, pl4, pl5, pl6, pl7, pl8⟩ := hS.2.1
  have hP1 := hP.1
  have hP2 := hP.2.1
  have hP3 := hP.2.2.1
  have hP4 := hP.2.2.2.1
  have e1 := (cp.2.2.1 l hl.1 hl.2).1
  have s1 := hP.2.2.2.2.1 l hl.1 hl.2
  by_cases h1 : k < 0
  · rw [bo_f (by omega)]
    simp (disch := omega) only [c_Pe_isStop, b_Pe_isStop_0, b_Pe_isStop_4, b_Pe_isStop_17, b_Pe_isStop_21, b_Pe_isStop_22, tp0, tp1, tp2, tp3, tp4, tp5, tp6, tp7, tp8, tp9, pl0, pl1, pl2, pl3, pl4, pl5, pl6, pl7, pl8, e1, am_ck_T, am_ck_t, am_cif_t, am_cif_f, am_cif_T, am_cif_F, am_then_s, am_push_s, am_push_n, true_and, and_true, true_or, or_true, Int.cast_ofNat_Int, am_02, am_22, not_true_eq_false, not_false_eq_true]
  · by_cases h2 : vsz P l ≤ k
    · rw [bo_f (by omega)]
      simp (disch := omega) only [c_Pe_isStop, b_Pe_isStop_0, b_Pe_isStop_4, b_Pe_isStop_17, b_Pe_isStop_21, b_Pe_isStop_22, tp0, tp1, tp2, tp3, tp4, tp5, tp6, tp7, tp8, tp9, pl0, pl1, pl2, pl3, pl4, pl5, pl6, pl7, pl8, e1, am_ck_T, am_ck_t, am_cif_t, am_cif_f, am_cif_T, am_cif_F, am_then_s, am_push_s, am_push_n, true_and, and_true, true_or, or_true, Int.cast_ofNat_Int, am_02, am_22, not_true_eq_false, not_false_eq_true]
    · rw [bo_t (by omega)]
      simp (disch := omega) only [c_Pe_isStop, b_Pe_isStop_0, b_Pe_isStop_4, b_Pe_isStop_17, b_Pe_isStop_21, b_Pe_isStop_22, tp0, tp1, tp2, tp3, tp4, tp5, tp6, tp7, tp8, tp9, pl0, pl1, pl2, pl3, pl4, pl5, pl6, pl7, pl8, e1, am_ck_T, am_ck_t, am_cif_t, am_cif_f, am_cif_T, am_cif_F, am_then_s, am_push_s, am_push_n, true_and, and_true, true_or, or_true, Int.cast_ofNat_Int, am_02, am_22, not_true_eq_false, not_false_eq_true]
theorem k_isImage {i : Int} (h : am_Ri i) : am_call 98 [am_r 1, am_i i] S M = some (some (am_i (bo (0 ≤ i ∧ i < 2))), S, M) := by
  by_cases h1 : i < 0
  · rw [bo_f (by omega)]
    simp (disch := omega) only [c_Pe_isImage, b_Pe_isImage_0, b_Pe_isImage_4, b_Pe_isImage_9, b_Pe_isImage_13, b_Pe_isImage_14, am_ck_T, am_ck_t, am_cif_t, am_cif_f, am_cif_T, am_cif_F, am_then_s, am_push_s, am_push_n, true_and, and_true, true_or, or_true, Int.cast_ofNat_Int, am_02, am_22, not_true_eq_false, not_false_eq_true]
  · by_cases h2 : 2 ≤ i
    · rw [bo_f (by omega)]
      simp (disch := omega) only [c_Pe_isImage, b_Pe_isImage_0, b_Pe_isImage_4, b_Pe_isImage_9, b_Pe_isImage_13, b_Pe_isImage_14, am_ck_T, am_ck_t, am_cif_t, am_cif_f, am_cif_T, am_cif_F, am_then_s, am_push_s, am_push_n, true_and, and_true, true_or, or_true, Int.cast_ofNat_Int, am_02, am_22, not_true_eq_false, not_false_eq_true]
    · rw [bo_t (by omega)]
      simp (disch := omega) only [c_Pe_isImage, b_Pe_isImage_0, b_Pe_isImage_4, b_Pe_isImage_9, b_Pe_isImage_13, b_Pe_isImage_14, am_ck_T, am_ck_t, am_cif_t, am_cif_f, am_cif_T, am_cif_F, am_then_s, am_push_s, am_push_n, true_and, and_true, true_or, or_true, Int.cast_ofNat_Int, am_02, am_22, not_true_eq_false, not_false_eq_true]
/-- what refuses days -/
def vrfd (P : vP) (R : vR) (n : Int) : Int := if n < 1 ∨ 30 < n then -1000000002 else if vnp P = 0 then -1000000003 else if 9000 < vdy R then -1000000004 else 0
theorem k_days (hS : ly S) (hP : okP P) {R : vR} (hB : B ≤ 2000000) (hR : okR P B R) (cp : cP P M) (cr : cR P R 14 M) {n : Int} (h : am_Ri n) : am_call 99 [am_r 1, am_i n] S M = some (some (am_i (vrfd P R n)), S, M) := by
  obtain ⟨tp0, tp1, tp2, tp3, tp4, tp5, tp6, tp7, tp8, tp9⟩ := hS.1
  obtain ⟨pl0, pl1, pl2, pl3, pl4, pl5, pl6, pl7, pl8⟩ := hS.2.1
  have hP1 := hP.1
  have hP2 := hP.2.1
  have hP3 := hP.2.2.1
  have hP4 := hP.2.2.2.1
  have e1 := cp.1
  have e2 := cr.2.2.2.2.2
  have r2 := hR.2.2.2.2.2.2.2.2
  have li0 := (hS.2.2.2.2.1 14 (by unfold lf; omega)).1
  unfold vrfd
  by_cases h1 : n < 1
  · rw [if_pos (Or.inl h1)]
    simp (disch := omega) only [c_Pe_refusalOfDays, b_Pe_refusalOfDays_0, b_Pe_refusalOfDays_5, b_Pe_refusalOfDays_11, b_Pe_refusalOfDays_14, b_Pe_refusalOfDays_24, b_Pe_refusalOfDays_27, b_Pe_refusalOfDays_40, b_Pe_refusalOfDays_45, b_Pe_refusalOfDays_46, am_ck_T, am_ck_t, am_cif_t, am_cif_f, am_cif_T, am_cif_F, am_then_s, am_push_s, am_push_n, true_and, and_true, true_or, or_true, Int.cast_ofNat_Int, am_02, am_22, not_true_eq_false, not_false_eq_true]
  · by_cases h2 : 30 < n
    · rw [if_pos (Or.inr h2)]
      simp (disch := omega) only [c_Pe_refusalOfDays, b_Pe_refusalOfDays_0, b_Pe_refusalOfDays_5, b_Pe_refusalOfDays_11, b_Pe_refusalOfDays_14, b_Pe_refusalOfDays_24, b_Pe_refusalOfDays_27, b_Pe_refusalOfDays_40, b_Pe_refusalOfDays_45, b_Pe_refusalOfDays_46, am_ck_T, am_ck_t, am_cif_t, am_cif_f, am_cif_T, am_cif_F, am_then_s, am_push_s, am_push_n, true_and, and_true, true_or, or_true, Int.cast_ofNat_Int, am_02, am_22, not_true_eq_false, not_false_eq_true]
    · rw [if_neg (by omega)]
      by_cases h3 : vnp P = 0
      · rw [if_pos h3]
        simp (disch := omega) only [c_Pe_refusalOfDays, b_Pe_refusalOfDays_0, b_Pe_refusalOfDays_5, b_Pe_refusalOfDays_11, b_Pe_refusalOfDays_14, b_Pe_refusalOfDays_24, b_Pe_refusalOfDays_27, b_Pe_refusalOfDays_40, b_Pe_refusalOfDays_45, b_Pe_refusalOfDays_46, tp0, tp1, tp2, tp3, tp4, tp5, tp6, tp7, tp8, tp9, pl0, pl1, pl2, pl3, pl4, pl5, pl6, pl7, pl8, e1, h3, am_ck_T, am_ck_t, am_cif_t, am_cif_f, am_cif_T, am_cif_F, am_then_s, am_push_s, am_push_n, true_and, and_true, true_or, or_true, Int.cast_ofNat_Int, am_02, am_22, not_true_eq_false, not_false_eq_true]
      · rw [if_neg h3]
        by_cases h4 : 9000 < vdy R
        · rw [if_pos h4]
          simp (disch := omega) only [c_Pe_refusalOfDays, b_Pe_refusalOfDays_0, b_Pe_refusalOfDays_5, b_Pe_refusalOfDays_11, b_Pe_refusalOfDays_14, b_Pe_refusalOfDays_24, b_Pe_refusalOfDays_27, b_Pe_refusalOfDays_40, b_Pe_refusalOfDays_45, b_Pe_refusalOfDays_46, tp0, tp1, tp2, tp3, tp4, tp5, tp6, tp7, tp8, tp9, pl0, pl1, pl2, pl3, pl4, pl5, pl6, pl7, pl8, li0, e1, e2, am_ck_T, am_ck_t, am_cif_t, am_cif_f, am_cif_T, am_cif_F, am_then_s, am_push_s, am_push_n, true_and, and_true, true_or, or_true, Int.cast_ofNat_Int, am_02, am_22, not_true_eq_false, not_false_eq_true]
        · rw [if_neg h4]
          simp (disch := omega) only [c_Pe_refusalOfDays, b_Pe_refusalOfDays_0, b_Pe_refusalOfDays_5, b_Pe_refusalOfDays_11, b_Pe_refusalOfDays_14, b_Pe_refusalOfDays_24, b_Pe_refusalOfDays_27, b_Pe_refusalOfDays_40, b_Pe_refusalOfDays_45, b_Pe_refusalOfDays_46, tp0, tp1, tp2, tp3, tp4, tp5, tp6, tp7, tp8, tp9, pl0, pl1, pl2, pl3, pl4, pl5, pl6, pl7, pl8, li0, e1, e2, am_ck_T, am_ck_t, am_cif_t, am_cif_f, am_cif_T, am_cif_F, am_then_s, am_push_s, am_push_n, true_and, and_true, true_or, or_true, Int.cast_ofNat_Int, am_02, am_22, not_true_eq_false, not_false_eq_true]
theorem m_days (hS : ly S) (hP : okP P) {R : vR} (hB : B ≤ 2000000) (hR : okR P B R) (mp : mP P M) (mr : mR P R 0 M) {n : Int} (h : am_Ri n) : am_call 142 [am_r 164, am_i n] S M = some (some (am_i (vrfd P R n)), S, M) := by
  obtain ⟨mo0, ⟨mr0, mr1, mr2, mr3, mr4, mr5, mr6, mr7, mr8, mr9, mr10, mr11⟩, mk0, mk1, mk2, mk3, mk4, mk5, mk6, mk7, mk8, mk9, mk10, mk11⟩ := hS.2.2.2.2.2.2.2.2.2.2
  have hP1 := hP.1
  have hP2 := hP.2.1
  have hP3 := hP.2.2.1
  have hP4 := hP.2.2.2.1
  have e1 := mp.1
  have e2 : M 165 79 = vdy R := mr.2.2.2.2.2
  have r2 := hR.2.2.2.2.2.2.2.2
  have e0 := m_in (S := S) (M := M) (v := n) (lo := 1) (hi := 30) ⟨by omega, by omega⟩ ⟨by omega, by omega⟩ ⟨by omega, by omega⟩
  unfold vrfd
  by_cases h1 : n < 1 ∨ 30 < n
  · rw [if_pos h1]
    rw [bo_f (by omega)] at e0
    simp (disch := omega) only [c_Mo_refusedDays, b_Mo_refusedDays_0, b_Mo_refusedDays_9, b_Mo_refusedDays_12, b_Mo_refusedDays_15, b_Mo_refusedDays_22, b_Mo_refusedDays_27, b_Mo_refusedDays_40, b_Mo_refusedDays_45, b_Mo_refusedDays_46, e0, am_ck_T, am_ck_t, am_cif_t, am_cif_f, am_cif_T, am_cif_F, am_then_s, am_push_s, am_push_n, true_and, and_true, true_or, or_true, Int.cast_ofNat_Int, am_02, am_22, not_true_eq_false, not_false_eq_true]
  · rw [if_neg h1]
    rw [bo_t (by omega)] at e0
    by_cases h3 : vnp P = 0
    · rw [if_pos h3]
      simp (disch := omega) only [c_Mo_refusedDays, b_Mo_refusedDays_0, b_Mo_refusedDays_9, b_Mo_refusedDays_12, b_Mo_refusedDays_15, b_Mo_refusedDays_22, b_Mo_refusedDays_27, b_Mo_refusedDays_40, b_Mo_refusedDays_45, b_Mo_refusedDays_46, mo0, mr0, mr1, mr2, mr3, mr4, mr5, mr6, mr7, mr8, mr9, mr10, mr11, mk0, mk1, mk2, mk3, mk4, mk5, mk6, mk7, mk8, mk9, mk10, mk11, e0, e1, h3, am_ck_T, am_ck_t, am_cif_t, am_cif_f, am_cif_T, am_cif_F, am_then_s, am_push_s, am_push_n, true_and, and_true, true_or, or_true, Int.cast_ofNat_Int, am_02, am_22, not_true_eq_false, not_false_eq_true]
    · rw [if_neg h3]
      by_cases h4 : 9000 < vdy R
      · rw [if_pos h4]
        simp (disch := omega) only [c_Mo_refusedDays, b_Mo_refusedDays_0, b_Mo_refusedDays_9, b_Mo_refusedDays_12, b_Mo_refusedDays_15, b_Mo_refusedDays_22, b_Mo_refusedDays_27, b_Mo_refusedDays_40, b_Mo_refusedDays_45, b_Mo_refusedDays_46, mo0, mr0, mr1, mr2, mr3, mr4, mr5, mr6, mr7, mr8, mr9, mr10, mr11, mk0, mk1, mk2, mk3, mk4, mk5, mk6, mk7, mk8, mk9, mk10, mk11, e0, e1, e2, am_ck_T, am_ck_t, am_cif_t, am_cif_f, am_cif_T, am_cif_F, am_then_s, am_push_s, am_push_n, true_and, and_true, true_or, or_true, Int.cast_ofNat_Int, am_02, am_22, not_true_eq_false, not_false_eq_true]
      · rw [if_neg h4]
        simp (disch := omega) only [c_Mo_refusedDays, b_Mo_refusedDays_0, b_Mo_refusedDays_9, b_Mo_refusedDays_12, b_Mo_refusedDays_15, b_Mo_refusedDays_22, b_Mo_refusedDays_27, b_Mo_refusedDays_40, b_Mo_refusedDays_45, b_Mo_refusedDays_46, mo0, mr0, mr1, mr2, mr3, mr4, mr5, mr6, mr7, mr8, mr9, mr10, mr11, mk0, mk1, mk2, mk3, mk4, mk5, mk6, mk7, mk8, mk9, mk10, mk11, e0, e1, e2, am_ck_T, am_ck_t, am_cif_t, am_cif_f, am_cif_T, am_cif_F, am_then_s, am_push_s, am_push_n, true_and, and_true, true_or, or_true, Int.cast_ofNat_Int, am_02, am_22, not_true_eq_false, not_false_eq_true]
theorem p_fault (hS : ly S) : Pr S 66 120 [] := by
  intro B X h0 h1 ok
  obtain ⟨tp0, tp1, tp2, tp3, tp4, tp5, tp6, tp7, tp8, tp9⟩ := hS.1
  obtain ⟨mo0, ⟨mr0, mr1, mr2, mr3, mr4, mr5, mr6, mr7, mr8, mr9, mr10, mr11⟩, mk0, mk1, mk2, mk3, mk4, mk5, mk6, mk7, mk8, mk9, mk10, mk11⟩ := hS.2.2.2.2.2.2.2.2.2.2
  have r := ok.2.2.2.2.2.2.2.2.2.1
  refine ⟨xF X, X, ⟨by omega, by omega⟩, okX_B ok (by omega), CC_id (fun M c => ?_), MM_id (fun M c => ?_)⟩
  · have e := c.2.2.2.2.2.2.2.2.1
    simp (disch := omega) only [c_Pe_fault, b_Pe_fault_0, tp0, tp1, tp2, tp3, tp4, tp5, tp6, tp7, tp8, tp9, e, am_ck_T, am_ck_t, am_cif_t, am_cif_f, am_cif_T, am_cif_F, am_then_s, am_push_s, am_push_n, true_and, and_true, true_or, or_true, Int.cast_ofNat_Int, am_02, am_22, not_true_eq_false, not_false_eq_true]
  · have e := c.2.2.2.2.2.2.2.2.1
    simp (disch := omega) only [c_Mo_fault, b_Mo_fault_0, mo0, mr0, mr1, mr2, mr3, mr4, mr5, mr6, mr7, mr8, mr9, mr10, mr11, mk0, mk1, mk2, mk3, mk4, mk5, mk6, mk7, mk8, mk9, mk10, mk11, e, am_ck_T, am_ck_t, am_cif_t, am_cif_f, am_cif_T, am_cif_F, am_then_s, am_push_s, am_push_n, true_and, and_true, true_or, or_true, Int.cast_ofNat_Int, am_02, am_22, not_true_eq_false, not_false_eq_true]
theorem p_near (hS : ly S) {p q : Int} (i1 : am_Ri p) (i2 : am_Ri q) : Pr S 68 132 [am_i p, am_i q] := by
  intro B X h0 h1 ok
  obtain ⟨tp0, tp1, tp2, tp3, tp4, tp5, tp6, tp7, tp8, tp9⟩ := hS.1
  obtain ⟨mo0, ⟨mr0, mr1, mr2, mr3, mr4, mr5, mr6, mr7, mr8, mr9, mr10, mr11⟩, mk0, mk1, mk2, mk3, mk4, mk5, mk6, mk7, mk8, mk9, mk10, mk11⟩ := hS.2.2.2.2.2.2.2.2.2.2
  have hP := ok.1
  have hR := ok.2.1
  have hP1 := hP.1
  have hP2 := hP.2.1
  have hP3 := hP.2.2.1
  have hP4 := hP.2.2.2.1
  have lf14 : lf 14 := by unfold lf; omega
  have li0 := (hS.2.2.2.2.1 14 lf14).1
  by_cases hp : 0 ≤ p ∧ p < vnp (xP X)
  · by_cases hq : 0 ≤ q ∧ q < vnp (xP X)
    · have r := hR.1 p q hp.1 hp.2 hq.1 hq.2
      refine ⟨vnr (xR X) p q, X, ⟨by omega, by omega⟩, okX_B ok (by omega), CC_id (fun M c => ?_), MM_id (fun M c => ?_)⟩
      · have e1 := k_isPerson hS hP c.1 i1
        have e2 := k_isPerson hS hP c.1 i2
        have e3 := k_near hS lf14 hP c.2.1 hp.1 hp.2 hq.1 hq.2
        rw [bo_t hp] at e1
        rw [bo_t hq] at e2
        simp (disch := omega) only [c_Pe_near, b_Pe_near_0, b_Pe_near_5, b_Pe_near_8, b_Pe_near_13, b_Pe_near_16, b_Pe_near_19, b_Pe_near_28, tp0, tp1, tp2, tp3, tp4, tp5, tp6, tp7, tp8, tp9, li0, e1, e2, e3, am_ck_T, am_ck_t, am_cif_t, am_cif_f, am_cif_T, am_cif_F, am_then_s, am_push_s, am_push_n, true_and, and_true, true_or, or_true, Int.cast_ofNat_Int, am_02, am_22, not_true_eq_false, not_false_eq_true]
      · have e1 := m_isPerson hS hP c.1 i1
        have e2 := m_isPerson hS hP c.1 i2
        have e3 := m_near hS hP c.2.1 (by omega) hp.1 hp.2 hq.1 hq.2
        rw [bo_t hp] at e1
        rw [bo_t hq] at e2
        simp (disch := omega) only [c_Mo_near, b_Mo_near_0, b_Mo_near_5, b_Mo_near_8, b_Mo_near_13, b_Mo_near_16, b_Mo_near_23, b_Mo_near_26, b_Mo_near_28, mo0, mr0, mr1, mr2, mr3, mr4, mr5, mr6, mr7, mr8, mr9, mr10, mr11, mk0, mk1, mk2, mk3, mk4, mk5, mk6, mk7, mk8, mk9, mk10, mk11, e1, e2, e3, am_ck_T, am_ck_t, am_cif_t, am_cif_f, am_cif_T, am_cif_F, am_then_s, am_push_s, am_push_n, true_and, and_true, true_or, or_true, Int.cast_ofNat_Int, am_02, am_22, not_true_eq_false, not_false_eq_true]
    · refine ⟨-1000000001, X, ⟨by omega, by omega⟩, okX_B ok (by omega), CC_id (fun M c => ?_), MM_id (fun M c => ?_)⟩
      · have e1 := k_isPerson hS hP c.1 i1
        have e2 := k_isPerson hS hP c.1 i2
        rw [bo_t hp] at e1
        rw [bo_f hq] at e2
        simp (disch := omega) only [c_Pe_near, b_Pe_near_0, b_Pe_near_5, b_Pe_near_8, b_Pe_near_13, b_Pe_near_16, b_Pe_near_19, b_Pe_near_28, tp0, tp1, tp2, tp3, tp4, tp5, tp6, tp7, tp8, tp9, li0, e1, e2, am_ck_T, am_ck_t, am_cif_t, am_cif_f, am_cif_T, am_cif_F, am_then_s, am_push_s, am_push_n, true_and, and_true, true_or, or_true, Int.cast_ofNat_Int, am_02, am_22, not_true_eq_false, not_false_eq_true]
      · have e1 := m_isPerson hS hP c.1 i1
        have e2 := m_isPerson hS hP c.1 i2
        rw [bo_t hp] at e1
        rw [bo_f hq] at e2
        simp (disch := omega) only [c_Mo_near, b_Mo_near_0, b_Mo_near_5, b_Mo_near_8, b_Mo_near_13, b_Mo_near_16, b_Mo_near_23, b_Mo_near_26, b_Mo_near_28, mo0, mr0, mr1, mr2, mr3, mr4, mr5, mr6, mr7, mr8, mr9, mr10, mr11, mk0, mk1, mk2, mk3, mk4, mk5, mk6, mk7, mk8, mk9, mk10, mk11, e1, e2, am_ck_T, am_ck_t, am_cif_t, am_cif_f, am_cif_T, am_cif_F, am_then_s, am_push_s, am_push_n, true_and, and_true, true_or, or_true, Int.cast_ofNat_Int, am_02, am_22, not_true_eq_false, not_false_eq_true]
  · refine ⟨-1000000001, X, ⟨by omega, by omega⟩, okX_B ok (by omega), CC_id (fun M c => ?_), MM_id (fun M c => ?_)⟩
    · have e1 := k_isPerson hS hP c.1 i1
      rw [bo_f hp] at e1
      simp (disch := omega) only [c_Pe_near, b_Pe_near_0, b_Pe_near_5, b_Pe_near_8, b_Pe_near_13, b_Pe_near_16, b_Pe_near_19, b_Pe_near_28, tp0, tp1, tp2, tp3, tp4, tp5, tp6, tp7, tp8, tp9, li0, e1, am_ck_T, am_ck_t, am_cif_t, am_cif_f, am_cif_T, am_cif_F, am_then_s, am_push_s, am_push_n, true_and, and_true, true_or, or_true, Int.cast_ofNat_Int, am_02, am_22, not_true_eq_false, not_false_eq_true]
    · have e1 := m_isPerson hS hP c.1 i1
      rw [bo_f hp] at e1
      simp (disch := omega) only [c_Mo_near, b_Mo_near_0, b_Mo_near_5, b_Mo_near_8, b_Mo_near_13, b_Mo_near_16, b_Mo_near_23, b_Mo_near_26, b_Mo_near_28, mo0, mr0, mr1, mr2, mr3, mr4, mr5, mr6, mr7, mr8, mr9, mr10, mr11, mk0, mk1, mk2, mk3, mk4, mk5, mk6, mk7, mk8, mk9, mk10, mk11, e1, am_ck_T, am_ck_t, am_cif_t, am_cif_f, am_cif_T, am_cif_F, am_then_s, am_push_s, am_push_n, true_and, and_true, true_or, or_true, Int.cast_ofNat_Int, am_02, am_22, not_true_eq_false, not_false_eq_true]
theorem p_at (hS : ly S) {p : Int} (i1 : am_Ri p) : Pr S 69 133 [am_i p] := by
  intro B X h0 h1 ok
  obtain ⟨tp0, tp1, tp2, tp3, tp4, tp5, tp6, tp7, tp8, tp9⟩ := hS.1
  obtain ⟨mo0, ⟨mr0, mr1, mr2, mr3, mr4, mr5, mr6, mr7, mr8, mr9, mr10, mr11⟩, mk0, mk1, mk2, mk3, mk4, mk5, mk6, mk7, mk8, mk9, mk10, mk11⟩ := hS.2.2.2.2.2.2.2.2.2.2
  have hP := ok.1
  have hR := ok.2.1
  have hP1 := hP.1
  have hP2 := hP.2.1
  have hP3 := hP.2.2.1
  have hP4 := hP.2.2.2.1
  have lf14 : lf 14 := by unfold lf; omega
  obtain ⟨li0, li1, li2, li3, li4, li5, li6, li7⟩ := hS.2.2.2.2.1 14 lf14
  by_cases hp : 0 ≤ p ∧ p < vnp (xP X)
  · have r := (hR.2.1 p hp.1 hp.2).2
    refine ⟨vgt (xR X) p, X, ⟨by omega, by omega⟩, okX_B ok (by omega), CC_id (fun M c => ?_), MM_id (fun M c => ?_)⟩
    · have e1 := k_isPerson hS hP c.1 i1
      have e2 := c.2.1.2.1 p hp.1 hp.2
      rw [bo_t hp] at e1
      simp (disch := omega) only [c_Pe_at, b_Pe_at_0, b_Pe_at_5, b_Pe_at_8, b_Pe_at_11, tp0, tp1, tp2, tp3, tp4, tp5, tp6, tp7, tp8, tp9, li0, li1, li2, li3, li4, li5, li6, li7, e1, e2, am_ck_T, am_ck_t, am_cif_t, am_cif_f, am_cif_T, am_cif_F, am_then_s, am_push_s, am_push_n, true_and, and_true, true_or, or_true, Int.cast_ofNat_Int, am_02, am_22, not_true_eq_false, not_false_eq_true]
    · have e1 := m_isPerson hS hP c.1 i1
      have e2 : M 165 (64 + p) = vgt (xR X) p := c.2.1.2.1 p hp.1 hp.2
      rw [bo_t hp] at e1
      simp (disch := omega) only [c_Mo_at, b_Mo_at_0, b_Mo_at_5, b_Mo_at_8, b_Mo_at_20, b_Mo_at_22, mo0, mr0, mr1, mr2, mr3, mr4, mr5, mr6, mr7, mr8, mr9, mr10, mr11, mk0, mk1, mk2, mk3, mk4, mk5, mk6, mk7, mk8, mk9, mk10, mk11, e1, e2, am_ck_T, am_ck_t, am_cif_t, am_cif_f, am_cif_T, am_cif_F, am_then_s, am_push_s, am_push_n, true_and, and_true, true_or, or_true, Int.cast_ofNat_Int, am_02, am_22, not_true_eq_false, not_false_eq_true]
  · refine ⟨-1000000001, X, ⟨by omega, by omega⟩, okX_B ok (by omega), CC_id (fun M c => ?_), MM_id (fun M c => ?_)⟩
    · have e1 := k_isPerson hS hP c.1 i1
      rw [bo_f hp] at e1
      simp (disch := omega) only [c_Pe_at, b_Pe_at_0, b_Pe_at_5, b_Pe_at_8, b_Pe_at_11, tp0, tp1, tp2, tp3, tp4, tp5, tp6, tp7, tp8, tp9, e1, am_ck_T, am_ck_t, am_cif_t, am_cif_f, am_cif_T, am_cif_F, am_then_s, am_push_s, am_push_n, true_and, and_true, true_or, or_true, Int.cast_ofNat_Int, am_02, am_22, not_true_eq_false, not_false_eq_true]
    · have e1 := m_isPerson hS hP c.1 i1
      rw [bo_f hp] at e1
      simp (disch := omega) only [c_Mo_at, b_Mo_at_0, b_Mo_at_5, b_Mo_at_8, b_Mo_at_20, b_Mo_at_22, mo0, mr0, mr1, mr2, mr3, mr4, mr5, mr6, mr7, mr8, mr9, mr10, mr11, mk0, mk1, mk2, mk3, mk4, mk5, mk6, mk7, mk8, mk9, mk10, mk11, e1, am_ck_T, am_ck_t, am_cif_t, am_cif_f, am_cif_T, am_cif_F, am_then_s, am_push_s, am_push_n, true_and, and_true, true_or, or_true, Int.cast_ofNat_Int, am_02, am_22, not_true_eq_false, not_false_eq_true]
end OPS
