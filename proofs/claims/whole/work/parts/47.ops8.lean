/-! judge, names, meet -/
section OPS8
variable {S : am_S} {M M1 : am_M} {X : vX} {B : Int} {P : vP}
theorem vjg_rng (R : vR) : ∀ (l : List (Int × Int)) (i : Int), vjg R l i = -1 ∨ (i ≤ vjg R l i ∧ vjg R l i < i + l.length) := by
  intro l
  induction l with
  | nil => intro i; exact Or.inl rfl
  | cons t l ih =>
    intro i
    unfold vjg
    rw [List.length_cons]
    by_cases h : vgt R t.1 = t.2
    · rw [if_pos h]; have := ih (i + 1); omega
    · rw [if_neg h]; omega
theorem p_judge (hS : ly S) : Pr S 90 173 [] := by
  intro B X h0 h1 ok
  obtain ⟨tp0, tp1, tp2, tp3, tp4, tp5, tp6, tp7, tp8, tp9⟩ := hS.1
  obtain ⟨bk0, bk1, bk2, bk3, bk4⟩ := hS.2.2.2.2.2.2.2.2.1
  obtain ⟨mo0, ⟨mr0, mr1, mr2, mr3, mr4, mr5, mr6, mr7, mr8, mr9, mr10, mr11⟩, mk0, mk1, mk2, mk3, mk4, mk5, mk6, mk7, mk8, mk9, mk10, mk11⟩ := hS.2.2.2.2.2.2.2.2.2.2
  have hP := ok.1
  have hR := ok.2.1
  have hP1 := hP.1
  have hP2 := hP.2.1
  have hP3 := hP.2.2.1
  have hP4 := hP.2.2.2.1
  have lf14 : lf 14 := by unfold lf; omega
  obtain ⟨li0, li1, li2, li3, li4, li5, li6, li7⟩ := hS.2.2.2.2.1 14 lf14
  have okB := ok.2.2.2.2.2.2.2.1
  have r := vjg_rng (xR X) (xB X) 0
  have split : ∀ (i : Nat) (t : Int × Int), (xB X)[i]? = some t → (xB X).drop i = t :: (xB X).drop (i + 1) := by
    intro i t ht
    obtain ⟨h, e⟩ := List.getElem?_eq_some_iff.mp ht
    rw [List.drop_eq_getElem_cons h, e]
  refine ⟨vjg (xR X) (xB X) 0, X, ⟨by omega, by omega⟩, okX_B ok (by omega), CC_id (fun M c => ?_), MM_id (fun M c => ?_)⟩
  · have n1 := c.2.2.2.2.2.2.1.1
    have n2 := c.2.2.2.2.2.2.1.2
    have loop : ∀ (n : Nat) (i : Nat), i + n = (xB X).length → am_R 3 2 [some (am_r 150), some (am_r 14), some (am_i (i : Int))] [] S M = some (some (am_i (vjg (xR X) ((xB X).drop i) (i : Int))), S, M) := by
      intro n
      induction n with
      | zero =>
        intro i hi
        rw [b_Bk_firstWrong_2, List.drop_eq_nil_of_le (by omega)]
        simp (disch := omega) only [b_Bk_firstWrong_38, bk0, bk1, bk2, bk3, bk4, n1, vjg, am_ck_T, am_ck_t, am_cif_t, am_cif_f, am_cif_T, am_cif_F, am_then_s, am_push_s, am_push_n, true_and, and_true, true_or, or_true, Int.cast_ofNat_Int, am_02, am_22, not_true_eq_false, not_false_eq_true]
      | succ n ih =>
        intro i hi
        have hlt : i < (xB X).length := by omega
        obtain ⟨t, ht⟩ : ∃ t, (xB X)[i]? = some t := ⟨_, List.getElem?_eq_getElem hlt⟩
        have u := n2 i t ht
        have w := okB.2 t (List.mem_of_getElem? ht)
        have g := c.2.1.2.1 t.1 w.1 w.2.1
        have g2 := (hR.2.1 t.1 w.1 w.2.1).2
        have ih1 := ih (i + 1) (by omega)
        rw [Int.natCast_add, Int.natCast_one] at ih1
        rw [b_Bk_firstWrong_2, split i t ht]
        unfold vjg
        by_cases h : vgt (xR X) t.1 = t.2
        · rw [if_pos h]
          simp (disch := omega) only [b_Bk_firstWrong_10, b_Bk_firstWrong_32, bk0, bk1, bk2, bk3, bk4, li0, li1, li2, li3, li4, li5, li6, li7, n1, u.1, u.2, g, ih1, am_ck_T, am_ck_t, am_cif_t, am_cif_f, am_cif_T, am_cif_F, am_then_s, am_push_s, am_push_n, true_and, and_true, true_or, or_true, Int.cast_ofNat_Int, am_02, am_22, not_true_eq_false, not_false_eq_true]
        · rw [if_neg h]
          simp (disch := omega) only [b_Bk_firstWrong_10, b_Bk_firstWrong_30, bk0, bk1, bk2, bk3, bk4, li0, li1, li2, li3, li4, li5, li6, li7, n1, u.1, u.2, g, am_ck_T, am_ck_t, am_cif_t, am_cif_f, am_cif_T, am_cif_F, am_then_s, am_push_s, am_push_n, true_and, and_true, true_or, or_true, Int.cast_ofNat_Int, am_02, am_22, not_true_eq_false, not_false_eq_true]
    have l0 := loop (xB X).length 0 (by omega)
    rw [List.drop_zero] at l0
    have l1 : am_R 3 2 [some (am_r 150), some (am_r 14), some (am_i 0)] [] S M = some (some (am_i (vjg (xR X) (xB X) 0)), S, M) := l0
    simp (disch := omega) only [c_Pe_judge, b_Pe_judge_0, b_Pe_judge_11, c_Bk_firstWrong, b_Bk_firstWrong_0, tp0, tp1, tp2, tp3, tp4, tp5, tp6, tp7, tp8, tp9, bk0, bk1, bk2, bk3, bk4, li0, li1, li2, li3, li4, li5, li6, li7, l1, am_ck_T, am_ck_t, am_cif_t, am_cif_f, am_cif_T, am_cif_F, am_then_s, am_push_s, am_push_n, true_and, and_true, true_or, or_true, Int.cast_ofNat_Int, am_02, am_22, not_true_eq_false, not_false_eq_true]
  · have n1 := c.2.2.2.2.2.2.1.1
    have n2 := c.2.2.2.2.2.2.1.2
    have loop : ∀ (n : Nat) (i : Nat), i + n = (xB X).length → am_R 173 2 [some (am_r 164), some (am_i (i : Int))] [] S M = some (some (am_i (vjg (xR X) ((xB X).drop i) (i : Int))), S, M) := by
      intro n
      induction n with
      | zero =>
        intro i hi
        rw [b_Mo_judge_2, List.drop_eq_nil_of_le (by omega)]
        simp (disch := omega) only [b_Mo_judge_41, mo0, mr0, mr1, mr2, mr3, mr4, mr5, mr6, mr7, mr8, mr9, mr10, mr11, mk0, mk1, mk2, mk3, mk4, mk5, mk6, mk7, mk8, mk9, mk10, mk11, n1, vjg, am_ck_T, am_ck_t, am_cif_t, am_cif_f, am_cif_T, am_cif_F, am_then_s, am_push_s, am_push_n, true_and, and_true, true_or, or_true, Int.cast_ofNat_Int, am_02, am_22, not_true_eq_false, not_false_eq_true]
      | succ n ih =>
        intro i hi
        have hlt : i < (xB X).length := by omega
        obtain ⟨t, ht⟩ : ∃ t, (xB X)[i]? = some t := ⟨_, List.getElem?_eq_getElem hlt⟩
        have u := n2 i t ht
        have w := okB.2 t (List.mem_of_getElem? ht)
        have g : M 165 (64 + t.1) = vgt (xR X) t.1 := c.2.1.2.1 t.1 w.1 w.2.1
        have g2 := (hR.2.1 t.1 w.1 w.2.1).2
        have ih1 := ih (i + 1) (by omega)
        rw [Int.natCast_add, Int.natCast_one] at ih1
        rw [b_Mo_judge_2, split i t ht]
        unfold vjg
        by_cases h : vgt (xR X) t.1 = t.2
        · rw [if_pos h]
          simp (disch := omega) only [b_Mo_judge_10, b_Mo_judge_35, mo0, mr0, mr1, mr2, mr3, mr4, mr5, mr6, mr7, mr8, mr9, mr10, mr11, mk0, mk1, mk2, mk3, mk4, mk5, mk6, mk7, mk8, mk9, mk10, mk11, n1, u.1, u.2, g, ih1, am_ck_T, am_ck_t, am_cif_t, am_cif_f, am_cif_T, am_cif_F, am_then_s, am_push_s, am_push_n, true_and, and_true, true_or, or_true, Int.cast_ofNat_Int, am_02, am_22, not_true_eq_false, not_false_eq_true]
        · rw [if_neg h]
          simp (disch := omega) only [b_Mo_judge_10, b_Mo_judge_33, mo0, mr0, mr1, mr2, mr3, mr4, mr5, mr6, mr7, mr8, mr9, mr10, mr11, mk0, mk1, mk2, mk3, mk4, mk5, mk6, mk7, mk8, mk9, mk10, mk11, n1, u.1, u.2, g, am_ck_T, am_ck_t, am_cif_t, am_cif_f, am_cif_T, am_cif_F, am_then_s, am_push_s, am_push_n, true_and, and_true, true_or, or_true, Int.cast_ofNat_Int, am_02, am_22, not_true_eq_false, not_false_eq_true]
    have l0 := loop (xB X).length 0 (by omega)
    rw [List.drop_zero] at l0
    have l1 : am_R 173 2 [some (am_r 164), some (am_i 0)] [] S M = some (some (am_i (vjg (xR X) (xB X) 0)), S, M) := l0
    simp (disch := omega) only [c_Mo_judge, b_Mo_judge_0, l1, am_ck_T, am_ck_t, am_cif_t, am_cif_f, am_cif_T, am_cif_F, am_then_s, am_push_s, am_push_n, true_and, and_true, true_or, or_true, Int.cast_ofNat_Int, am_02, am_22, not_true_eq_false, not_false_eq_true]
theorem p_names (hS : ly S) {n q : Int} (i1 : am_Ri n) (i2 : am_Ri q) : Pr S 85 166 [am_i n, am_i q] := by
  intro B X h0 h1 ok
  by_cases hv : (0 ≤ n ∧ n ≤ 60) ∧ (0 ≤ q ∧ q ≤ 1000)
  · obtain ⟨⟨n1, n2⟩, q1, q2⟩ := hv
    have r := vnm_rng q1 q2 n.toNat 1000000000 (by omega) (by omega)
    refine ⟨vnm q n.toNat 1000000000, X, ⟨by omega, by omega⟩, okX_B ok (by omega), CC_id (fun M c => ?_), MM_id (fun M c => ?_)⟩
    · have loop : ∀ (m : Nat) (i y : Int), 0 ≤ i → i + m = n → 0 ≤ y → y ≤ 1000000000 → am_R 85 31 [some (am_r 1), some (am_i n), some (am_i q), some (am_l y), none, some (am_i i)] [] S M = some (some (am_i (vnm q m y)), S, M) := by
        intro m
        induction m with
        | zero =>
          intro i y hi hm y1 y2
          rw [b_Pe_names_31]
          simp (disch := omega) only [b_Pe_names_56, vnm, am_ck_T, am_ck_t, am_cif_t, am_cif_f, am_cif_T, am_cif_F, am_then_s, am_push_s, am_push_n, true_and, and_true, true_or, or_true, Int.cast_ofNat_Int, am_02, am_22, not_true_eq_false, not_false_eq_true]
        | succ m ih =>
          intro i y hi hm y1 y2
          have m1 : 0 ≤ y * (1000 - q) := Int.mul_nonneg y1 (by omega)
          have m2 : y * (1000 - q) ≤ y * 1000 := Int.mul_le_mul_of_nonneg_left (by omega) y1
          have ih1 := ih (i + 1) (y * (1000 - q) / 1000) (by omega) (by omega) (by omega) (by omega)
          rw [b_Pe_names_31]
          simp (disch := omega) only [b_Pe_names_37, ih1, vnm, am_ck_T, am_ck_t, am_cif_t, am_cif_f, am_cif_T, am_cif_F, am_then_s, am_push_s, am_push_n, true_and, and_true, true_or, or_true, Int.cast_ofNat_Int, am_02, am_22, not_true_eq_false, not_false_eq_true]
      have l0 := loop n.toNat 0 1000000000 (by omega) (by omega) (by omega) (by omega)
      simp (disch := omega) only [c_Pe_names, b_Pe_names_0, b_Pe_names_4, b_Pe_names_10, b_Pe_names_14, b_Pe_names_24, l0, am_ck_T, am_ck_t, am_cif_t, am_cif_f, am_cif_T, am_cif_F, am_then_s, am_push_s, am_push_n, true_and, and_true, true_or, or_true, Int.cast_ofNat_Int, am_02, am_22, not_true_eq_false, not_false_eq_true]
    · have e1 := m_in (S := S) (M := M) (v := n) (lo := 0) (hi := 60) ⟨by omega, by omega⟩ ⟨by omega, by omega⟩ ⟨by omega, by omega⟩
      have e2 := m_in (S := S) (M := M) (v := q) (lo := 0) (hi := 1000) ⟨by omega, by omega⟩ ⟨by omega, by omega⟩ ⟨by omega, by omega⟩
      rw [bo_t (by omega)] at e1 e2
      have loop : ∀ (m : Nat) (i y : Int), 0 ≤ i → i + m = n → 0 ≤ y → y ≤ 1000000000 → am_R 166 34 [some (am_r 164), some (am_i n), some (am_i q), some (am_l y), none, some (am_i i)] [] S M = some (some (am_i (vnm q m y)), S, M) := by
        intro m
        induction m with
        | zero =>
          intro i y hi hm y1 y2
          rw [b_Mo_names_34]
          simp (disch := omega) only [b_Mo_names_59, vnm, am_ck_T, am_ck_t, am_cif_t, am_cif_f, am_cif_T, am_cif_F, am_then_s, am_push_s, am_push_n, true_and, and_true, true_or, or_true, Int.cast_ofNat_Int, am_02, am_22, not_true_eq_false, not_false_eq_true]
        | succ m ih =>
          intro i y hi hm y1 y2
          have m1 : 0 ≤ y * (1000 - q) := Int.mul_nonneg y1 (by omega)
          have m2 : y * (1000 - q) ≤ y * 1000 := Int.mul_le_mul_of_nonneg_left (by omega) y1
          have ih1 := ih (i + 1) (y * (1000 - q) / 1000) (by omega) (by omega) (by omega) (by omega)
          rw [b_Mo_names_34]
          simp (disch := omega) only [b_Mo_names_40, ih1, vnm, am_ck_T, am_ck_t, am_cif_t, am_cif_f, am_cif_T, am_cif_F, am_then_s, am_push_s, am_push_n, true_and, and_true, true_or, or_true, Int.cast_ofNat_Int, am_02, am_22, not_true_eq_false, not_false_eq_true]
      have l0 := loop n.toNat 0 1000000000 (by omega) (by omega) (by omega) (by omega)
      simp (disch := omega) only [c_Mo_names, b_Mo_names_0, b_Mo_names_9, b_Mo_names_12, b_Mo_names_21, b_Mo_names_27, e1, e2, l0, am_ck_T, am_ck_t, am_cif_t, am_cif_f, am_cif_T, am_cif_F, am_then_s, am_push_s, am_push_n, true_and, and_true, true_or, or_true, Int.cast_ofNat_Int, am_02, am_22, not_true_eq_false, not_false_eq_true]
  · refine ⟨-1000000002, X, ⟨by omega, by omega⟩, okX_B ok (by omega), CC_id (fun M c => ?_), MM_id (fun M c => ?_)⟩
    · by_cases a : n < 0
      · simp (disch := omega) only [c_Pe_names, b_Pe_names_0, b_Pe_names_21, am_ck_T, am_ck_t, am_cif_t, am_cif_f, am_cif_T, am_cif_F, am_then_s, am_push_s, am_push_n, true_and, and_true, true_or, or_true, Int.cast_ofNat_Int, am_02, am_22, not_true_eq_false, not_false_eq_true]
      · by_cases b : 60 < n
        · simp (disch := omega) only [c_Pe_names, b_Pe_names_0, b_Pe_names_4, b_Pe_names_21, am_ck_T, am_ck_t, am_cif_t, am_cif_f, am_cif_T, am_cif_F, am_then_s, am_push_s, am_push_n, true_and, and_true, true_or, or_true, Int.cast_ofNat_Int, am_02, am_22, not_true_eq_false, not_false_eq_true]
        · by_cases d : q < 0
          · simp (disch := omega) only [c_Pe_names, b_Pe_names_0, b_Pe_names_4, b_Pe_names_10, b_Pe_names_21, am_ck_T, am_ck_t, am_cif_t, am_cif_f, am_cif_T, am_cif_F, am_then_s, am_push_s, am_push_n, true_and, and_true, true_or, or_true, Int.cast_ofNat_Int, am_02, am_22, not_true_eq_false, not_false_eq_true]
          · simp (disch := omega) only [c_Pe_names, b_Pe_names_0, b_Pe_names_4, b_Pe_names_10, b_Pe_names_14, b_Pe_names_21, am_ck_T, am_ck_t, am_cif_t, am_cif_f, am_cif_T, am_cif_F, am_then_s, am_push_s, am_push_n, true_and, and_true, true_or, or_true, Int.cast_ofNat_Int, am_02, am_22, not_true_eq_false, not_false_eq_true]
    · have e1 := m_in (S := S) (M := M) (v := n) (lo := 0) (hi := 60) ⟨by omega, by omega⟩ ⟨by omega, by omega⟩ ⟨by omega, by omega⟩
      have e2 := m_in (S := S) (M := M) (v := q) (lo := 0) (hi := 1000) ⟨by omega, by omega⟩ ⟨by omega, by omega⟩ ⟨by omega, by omega⟩
      by_cases a : 0 ≤ n ∧ n ≤ 60
      · rw [bo_t a] at e1
        rw [bo_f (by omega)] at e2
        simp (disch := omega) only [c_Mo_names, b_Mo_names_0, b_Mo_names_9, b_Mo_names_12, b_Mo_names_21, b_Mo_names_24, e1, e2, am_ck_T, am_ck_t, am_cif_t, am_cif_f, am_cif_T, am_cif_F, am_then_s, am_push_s, am_push_n, true_and, and_true, true_or, or_true, Int.cast_ofNat_Int, am_02, am_22, not_true_eq_false, not_false_eq_true]
      · rw [bo_f a] at e1
        simp (disch := omega) only [c_Mo_names, b_Mo_names_0, b_Mo_names_9, b_Mo_names_24, e1, am_ck_T, am_ck_t, am_cif_t, am_cif_f, am_cif_T, am_cif_F, am_then_s, am_push_s, am_push_n, true_and, and_true, true_or, or_true, Int.cast_ofNat_Int, am_02, am_22, not_true_eq_false, not_false_eq_true]
theorem vmt_rng (R : vR) (q : Int) : ∀ (n : Nat) (p a : Int), 0 ≤ p → p + n ≤ 8 → 0 ≤ a → a < 256 → 0 ≤ vmt R q n p a ∧ vmt R q n p a < 256 := by
  intro n
  induction n with
  | zero => intro p a _ _ h1 h2; exact ⟨h1, h2⟩
  | succ n ih =>
    intro p a h1 h2 h3 h4
    unfold vmt
    have u := bt_or ⟨a.toNat, by omega⟩ ⟨p.toNat, by omega⟩
    have c1 : ((a.toNat : Nat) : Int) = a := by omega
    have c2 : ((p.toNat : Nat) : Int) = p := by omega
    rw [c1, c2] at u
    by_cases h : vlv R p ∧ vgt R p = q
    · rw [am_cif_t h]; exact ih _ _ (by omega) (by omega) u.1 u.2
    · rw [am_cif_f h]; exact ih _ _ (by omega) (by omega) h3 h4
theorem p_meet (hS : ly S) {q : Int} (i1 : am_Ri q) : Pr S 82 160 [am_i q] := by
  intro B X h0 h1 ok
  obtain ⟨tp0, tp1, tp2, tp3, tp4, tp5, tp6, tp7, tp8, tp9⟩ := hS.1
  obtain ⟨pl0, pl1, pl2, pl3, pl4, pl5, pl6, pl7, pl8⟩ := hS.2.1
  obtain ⟨mo0, ⟨mr0, mr1, mr2, mr3, mr4, mr5, mr6, mr7, mr8, mr9, mr10, mr11⟩, mk0, mk1, mk2, mk3, mk4, mk5, mk6, mk7, mk8, mk9, mk10, mk11⟩ := hS.2.2.2.2.2.2.2.2.2.2
  have hP := ok.1
  have hR := ok.2.1
  have hP1 := hP.1
  have hP2 := hP.2.1
  have hP3 := hP.2.2.1
  have hP4 := hP.2.2.2.1
  have lf14 : lf 14 := by unfold lf; omega
  obtain ⟨li0, li1, li2, li3, li4, li5, li6, li7⟩ := hS.2.2.2.2.1 14 lf14
  by_cases hq : 0 ≤ q ∧ q < vnp (xP X)
  · have r := vmt_rng (xR X) q (vnp (xP X)).toNat 0 0 (by omega) (by omega) (by omega) (by omega)
    refine ⟨vmt (xR X) q (vnp (xP X)).toNat 0 0, X, ⟨by omega, by omega⟩, okX_B ok (by omega), CC_id (fun M c => ?_), MM_id (fun M c => ?_)⟩
    · have e1 := k_isPerson hS hP c.1 i1
      rw [bo_t hq] at e1
      have np := c.1.1
      have loop : ∀ (n : Nat) (p a : Int), 0 ≤ p → p + n = vnp (xP X) → am_R 82 15 [some (am_r 1), some (am_i q), some (am_i a), some (am_i p)] [] S M = some (some (am_i (vmt (xR X) q n p a)), S, M) := by
        intro n
        induction n with
        | zero =>
          intro p a hp hn
          rw [b_Pe_meet_15]
          simp (disch := omega) only [b_Pe_meet_62, tp0, tp1, tp2, tp3, tp4, tp5, tp6, tp7, tp8, tp9, pl0, pl1, pl2, pl3, pl4, pl5, pl6, pl7, pl8, np, vmt, am_ck_T, am_ck_t, am_cif_t, am_cif_f, am_cif_T, am_cif_F, am_then_s, am_push_s, am_push_n, true_and, and_true, true_or, or_true, Int.cast_ofNat_Int, am_02, am_22, not_true_eq_false, not_false_eq_true]
        | succ n ih =>
          intro p a hp hn
          have g1 := k_lives hS lf14 c.2.1 p
          have g2 := c.2.1.2.1 p hp (by omega)
          have g3 := (hR.2.1 p hp (by omega)).2
          rw [b_Pe_meet_15]
          unfold vmt
          by_cases hv : vlv (xR X) p
          · rw [bo_t hv] at g1
            by_cases hg : vgt (xR X) p = q
            · rw [am_cif_t (show vlv (xR X) p ∧ vgt (xR X) p = q from ⟨hv, hg⟩)]
              have ih1 := ih (p + 1) (am_or a (am_shl 1 p)) (by omega) (by omega)
              simp (disch := omega) only [b_Pe_meet_26, b_Pe_meet_34, b_Pe_meet_37, b_Pe_meet_50, b_Pe_meet_56, tp0, tp1, tp2, tp3, tp4, tp5, tp6, tp7, tp8, tp9, pl0, pl1, pl2, pl3, pl4, pl5, pl6, pl7, pl8, li0, li1, li2, li3, li4, li5, li6, li7, np, g1, g2, ih1, am_ck_T, am_ck_t, am_cif_t, am_cif_f, am_cif_T, am_cif_F, am_then_s, am_push_s, am_push_n, true_and, and_true, true_or, or_true, Int.cast_ofNat_Int, am_02, am_22, not_true_eq_false, not_false_eq_true]
            · rw [am_cif_f (show ¬ (vlv (xR X) p ∧ vgt (xR X) p = q) from fun h => hg h.2)]
              have ih1 := ih (p + 1) a (by omega) (by omega)
              simp (disch := omega) only [b_Pe_meet_26, b_Pe_meet_34, b_Pe_meet_37, b_Pe_meet_56, tp0, tp1, tp2, tp3, tp4, tp5, tp6, tp7, tp8, tp9, pl0, pl1, pl2, pl3, pl4, pl5, pl6, pl7, pl8, li0, li1, li2, li3, li4, li5, li6, li7, np, g1, g2, ih1, am_ck_T, am_ck_t, am_cif_t, am_cif_f, am_cif_T, am_cif_F, am_then_s, am_push_s, am_push_n, true_and, and_true, true_or, or_true, Int.cast_ofNat_Int, am_02, am_22, not_true_eq_false, not_false_eq_true]
          · rw [bo_f hv] at g1
            rw [am_cif_f (show ¬ (vlv (xR X) p ∧ vgt (xR X) p = q) from fun h => hv h.1)]
            have ih1 := ih (p + 1) a (by omega) (by omega)
            simp (disch := omega) only [b_Pe_meet_26, b_Pe_meet_34, b_Pe_meet_56, tp0, tp1, tp2, tp3, tp4, tp5, tp6, tp7, tp8, tp9, pl0, pl1, pl2, pl3, pl4, pl5, pl6, pl7, pl8, li0, li1, li2, li3, li4, li5, li6, li7, np, g1, ih1, am_ck_T, am_ck_t, am_cif_t, am_cif_f, am_cif_T, am_cif_F, am_then_s, am_push_s, am_push_n, true_and, and_true, true_or, or_true, Int.cast_ofNat_Int, am_02, am_22, not_true_eq_false, not_false_eq_true]
      have l0 := loop (vnp (xP X)).toNat 0 0 (by omega) (by omega)
      simp (disch := omega) only [c_Pe_meet, b_Pe_meet_0, b_Pe_meet_5, b_Pe_meet_11, tp0, tp1, tp2, tp3, tp4, tp5, tp6, tp7, tp8, tp9, e1, l0, am_ck_T, am_ck_t, am_cif_t, am_cif_f, am_cif_T, am_cif_F, am_then_s, am_push_s, am_push_n, true_and, and_true, true_or, or_true, Int.cast_ofNat_Int, am_02, am_22, not_true_eq_false, not_false_eq_true]
    · have e1 := m_isPerson hS hP c.1 i1
      rw [bo_t hq] at e1
      have np := c.1.1
      have o1 := m_one (S := S) (M := M) (v := 1) (Or.inr rfl)
      have o0 := m_one (S := S) (M := M) (v := 0) (Or.inl rfl)
      have loop : ∀ (n : Nat) (p a : Int), 0 ≤ p → p + n = vnp (xP X) → 0 ≤ a → a < 256 → am_R 160 15 [some (am_r 164), some (am_i q), some (am_i a), some (am_i p)] [] S M = some (some (am_i (vmt (xR X) q n p a)), S, M) := by
        intro n
        induction n with
        | zero =>
          intro p a hp hn _ _
          rw [b_Mo_meet_15]
          simp (disch := omega) only [b_Mo_meet_64, mo0, mr0, mr1, mr2, mr3, mr4, mr5, mr6, mr7, mr8, mr9, mr10, mr11, mk0, mk1, mk2, mk3, mk4, mk5, mk6, mk7, mk8, mk9, mk10, mk11, np, vmt, am_ck_T, am_ck_t, am_cif_t, am_cif_f, am_cif_T, am_cif_F, am_then_s, am_push_s, am_push_n, true_and, and_true, true_or, or_true, Int.cast_ofNat_Int, am_02, am_22, not_true_eq_false, not_false_eq_true]
        | succ n ih =>
          intro p a hp hn h3 h4
          have g1 := m_isDead hS c.2.1 (by omega) p
          have g2 : M 165 (64 + p) = vgt (xR X) p := c.2.1.2.1 p hp (by omega)
          have g3 := (hR.2.1 p hp (by omega)).2
          have u := bt_or ⟨a.toNat, by omega⟩ ⟨p.toNat, by omega⟩
          have u0 := bt_or0 ⟨a.toNat, by omega⟩ ⟨p.toNat, by omega⟩
          have c1 : ((a.toNat : Nat) : Int) = a := by omega
          have c2 : ((p.toNat : Nat) : Int) = p := by omega
          rw [c1, c2] at u u0
          rw [b_Mo_meet_15]
          unfold vmt
          by_cases hv : vlv (xR X) p
          · rw [bo_f (not_not_intro hv)] at g1
            by_cases hg : vgt (xR X) p = q
            · rw [am_cif_t (show vlv (xR X) p ∧ vgt (xR X) p = q from ⟨hv, hg⟩)]
              have ih1 := ih (p + 1) (am_or a (am_shl 1 p)) (by omega) (by omega) u.1 u.2
              simp (disch := omega) only [b_Mo_meet_23, b_Mo_meet_30, b_Mo_meet_33, b_Mo_meet_46, b_Mo_meet_51, b_Mo_meet_54, mo0, mr0, mr1, mr2, mr3, mr4, mr5, mr6, mr7, mr8, mr9, mr10, mr11, mk0, mk1, mk2, mk3, mk4, mk5, mk6, mk7, mk8, mk9, mk10, mk11, np, g1, g2, o1, ih1, am_ck_T, am_ck_t, am_cif_t, am_cif_f, am_cif_T, am_cif_F, am_then_s, am_push_s, am_push_n, true_and, and_true, true_or, or_true, Int.cast_ofNat_Int, am_02, am_22, not_true_eq_false, not_false_eq_true]
            · rw [am_cif_f (show ¬ (vlv (xR X) p ∧ vgt (xR X) p = q) from fun h => hg h.2)]
              have ih1 := ih (p + 1) a (by omega) (by omega) h3 h4
              simp (disch := omega) only [b_Mo_meet_23, b_Mo_meet_30, b_Mo_meet_33, b_Mo_meet_50, b_Mo_meet_51, b_Mo_meet_54, mo0, mr0, mr1, mr2, mr3, mr4, mr5, mr6, mr7, mr8, mr9, mr10, mr11, mk0, mk1, mk2, mk3, mk4, mk5, mk6, mk7, mk8, mk9, mk10, mk11, np, g1, g2, o0, u0, ih1, am_ck_T, am_ck_t, am_cif_t, am_cif_f, am_cif_T, am_cif_F, am_then_s, am_push_s, am_push_n, true_and, and_true, true_or, or_true, Int.cast_ofNat_Int, am_02, am_22, not_true_eq_false, not_false_eq_true]
          · rw [bo_t hv] at g1
            rw [am_cif_f (show ¬ (vlv (xR X) p ∧ vgt (xR X) p = q) from fun h => hv h.1)]
            have ih1 := ih (p + 1) a (by omega) (by omega) h3 h4
            simp (disch := omega) only [b_Mo_meet_23, b_Mo_meet_30, b_Mo_meet_50, b_Mo_meet_51, b_Mo_meet_54, mo0, mr0, mr1, mr2, mr3, mr4, mr5, mr6, mr7, mr8, mr9, mr10, mr11, mk0, mk1, mk2, mk3, mk4, mk5, mk6, mk7, mk8, mk9, mk10, mk11, np, g1, o0, u0, ih1, am_ck_T, am_ck_t, am_cif_t, am_cif_f, am_cif_T, am_cif_F, am_then_s, am_push_s, am_push_n, true_and, and_true, true_or, or_true, Int.cast_ofNat_Int, am_02, am_22, not_true_eq_false, not_false_eq_true]
      have l0 := loop (vnp (xP X)).toNat 0 0 (by omega) (by omega) (by omega) (by omega)
      simp (disch := omega) only [c_Mo_meet, b_Mo_meet_0, b_Mo_meet_5, b_Mo_meet_11, mo0, mr0, mr1, mr2, mr3, mr4, mr5, mr6, mr7, mr8, mr9, mr10, mr11, mk0, mk1, mk2, mk3, mk4, mk5, mk6, mk7, mk8, mk9, mk10, mk11, e1, l0, am_ck_T, am_ck_t, am_cif_t, am_cif_f, am_cif_T, am_cif_F, am_then_s, am_push_s, am_push_n, true_and, and_true, true_or, or_true, Int.cast_ofNat_Int, am_02, am_22, not_true_eq_false, not_false_eq_true]
  · refine ⟨-1000000001, X, ⟨by omega, by omega⟩, okX_B ok (by omega), CC_id (fun M c => ?_), MM_id (fun M c => ?_)⟩
    · have e1 := k_isPerson hS hP c.1 i1
      rw [bo_f hq] at e1
      simp (disch := omega) only [c_Pe_meet, b_Pe_meet_0, b_Pe_meet_5, b_Pe_meet_8, tp0, tp1, tp2, tp3, tp4, tp5, tp6, tp7, tp8, tp9, e1, am_ck_T, am_ck_t, am_cif_t, am_cif_f, am_cif_T, am_cif_F, am_then_s, am_push_s, am_push_n, true_and, and_true, true_or, or_true, Int.cast_ofNat_Int, am_02, am_22, not_true_eq_false, not_false_eq_true]
    · have e1 := m_isPerson hS hP c.1 i1
      rw [bo_f hq] at e1
      simp (disch := omega) only [c_Mo_meet, b_Mo_meet_0, b_Mo_meet_5, b_Mo_meet_8, mo0, mr0, mr1, mr2, mr3, mr4, mr5, mr6, mr7, mr8, mr9, mr10, mr11, mk0, mk1, mk2, mk3, mk4, mk5, mk6, mk7, mk8, mk9, mk10, mk11, e1, am_ck_T, am_ck_t, am_cif_t, am_cif_f, am_cif_T, am_cif_F, am_then_s, am_push_s, am_push_n, true_and, and_true, true_or, or_true, Int.cast_ofNat_Int, am_02, am_22, not_true_eq_false, not_false_eq_true]
end OPS8
