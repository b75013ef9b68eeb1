/-! could: the reference, the command -/
section COULD2
variable {S : am_S} {M M1 : am_M} {X : vX} {B : Int} {P : vP} {R : vR}
theorem m_could (hS : ly S) (ok : okX B X) (c : MX X M) : am_call 169 [am_r 164] S M = some (some (am_i (vcl (xP X) (xS X) 10 0 0)), S, M) := by
  obtain ⟨mo0, ⟨mr0, mr1, mr2, mr3, mr4, mr5, mr6, mr7, mr8, mr9, mr10, mr11⟩, mk0, mk1, mk2, mk3, mk4, mk5, mk6, mk7, mk8, mk9, mk10, mk11⟩ := hS.2.2.2.2.2.2.2.2.2.2
  have hP := ok.1
  have hP1 := hP.1
  have hP2 := hP.2.1
  have hP3 := hP.2.2.1
  have hP4 := hP.2.2.2.1
  have okS := ok.2.2.2.2.2.2.1
  have n1 := c.2.2.2.2.2.1.1
  have n2 := c.2.2.2.2.2.1.2
  have o1 := m_one (S := S) (M := M) (v := 1) (Or.inr rfl)
  have o0 := m_one (S := S) (M := M) (v := 0) (Or.inl rfl)
  have split : ∀ (i : Nat) (t : Int × Int), (xS X)[i]? = some t → (xS X).drop i = t :: (xS X).drop (i + 1) := by
    intro i t ht
    obtain ⟨h, e⟩ := List.getElem?_eq_some_iff.mp ht
    rw [List.drop_eq_getElem_cons h, e]
  have inner : ∀ (v a : Int), 0 ≤ v → v ≤ 9 → ∀ (n : Nat) (i : Nat) (b : Int), i + n = (xS X).length → (b = 0 ∨ b = 1) → am_R 169 15 [some (am_r 164), some (am_i a), some (am_i v), some (am_i b), some (am_i (i : Int))] [] S M = am_R 169 62 [some (am_r 164), some (am_i a), some (am_i v), some (am_i (bo (b = 1 ∧ vft (xP X) v ((xS X).drop i)))), some (am_i ((xS X).length : Int))] [] S M := by
    intro v a h3 h4 n
    induction n with
    | zero =>
      intro i b hi hb
      obtain rfl : i = (xS X).length := by omega
      have e : bo (b = 1 ∧ vft (xP X) v ((xS X).drop (xS X).length)) = b := by
        rw [List.drop_eq_nil_of_le (by omega)]
        rcases hb with rfl | rfl
        · exact bo_f (fun z => absurd z.1 (by omega))
        · exact bo_t ⟨rfl, trivial⟩
      rw [e, b_Mo_could_15]
      simp (disch := omega) only [mo0, mr0, mr1, mr2, mr3, mr4, mr5, mr6, mr7, mr8, mr9, mr10, mr11, mk0, mk1, mk2, mk3, mk4, mk5, mk6, mk7, mk8, mk9, mk10, mk11, n1, am_ck_T, am_ck_t, am_cif_t, am_cif_f, am_cif_T, am_cif_F, am_then_s, am_push_s, am_push_n, true_and, and_true, true_or, or_true, Int.cast_ofNat_Int, am_02, am_22, not_true_eq_false, not_false_eq_true]
    | succ n ih =>
      intro i b hi hb
      have hlt : i < (xS X).length := by omega
      obtain ⟨t, ht⟩ : ∃ t, (xS X)[i]? = some t := ⟨_, List.getElem?_eq_getElem hlt⟩
      have u := n2 i t ht
      have w := okS.2 t (List.mem_of_getElem? ht)
      have s1 := hP.2.2.2.2.1 t.1 w.1 w.2.1
      have q1 := m_getsOff hS hP c.1 w.1 w.2.1 h3 h4
      have q2 : 0 ≤ vst2 (xP X) t.1 v ∧ vst2 (xP X) t.1 v ≤ vsz (xP X) t.1 - 1 := vgo_r (by omega) (by omega) (by omega) h3
      have i1 := ih (i + 1) 1 (by omega) (Or.inr rfl)
      have i0 := ih (i + 1) 0 (by omega) (Or.inl rfl)
      rw [Int.natCast_add, Int.natCast_one] at i1 i0
      have z0 : bo ((0 : Int) = 1 ∧ vft (xP X) v ((xS X).drop (i + 1))) = 0 := bo_f (fun z => absurd z.1 (by omega))
      rw [z0] at i0
      rw [b_Mo_could_15, split i t ht]
      rcases hb with rfl | rfl
      · rw [bo_f (show ¬ ((0 : Int) = 1 ∧ vft (xP X) v (t :: (xS X).drop (i + 1))) from fun z => absurd z.1 (by omega))]
        simp (disch := omega) only [b_Mo_could_24, b_Mo_could_54, b_Mo_could_55, mo0, mr0, mr1, mr2, mr3, mr4, mr5, mr6, mr7, mr8, mr9, mr10, mr11, mk0, mk1, mk2, mk3, mk4, mk5, mk6, mk7, mk8, mk9, mk10, mk11, n1, i0, am_ck_T, am_ck_t, am_cif_t, am_cif_f, am_cif_T, am_cif_F, am_then_s, am_push_s, am_push_n, true_and, and_true, true_or, or_true, Int.cast_ofNat_Int, am_02, am_22, not_true_eq_false, not_false_eq_true]
      · by_cases h : vst2 (xP X) t.1 v = t.2
        · rw [show bo ((1 : Int) = 1 ∧ vft (xP X) v (t :: (xS X).drop (i + 1))) = bo ((1 : Int) = 1 ∧ vft (xP X) v ((xS X).drop (i + 1))) from bo_c ⟨fun z => ⟨rfl, z.2.2⟩, fun z => ⟨rfl, h, z.2⟩⟩]
          rw [← i1]
          simp (disch := omega) only [b_Mo_could_24, b_Mo_could_28, b_Mo_could_40, b_Mo_could_50, b_Mo_could_55, mo0, mr0, mr1, mr2, mr3, mr4, mr5, mr6, mr7, mr8, mr9, mr10, mr11, mk0, mk1, mk2, mk3, mk4, mk5, mk6, mk7, mk8, mk9, mk10, mk11, n1, u.1, u.2, q1, am_ck_T, am_ck_t, am_cif_t, am_cif_f, am_cif_T, am_cif_F, am_then_s, am_push_s, am_push_n, true_and, and_true, true_or, or_true, Int.cast_ofNat_Int, am_02, am_22, not_true_eq_false, not_false_eq_true]
        · rw [bo_f (show ¬ ((1 : Int) = 1 ∧ vft (xP X) v (t :: (xS X).drop (i + 1))) from fun z => h z.2.1)]
          simp (disch := omega) only [b_Mo_could_24, b_Mo_could_28, b_Mo_could_40, b_Mo_could_54, b_Mo_could_55, mo0, mr0, mr1, mr2, mr3, mr4, mr5, mr6, mr7, mr8, mr9, mr10, mr11, mk0, mk1, mk2, mk3, mk4, mk5, mk6, mk7, mk8, mk9, mk10, mk11, n1, u.1, u.2, q1, i0, am_ck_T, am_ck_t, am_cif_t, am_cif_f, am_cif_T, am_cif_F, am_then_s, am_push_s, am_push_n, true_and, and_true, true_or, or_true, Int.cast_ofNat_Int, am_02, am_22, not_true_eq_false, not_false_eq_true]
  have loop : ∀ (n : Nat) (v a : Int) (o3 o4 : Option am_V), 0 ≤ v → v + n = 10 → 0 ≤ a → a < 1024 → am_R 169 4 [some (am_r 164), some (am_i a), some (am_i v), o3, o4] [] S M = some (some (am_i (vcl (xP X) (xS X) n v a)), S, M) := by
    intro n
    induction n with
    | zero =>
      intro v a o3 o4 h1 h2 _ _
      rw [b_Mo_could_4]
      simp (disch := omega) only [b_Mo_could_77, vcl, am_ck_T, am_ck_t, am_cif_t, am_cif_f, am_cif_T, am_cif_F, am_then_s, am_push_s, am_push_n, true_and, and_true, true_or, or_true, Int.cast_ofNat_Int, am_02, am_22, not_true_eq_false, not_false_eq_true]
    | succ n ih =>
      intro v a o3 o4 h1 h2 h3 h4
      have q := inner v a h1 (by omega) (xS X).length 0 1 (by omega) (Or.inr rfl)
      rw [List.drop_zero] at q
      have q' : am_R 169 15 [some (am_r 164), some (am_i a), some (am_i v), some (am_i 1), some (am_i 0)] [] S M = _ := q
      have u := bu_or ⟨a.toNat, by omega⟩ ⟨v.toNat, by omega⟩
      have u0 := bu_or0 ⟨a.toNat, by omega⟩ ⟨v.toNat, by omega⟩
      have c1 : ((a.toNat : Nat) : Int) = a := by omega
      have c2 : ((v.toNat : Nat) : Int) = v := by omega
      rw [c1, c2] at u u0
      rw [b_Mo_could_4]
      unfold vcl
      by_cases h : vft (xP X) v (xS X)
      · rw [bo_t ⟨rfl, h⟩] at q'
        rw [am_cif_t (show vft (xP X) v (xS X) from h)]
        have ih1 := ih (v + 1) (am_or a (am_shl 1 v)) (some (am_i 1)) (some (am_i ((xS X).length : Int))) (by omega) (by omega) u.1 u.2
        simp (disch := omega) only [b_Mo_could_10, q', b_Mo_could_62, b_Mo_could_67, o1, ih1, am_ck_T, am_ck_t, am_cif_t, am_cif_f, am_cif_T, am_cif_F, am_then_s, am_push_s, am_push_n, true_and, and_true, true_or, or_true, Int.cast_ofNat_Int, am_02, am_22, not_true_eq_false, not_false_eq_true]
      · rw [bo_f (fun z => h z.2)] at q'
        rw [am_cif_f (show ¬ vft (xP X) v (xS X) from h)]
        have ih1 := ih (v + 1) a (some (am_i 0)) (some (am_i ((xS X).length : Int))) (by omega) (by omega) h3 h4
        simp (disch := omega) only [b_Mo_could_10, q', b_Mo_could_62, b_Mo_could_67, o0, u0, ih1, am_ck_T, am_ck_t, am_cif_t, am_cif_f, am_cif_T, am_cif_F, am_then_s, am_push_s, am_push_n, true_and, and_true, true_or, or_true, Int.cast_ofNat_Int, am_02, am_22, not_true_eq_false, not_false_eq_true]
  have l0 := loop 10 0 0 none none (by omega) (by omega) (by omega) (by omega)
  simp (disch := omega) only [c_Mo_could, b_Mo_could_0, l0, am_ck_T, am_ck_t, am_cif_t, am_cif_f, am_cif_T, am_cif_F, am_then_s, am_push_s, am_push_n, true_and, and_true, true_or, or_true, Int.cast_ofNat_Int, am_02, am_22, not_true_eq_false, not_false_eq_true]
theorem p_could (hS : ly S) : Pr S 87 169 [] := by
  intro B X h0 h1 ok
  obtain ⟨tp0, tp1, tp2, tp3, tp4, tp5, tp6, tp7, tp8, tp9⟩ := hS.1
  obtain ⟨si0, si1, si2, si3, si4, si5, si6, si7⟩ := hS.2.2.2.2.2.2.2.1
  have r := vcl_rng (xP X) (xS X) 10 0 0 (by omega) (by omega) (by omega) (by omega)
  refine ⟨vcl (xP X) (xS X) 10 0 0, X, ⟨by omega, by omega⟩, okX_B ok (by omega), CC_id (fun M c => ?_), MM_id (fun M c => m_could hS ok c)⟩
  have e := k_fitting hS ok c
  simp (disch := omega) only [c_Pe_could, b_Pe_could_0, b_Pe_could_7, tp0, tp1, tp2, tp3, tp4, tp5, tp6, tp7, tp8, tp9, si0, si1, si2, si3, si4, si5, si6, si7, e, am_ck_T, am_ck_t, am_cif_t, am_cif_f, am_cif_T, am_cif_F, am_then_s, am_push_s, am_push_n, true_and, and_true, true_or, or_true, Int.cast_ofNat_Int, am_02, am_22, not_true_eq_false, not_false_eq_true]
end COULD2
