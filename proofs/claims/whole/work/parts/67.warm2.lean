/-! warm: the command -/
section WARM2
variable {S : am_S} {M M1 : am_M} {X : vX} {B : Int} {P : vP} {R : vR} {b : Nat} {x : Int}
theorem okR_K (hR : okR P B R) {G : Int → Int} (h : ∀ p, 0 ≤ p → p < vnp P → 0 ≤ G p ∧ G p < vnp P) : okR P B (R.1, G, R.2.2) := by
  obtain ⟨a1, a2, a3⟩ := hR
  exact ⟨a1, fun p p1 p2 => ⟨(a2 p p1 p2).1, h p p1 p2⟩, a3⟩
/-- all gates of the trial row become their persons' own -/
theorem m_home (hS : ly S) (hP : okP P) {K : vR} {rd dy : Int} (m o : Int) : ∀ (n : Nat) (p : Int) (G : Int → Int) (M : am_M), 0 ≤ p → p + n = vnp P → mP P M → mR P (vK K G rd dy) 82 M → (∀ q, 0 ≤ q → q < p → G q = q) → ∃ M1, am_R 165 23 [some (am_r 164), some (am_i m), some (am_i o), some (am_i p)] [] S M = am_R 165 48 [some (am_r 164), some (am_i m), some (am_i o), some (am_i (vnp P))] [] S M1 ∧ mR P (vK K (fun q => q) rd dy) 82 M1 ∧ fx 82 M M1 := by
  obtain ⟨mo0, ⟨mr0, mr1, mr2, mr3, mr4, mr5, mr6, mr7, mr8, mr9, mr10, mr11⟩, mk0, mk1, mk2, mk3, mk4, mk5, mk6, mk7, mk8, mk9, mk10, mk11⟩ := hS.2.2.2.2.2.2.2.2.2.2
  have hP1 := hP.1
  have hP2 := hP.2.1
  have hP3 := hP.2.2.1
  have hP4 := hP.2.2.2.1
  intro n
  induction n with
  | zero =>
    intro p G M p1 p2 mp mr hG
    obtain rfl : p = vnp P := by omega
    have c1 := mp.1
    refine ⟨M, ?_, mR_to mr ⟨fun _ _ _ _ _ _ => rfl, fun q q1 q2 => hG q q1 q2, fun _ _ _ => rfl, rfl⟩, fx_rf⟩
    rw [b_Mo_warm_23]
    simp (disch := omega) only [mo0, mr0, mr1, mr2, mr3, mr4, mr5, mr6, mr7, mr8, mr9, mr10, mr11, mk0, mk1, mk2, mk3, mk4, mk5, mk6, mk7, mk8, mk9, mk10, mk11, c1, am_ck_T, am_ck_t, am_cif_t, am_cif_f, am_cif_T, am_cif_F, am_then_s, am_push_s, am_push_n, true_and, and_true, true_or, or_true, Int.cast_ofNat_Int, am_02, am_22, not_true_eq_false, not_false_eq_true]
  | succ n ih =>
    intro p G M p1 p2 mp mr hG
    have c1 := mp.1
    have mr1 := mR_Sg hP mr p (show 0 ≤ p ∧ p < 8 by omega)
    rw [show (82 : Int) + 64 + p = 146 + p by omega] at mr1
    have f0 : fx 82 M (am_wr M 165 (146 + p) p) := fx_wr (by omega)
    obtain ⟨M1, d1, d2, d3⟩ := ih (p + 1) (fun q => if q = p then p else G q) (am_wr M 165 (146 + p) p) (by omega) (by omega) (mP_fx f0 mp) mr1 (fun q q1 q2 => by
      show (if q = p then p else G q) = q
      by_cases e : q = p
      · rw [if_pos e, e]
      · rw [if_neg e]; exact hG q q1 (by omega))
    refine ⟨M1, ?_, d2, fx_tr f0 d3⟩
    rw [b_Mo_warm_23]
    simp (disch := omega) only [b_Mo_warm_31, mo0, mr0, mr1, mr2, mr3, mr4, mr5, mr6, mr7, mr8, mr9, mr10, mr11, mk0, mk1, mk2, mk3, mk4, mk5, mk6, mk7, mk8, mk9, mk10, mk11, c1, d1, am_ck_T, am_ck_t, am_cif_t, am_cif_f, am_cif_T, am_cif_F, am_then_s, am_push_s, am_push_n, true_and, and_true, true_or, or_true, Int.cast_ofNat_Int, am_02, am_22, not_true_eq_false, not_false_eq_true]
theorem m_visits (hS : ly S) (hP : okP P) {K : vR} {rd dy : Int} (m o : Int) : ∀ (n : Nat) (p : Int) (G : Int → Int) (M : am_M), 0 ≤ p → p + n = vnp P → okR P B (vK K G rd dy) → mP P M → mR P (vK K G rd dy) 82 M → (∀ q, 0 ≤ q → q < vnp P → vlv K q → G q = if q < p then vvg P K q else q) → ∃ M1 G1, am_R 165 50 [some (am_r 164), some (am_i m), some (am_i o), some (am_i p)] [] S M = am_R 165 79 [some (am_r 164), some (am_i m), some (am_i o), some (am_i (vnp P))] [] S M1 ∧ mR P (vK K G1 rd dy) 82 M1 ∧ okR P B (vK K G1 rd dy) ∧ (∀ q, 0 ≤ q → q < vnp P → vlv K q → G1 q = vvg P K q) ∧ fx 82 M M1 := by
  obtain ⟨mo0, ⟨mr0, mr1, mr2, mr3, mr4, mr5, mr6, mr7, mr8, mr9, mr10, mr11⟩, mk0, mk1, mk2, mk3, mk4, mk5, mk6, mk7, mk8, mk9, mk10, mk11⟩ := hS.2.2.2.2.2.2.2.2.2.2
  have hP1 := hP.1
  have hP2 := hP.2.1
  have hP3 := hP.2.2.1
  have hP4 := hP.2.2.2.1
  intro n
  induction n with
  | zero =>
    intro p G M p1 p2 hR mp mr hG
    obtain rfl : p = vnp P := by omega
    have c1 := mp.1
    refine ⟨M, G, ?_, mr, hR, fun q q1 q2 q3 => ?_, fx_rf⟩
    · rw [b_Mo_warm_50]
      simp (disch := omega) only [mo0, mr0, mr1, mr2, mr3, mr4, mr5, mr6, mr7, mr8, mr9, mr10, mr11, mk0, mk1, mk2, mk3, mk4, mk5, mk6, mk7, mk8, mk9, mk10, mk11, c1, am_ck_T, am_ck_t, am_cif_t, am_cif_f, am_cif_T, am_cif_F, am_then_s, am_push_s, am_push_n, true_and, and_true, true_or, or_true, Int.cast_ofNat_Int, am_02, am_22, not_true_eq_false, not_false_eq_true]
    · have := hG q q1 q2 q3
      rw [if_pos (by omega)] at this
      exact this
  | succ n ih =>
    intro p G M p1 p2 hR mp mr hG
    have c1 := mp.1
    have lv := m_isDead hS mr (by omega) p
    rw [show vlv (vK K G rd dy) p = vlv K p from rfl] at lv
    by_cases hl : vlv K p
    · rw [bo_f (not_not_intro hl)] at lv
      have hg : G p = p := by
        have := hG p p1 (by omega) hl
        rw [if_neg (by omega)] at this
        exact this
      obtain ⟨M0, f1, f2, f3⟩ := m_rideOut hS hP hR mp mr p1 (show p < vnp P by omega) hg
      have rg := vvg_rng hP hR p1 (show p < vnp P by omega)
      have ok1 := okR_Sg (p := p) hR rg
      rw [vvg_K] at f2 ok1
      obtain ⟨M1, G1, d1, d2, d3, d4, d5⟩ := ih (p + 1) (fun q => if q = p then vvg P K p else G q) M0 (by omega) (by omega) ok1 (mP_fx f3 mp) f2 (fun q q1 q2 q3 => by
        have := hG q q1 q2 q3
        show (if q = p then vvg P K p else G q) = if q < p + 1 then vvg P K q else q
        by_cases e : q = p
        · rw [if_pos e, if_pos (by omega), e]
        · rw [if_neg e, this]
          by_cases e2 : q < p
          · rw [if_pos e2, if_pos (by omega)]
          · rw [if_neg e2, if_neg (by omega)])
      refine ⟨M1, G1, ?_, d2, d3, d4, fx_tr f3 d5⟩
      rw [b_Mo_warm_50]
      simp (disch := omega) only [b_Mo_warm_58, b_Mo_warm_65, b_Mo_warm_68, b_Mo_warm_73, mo0, mr0, mr1, mr2, mr3, mr4, mr5, mr6, mr7, mr8, mr9, mr10, mr11, mk0, mk1, mk2, mk3, mk4, mk5, mk6, mk7, mk8, mk9, mk10, mk11, c1, lv, f1, d1, am_ck_T, am_ck_t, am_cif_t, am_cif_f, am_cif_T, am_cif_F, am_then_s, am_push_s, am_push_n, true_and, and_true, true_or, or_true, Int.cast_ofNat_Int, am_02, am_22, not_true_eq_false, not_false_eq_true]
    · rw [bo_t hl] at lv
      obtain ⟨M1, G1, d1, d2, d3, d4, d5⟩ := ih (p + 1) G M (by omega) (by omega) hR mp mr (fun q q1 q2 q3 => by
        have := hG q q1 q2 q3
        by_cases e : q = p
        · rw [e] at q3; exact absurd q3 hl
        · by_cases e2 : q < p
          · rw [if_pos e2] at this; rw [if_pos (by omega)]; exact this
          · rw [if_neg e2] at this; rw [if_neg (by omega)]; exact this)
      refine ⟨M1, G1, ?_, d2, d3, d4, d5⟩
      rw [b_Mo_warm_50]
      simp (disch := omega) only [b_Mo_warm_58, b_Mo_warm_65, b_Mo_warm_73, mo0, mr0, mr1, mr2, mr3, mr4, mr5, mr6, mr7, mr8, mr9, mr10, mr11, mk0, mk1, mk2, mk3, mk4, mk5, mk6, mk7, mk8, mk9, mk10, mk11, c1, lv, d1, am_ck_T, am_ck_t, am_cif_t, am_cif_f, am_cif_T, am_cif_F, am_then_s, am_push_s, am_push_n, true_and, and_true, true_or, or_true, Int.cast_ofNat_Int, am_02, am_22, not_true_eq_false, not_false_eq_true]
theorem p_warm (hS : ly S) : Pr S 84 165 [] := by
  intro B X h0 h1 ok
  obtain ⟨tp0, tp1, tp2, tp3, tp4, tp5, tp6, tp7, tp8, tp9⟩ := hS.1
  obtain ⟨pl0, pl1, pl2, pl3, pl4, pl5, pl6, pl7, pl8⟩ := hS.2.1
  obtain ⟨mo0, ⟨mr0, mr1, mr2, mr3, mr4, mr5, mr6, mr7, mr8, mr9, mr10, mr11⟩, mk0, mk1, mk2, mk3, mk4, mk5, mk6, mk7, mk8, mk9, mk10, mk11⟩ := hS.2.2.2.2.2.2.2.2.2.2
  have hP := ok.1
  have hR := ok.2.1
  have hP1 := hP.1
  have hP2 := hP.2.1
  have hP3 := hP.2.2.1
  have hP4 := hP.2.2.2.1
  have lf14 : lf 14 := by unfold lf; omega
  have lf18 : lf 18 := by unfold lf; omega
  obtain ⟨li0, li1, li2, li3, li4, li5, li6, li7⟩ := hS.2.2.2.2.1 14 lf14
  obtain ⟨ni0, ni1, ni2, ni3, ni4, ni5, ni6, ni7⟩ := hS.2.2.2.2.1 18 lf18
  have rr := vwl_rng (xP X) 99 (xR X)
  refine ⟨vwl (xP X) 99 (xR X), X, ⟨by omega, by omega⟩, okX_B ok (by omega), fun M c => ?_, fun M c => ?_⟩
  · have loop : ∀ (n : Nat) (m : Int) (K : vR) (G : Int → Int) (rd dy B : Int) (M : am_M), 0 ≤ m → m + n = 99 → okR (xP X) B (vK K G rd dy) → CX X M → cR (xP X) (vK K G rd dy) 18 M → (∀ q, 0 ≤ q → q < vnp (xP X) → vlv K q → G q = q) → ∃ M1, am_R 84 20 [some (am_r 1), some (am_i m)] [] S M = some (some (am_i (m + vwl (xP X) n K)), S, M1) ∧ CX X M1 ∧ fs M M1 := by
      intro n
      induction n with
      | zero =>
        intro m K G rd dy B M m1 m2 okr c cr hG
        refine ⟨M, ?_, c, fs_rf⟩
        rw [b_Pe_warm_20]
        simp (disch := omega) only [b_Pe_warm_51, vwl, Int.add_zero, am_ck_T, am_ck_t, am_cif_t, am_cif_f, am_cif_T, am_cif_F, am_then_s, am_push_s, am_push_n, true_and, and_true, true_or, or_true, Int.cast_ofNat_Int, am_02, am_22, not_true_eq_false, not_false_eq_true]
      | succ n ih =>
        intro m K G rd dy B M m1 m2 okr c cr hG
        obtain ⟨M0, G1, rd1, d1, d2, d3, d4, d5⟩ := k_goVisiting hS lf18 hP (vnp (xP X)).toNat 0 G rd B M none (by omega) (by omega) okr c.1 cr (fun q q1 q2 q3 => by rw [if_neg (by omega)]; exact hG q q1 q2 q3)
        have d0 : am_call 27 [am_r 18] S M = some (none, S, M0) := by rw [c_Li_goVisiting, b_Li_goVisiting_0]; exact d1
        have c0 := CX_fs (fs_18 d5) c
        obtain ⟨M2, f1, f2, f3⟩ := k_dawn hS lf18 hP d3 c0.1 d2
        have c2 := CX_fs (fs_18 f3) c0
        have rd0 := okr.2.2.2.2.2.2
        have okd := okR_dawn (okR_B (B' := B + 8) d3 (by omega)) (by show dy < 9030 + (B + 8); have := rd0.2.2.2.1; change dy ≤ 9030 + B at this; omega)
        have wk := vwm_K (rd := rd1) (dy := dy) d4
        have we := vdawn_K (rd := rd1) (dy := dy) d4
        have uf : vwl (xP X) (n + 1) K = am_cif (vwm (xP X) (vwv (xP X) K)) (1 + vwl (xP X) n (vwx (xP X) K)) 0 := rfl
        by_cases hw : vwm (xP X) (vwv (xP X) K)
        · rw [bo_t (wk.mpr hw)] at f1
          obtain ⟨M3, g1, g2, g3⟩ := ih (m + 1) (vwx (xP X) K) (fun q => am_cif (vlv K q) q (G1 q)) rd1 (dy + 1) (B + 8) M2 (by omega) (by omega) (okR_eq we okd) c2 (cR_to f2 we) (fun q q1 q2 q3 => am_cif_t (show vlv K q from q3))
          refine ⟨M3, ?_, g2, fs_tr (fs_18 d5) (fs_tr (fs_18 f3) g3)⟩
          rw [b_Pe_warm_20, uf, am_cif_t hw, ← Int.add_assoc, ← g1]
          simp (disch := omega) only [b_Pe_warm_26, b_Pe_warm_33, b_Pe_warm_40, b_Pe_warm_45, tp0, tp1, tp2, tp3, tp4, tp5, tp6, tp7, tp8, tp9, ni0, d0, f1, am_ck_T, am_ck_t, am_cif_t, am_cif_f, am_cif_T, am_cif_F, am_then_s, am_push_s, am_push_n, true_and, and_true, true_or, or_true, Int.cast_ofNat_Int, am_02, am_22, not_true_eq_false, not_false_eq_true]
        · rw [bo_f (fun z => hw (wk.mp z))] at f1
          refine ⟨M2, ?_, c2, fs_tr (fs_18 d5) (fs_18 f3)⟩
          rw [b_Pe_warm_20, uf, am_cif_f hw, Int.add_zero]
          simp (disch := omega) only [b_Pe_warm_26, b_Pe_warm_33, b_Pe_warm_40, b_Pe_warm_43, tp0, tp1, tp2, tp3, tp4, tp5, tp6, tp7, tp8, tp9, ni0, d0, f1, am_ck_T, am_ck_t, am_cif_t, am_cif_f, am_cif_T, am_cif_F, am_then_s, am_push_s, am_push_n, true_and, and_true, true_or, or_true, Int.cast_ofNat_Int, am_02, am_22, not_true_eq_false, not_false_eq_true]
    obtain ⟨M0, d1, d2, d3⟩ := k_copy (S := S) (b := 18) (b' := 14) hS lf18 lf14 hP (by omega) c.2.1
    have c0 := CX_fs (fs_18 d3) c
    obtain ⟨M2, f1, f2, f3⟩ := k_sendHome hS lf18 hP c0.1 d2
    have c2 := CX_fs (fs_18 f3) c0
    obtain ⟨M3, g1, g2, g3⟩ := loop 99 0 (xR X) (vsh (xR X)).2.1 (vrd (xR X)) (vdy (xR X)) B M2 (by omega) (by omega) (okR_sh hR) c2 f2 (fun q q1 q2 q3 => am_cif_t q3)
    rw [Int.zero_add] at g1
    refine ⟨M3, ?_, g2, fs_fr (fs_tr (fs_18 d3) (fs_tr (fs_18 f3) g3))⟩
    simp (disch := omega) only [c_Pe_warm, b_Pe_warm_0, b_Pe_warm_11, b_Pe_warm_18, tp0, tp1, tp2, tp3, tp4, tp5, tp6, tp7, tp8, tp9, ni0, d1, f1, g1, am_ck_T, am_ck_t, am_cif_t, am_cif_f, am_cif_T, am_cif_F, am_then_s, am_push_s, am_push_n, true_and, and_true, true_or, or_true, Int.cast_ofNat_Int, am_02, am_22, not_true_eq_false, not_false_eq_true]
  · have loop : ∀ (n : Nat) (m : Int) (K : vR) (G : Int → Int) (rd dy B : Int) (M : am_M) (o3 : Option am_V), 0 ≤ m → m + n = 99 → okR (xP X) B (vK K G rd dy) → MX X M → mR (xP X) (vK K G rd dy) 82 M → ∃ M1, am_R 165 11 [some (am_r 164), some (am_i m), some (am_i 1), o3] [] S M = some (some (am_i (m + vwl (xP X) n K)), S, M1) ∧ MX X M1 ∧ ft M M1 := by
      intro n
      induction n with
      | zero =>
        intro m K G rd dy B M o3 m1 m2 okr c cr
        refine ⟨M, ?_, c, ft_rf⟩
        rw [b_Mo_warm_11]
        simp (disch := omega) only [b_Mo_warm_15, b_Mo_warm_96, vwl, Int.add_zero, am_ck_T, am_ck_t, am_cif_t, am_cif_f, am_cif_T, am_cif_F, am_then_s, am_push_s, am_push_n, true_and, and_true, true_or, or_true, Int.cast_ofNat_Int, am_02, am_22, not_true_eq_false, not_false_eq_true]
      | succ n ih =>
        intro m K G rd dy B M o3 m1 m2 okr c cr
        obtain ⟨Ma, a1, a2, a3⟩ := m_home hS hP m 1 (vnp (xP X)).toNat 0 G M (by omega) (by omega) c.1 cr (fun q q1 q2 => by omega)
        have ca := MX_ft hP (ft_fx a3) c
        have oka : okR (xP X) B (vK K (fun q => q) rd dy) := okR_K okr (fun p p1 p2 => ⟨p1, p2⟩)
        obtain ⟨M0, G1, d1, d2, d3, d4, d5⟩ := m_visits hS hP m 1 (vnp (xP X)).toNat 0 (fun q => q) Ma (by omega) (by omega) oka ca.1 a2 (fun q q1 q2 q3 => by rw [if_neg (by omega)])
        have c0 := MX_ft hP (ft_fx d5) ca
        obtain ⟨M2, f1, f2, f3⟩ := m_morning hS hP (x := 82) (by omega) d3 c0.1 d2
        have c2 := MX_ft hP (ft_fx f3) c0
        have rd0 := okr.2.2.2.2.2.2
        have okd := okR_dawn (okR_B (B' := B + 8) d3 (by omega)) (by show dy < 9030 + (B + 8); have := rd0.2.2.2.1; change dy ≤ 9030 + B at this; omega)
        have wk := vwm_K (rd := rd) (dy := dy) d4
        have we := vdawn_K (rd := rd) (dy := dy) d4
        have o1 := m_one (S := S) (M := M2) (v := 1) (Or.inr rfl)
        have o0 := m_one (S := S) (M := M2) (v := 0) (Or.inl rfl)
        have uf : vwl (xP X) (n + 1) K = am_cif (vwm (xP X) (vwv (xP X) K)) (1 + vwl (xP X) n (vwx (xP X) K)) 0 := rfl
        by_cases hw : vwm (xP X) (vwv (xP X) K)
        · rw [bo_t (wk.mpr hw)] at f1
          obtain ⟨M3, g1, g2, g3⟩ := ih (m + 1) (vwx (xP X) K) (fun q => am_cif (vlv K q) q (G1 q)) rd (dy + 1) (B + 8) M2 (some (am_i (vnp (xP X)))) (by omega) (by omega) (okR_eq we okd) c2 (mR_to f2 we)
          refine ⟨M3, ?_, g2, ft_tr (ft_fx a3) (ft_tr (ft_fx d5) (ft_tr (ft_fx f3) g3))⟩
          rw [b_Mo_warm_11, uf, am_cif_t hw, ← Int.add_assoc, ← g1]
          simp (disch := omega) only [b_Mo_warm_15, b_Mo_warm_21, a1, b_Mo_warm_48, d1, b_Mo_warm_79, b_Mo_warm_85, b_Mo_warm_91, mo0, mr0, mr1, mr2, mr3, mr4, mr5, mr6, mr7, mr8, mr9, mr10, mr11, mk0, mk1, mk2, mk3, mk4, mk5, mk6, mk7, mk8, mk9, mk10, mk11, f1, o1, am_ck_T, am_ck_t, am_cif_t, am_cif_f, am_cif_T, am_cif_F, am_then_s, am_push_s, am_push_n, true_and, and_true, true_or, or_true, Int.cast_ofNat_Int, am_02, am_22, not_true_eq_false, not_false_eq_true]
        · rw [bo_f (fun z => hw (wk.mp z))] at f1
          refine ⟨M2, ?_, c2, ft_tr (ft_fx a3) (ft_tr (ft_fx d5) (ft_fx f3))⟩
          have e0 : am_R 165 11 [some (am_r 164), some (am_i (m + 0)), some (am_i 0), some (am_i (vnp (xP X)))] [] S M2 = some (some (am_i (m + 0)), S, M2) := by
            rw [b_Mo_warm_11]
            simp (disch := omega) only [b_Mo_warm_96, am_ck_T, am_ck_t, am_cif_t, am_cif_f, am_cif_T, am_cif_F, am_then_s, am_push_s, am_push_n, true_and, and_true, true_or, or_true, Int.cast_ofNat_Int, am_02, am_22, not_true_eq_false, not_false_eq_true]
          rw [b_Mo_warm_11, uf, am_cif_f hw]
          simp (disch := omega) only [b_Mo_warm_15, b_Mo_warm_21, a1, b_Mo_warm_48, d1, b_Mo_warm_79, b_Mo_warm_85, b_Mo_warm_91, mo0, mr0, mr1, mr2, mr3, mr4, mr5, mr6, mr7, mr8, mr9, mr10, mr11, mk0, mk1, mk2, mk3, mk4, mk5, mk6, mk7, mk8, mk9, mk10, mk11, f1, o0, e0, am_ck_T, am_ck_t, am_cif_t, am_cif_f, am_cif_T, am_cif_F, am_then_s, am_push_s, am_push_n, true_and, and_true, true_or, or_true, Int.cast_ofNat_Int, am_02, am_22, not_true_eq_false, not_false_eq_true]
    obtain ⟨M0, d1, d2, d3⟩ := m_copy (S := S) (M := M) (x := 0) (y := 82) hS (by omega) (by omega) (by omega)
    obtain ⟨M1, g1, g2, g3⟩ := loop 99 0 (xR X) (vgt (xR X)) (vrd (xR X)) (vdy (xR X)) B M0 none (by omega) (by omega) hR (MX_ft hP (ft_fy d3) c) (mR_copy hP d2 c.2.1)
    rw [Int.zero_add] at g1
    refine ⟨M1, ?_, g2, ft_fr (ft_tr (ft_fy d3) g3)⟩
    simp (disch := omega) only [c_Mo_warm, b_Mo_warm_0, b_Mo_warm_7, mo0, mr0, mr1, mr2, mr3, mr4, mr5, mr6, mr7, mr8, mr9, mr10, mr11, mk0, mk1, mk2, mk3, mk4, mk5, mk6, mk7, mk8, mk9, mk10, mk11, d1, g1, am_ck_T, am_ck_t, am_cif_t, am_cif_f, am_cif_T, am_cif_F, am_then_s, am_push_s, am_push_n, true_and, and_true, true_or, or_true, Int.cast_ofNat_Int, am_02, am_22, not_true_eq_false, not_false_eq_true]
end WARM2
