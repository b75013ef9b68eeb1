/-! the reference's mornings -/
theorem mP_fx {P : vP} {M M1 : am_M} {x : Int} (h : fx x M M1) (mp : mP P M) : mP P M1 := mP_fr (fun k hk j => h.1 k (by omega) j) mp
section MORN
variable {S : am_S} {P : vP} {B : Int} {x : Int}
theorem m_morn_in (hS : ly S) (hP : okP P) (hx : 0 ≤ x ∧ x ≤ 2706) {R : vR} (hR : okR P B R) {p : Int} (hp : 0 ≤ p) (hp2 : p < vnp P) : ∀ (n : Nat) (q : Int) (M : am_M) (w : Prop) (o : Option am_V), p < q → q + n = vnp P → mP P M → mR P (vnu R (fun a c => vcd R a c ∧ zm p q a c)) x M → (w ↔ ∃ a c, 0 ≤ a ∧ a < vnp P ∧ 0 ≤ c ∧ c < vnp P ∧ vcd R a c ∧ zm p q a c) →
    ∃ (M1 : am_M) (w1 : Prop) (o1 : Option am_V), am_R 141 17 [some (am_r 164), some (am_i x), some (am_i (bo w)), some (am_i p), some (am_i q), o] [] S M = am_R 141 4 [some (am_r 164), some (am_i x), some (am_i (bo w1)), some (am_i (p + 1)), some (am_i (vnp P)), o1] [] S M1 ∧ mR P (vnu R (fun a c => vcd R a c ∧ zm (p + 1) 0 a c)) x M1 ∧ fx x M M1 ∧ (w1 ↔ ∃ a c, 0 ≤ a ∧ a < vnp P ∧ 0 ≤ c ∧ c < vnp P ∧ vcd R a c ∧ zm (p + 1) 0 a c) := by
  obtain ⟨mo0, ⟨mr0, mr1, mr2, mr3, mr4, mr5, mr6, mr7, mr8, mr9, mr10, mr11⟩, mk0, mk1, mk2, mk3, mk4, mk5, mk6, mk7, mk8, mk9, mk10, mk11⟩ := hS.2.2.2.2.2.2.2.2.2.2
  have hP1 := hP.1
  have hP2 := hP.2.1
  have hP3 := hP.2.2.1
  have hP4 := hP.2.2.2.1
  have hz : ∀ a c, 0 ≤ a → a < vnp P → 0 ≤ c → c < vnp P → (zm p (vnp P) a c ↔ zm (p + 1) 0 a c) := by
    intro a c h1 h2 h3 h4
    unfold zm
    omega
  intro n
  induction n with
  | zero =>
    intro q M w o hq hn mp mr hw
    obtain rfl : q = vnp P := by omega
    have c1 := mp.1
    refine ⟨M, w, o, ?_, ?_, fx_rf, ?_⟩
    · rw [b_Mo_morningIn_17]
      simp (disch := omega) only [b_Mo_morningIn_110, mo0, mr0, mr1, mr2, mr3, mr4, mr5, mr6, mr7, mr8, mr9, mr10, mr11, mk0, mk1, mk2, mk3, mk4, mk5, mk6, mk7, mk8, mk9, mk10, mk11, c1, am_ck_T, am_ck_t, am_cif_t, am_cif_f, am_cif_T, am_cif_F, am_then_s, am_push_s, am_push_n, true_and, and_true, true_or, or_true, Int.cast_ofNat_Int, am_02, am_22, not_true_eq_false, not_false_eq_true]
    · exact mR_eq (vnu_same (fun a c h1 h2 h3 h4 => ⟨fun g => ⟨g.1, (hz a c h1 h2 h3 h4).mpr g.2⟩, fun g => ⟨g.1, (hz a c h1 h2 h3 h4).mp g.2⟩⟩)) mr
    · rw [hw]
      exact ⟨fun ⟨a, c, h1, h2, h3, h4, h5, h6⟩ => ⟨a, c, h1, h2, h3, h4, h5, (hz a c h1 h2 h3 h4).mp h6⟩, fun ⟨a, c, h1, h2, h3, h4, h5, h6⟩ => ⟨a, c, h1, h2, h3, h4, h5, (hz a c h1 h2 h3 h4).mpr h6⟩⟩
  | succ n ih =>
    intro q M w o hq hn mp mr hw
    have c1 := mp.1
    have hD : ∀ a c, 0 ≤ a → a < vnp P → 0 ≤ c → c < vnp P → ((vcd R a c ∧ zm p (q + 1) a c) ↔ ((vcd R a c ∧ zm p q a c) ∨ (vcd R p q ∧ ((a = p ∧ c = q) ∨ (a = q ∧ c = p))))) := by
      intro a c h1 h2 h3 h4
      constructor
      · intro g
        by_cases e : (a = p ∧ c = q) ∨ (a = q ∧ c = p)
        · refine Or.inr ⟨?_, e⟩
          rcases e with ⟨rfl, rfl⟩ | ⟨rfl, rfl⟩
          · exact g.1
          · exact (vcd_sym hR h1 h2 h3 h4).mp g.1
        · exact Or.inl ⟨g.1, by have g2 := g.2; unfold zm at g2 ⊢; omega⟩
      · rintro (g | ⟨g, ⟨rfl, rfl⟩ | ⟨rfl, rfl⟩⟩)
        · exact ⟨g.1, by have g2 := g.2; unfold zm at g2 ⊢; omega⟩
        · exact ⟨g, by unfold zm; omega⟩
        · exact ⟨(vcd_sym hR h3 h4 h1 h2).mp g, by unfold zm; omega⟩
    have lp := m_isDead hS mr hx p
    have lq := m_isDead hS mr hx q
    have lp' : vlv (vnu R (fun a c => vcd R a c ∧ zm p q a c)) p = vlv R p := rfl
    have lq' : vlv (vnu R (fun a c => vcd R a c ∧ zm p q a c)) q = vlv R q := rfl
    rw [lp'] at lp
    rw [lq'] at lq
    have gp : M 165 (x + 64 + p) = vgt R p := mr.2.1 p hp hp2
    have gq : M 165 (x + 64 + q) = vgt R q := mr.2.1 q (by omega) (by omega)
    have rp := (hR.2.1 p hp hp2).2
    have rq := (hR.2.1 q (by omega) (by omega)).2
    have rw0 := bo_R w
    have hnz : ¬ zm p q p q := by unfold zm; omega
    have hnz2 : ¬ zm p q q p := by unfold zm; omega
    by_cases hc : vcd R p q
    · have okn : okR P B (vnu R (fun a c => vcd R a c ∧ zm p q a c)) := okR_nu hR (fun _ _ h => h.1) (fun a c h1 h2 h3 h4 => ⟨fun g => ⟨(vcd_sym hR h1 h2 h3 h4).mp g.1, by have := g.2; unfold zm at this ⊢; omega⟩, fun g => ⟨(vcd_sym hR h1 h2 h3 h4).mpr g.1, by have := g.2; unfold zm at this ⊢; omega⟩⟩)
      obtain ⟨M1, d1, d2, d3⟩ := m_nearer hS hP okn mr hx hp hp2 (show 0 ≤ q by omega) (by omega)
      have e1 : vnr (vnu R (fun a c => vcd R a c ∧ zm p q a c)) p q = vnr R p q := am_cif_f (fun g => hnz g.2)
      rw [e1, bo_t hc.2.2.2.2] at d1
      have d4 := mR_eq (vnu_step (D' := fun a c => vcd R a c ∧ zm p (q + 1) a c) hR hp hp2 (show 0 ≤ q by omega) (by omega) hc (fun g => hnz g.2) (fun g => hnz2 g.2) (fun a c h1 h2 h3 h4 => (hD a c h1 h2 h3 h4).trans ⟨fun g => g.elim Or.inl (fun g => Or.inr g.2), fun g => g.elim Or.inl (fun g => Or.inr ⟨hc, g⟩)⟩)) d2
      obtain ⟨M2, w2, o2, f1, f2, f3, f4⟩ := ih (q + 1) M1 True (some (am_i 1)) (by omega) (by omega) (mP_fx d3 mp) d4 ⟨fun _ => ⟨p, q, hp, hp2, by omega, by omega, hc, by unfold zm; omega⟩, fun _ => trivial⟩
      rw [bo_t trivial] at f1
      refine ⟨M2, w2, o2, ?_, f2, fx_tr d3 f3, f4⟩
      obtain ⟨hc1, hc2, hc3, hc4, hc5⟩ := hc
      rw [b_Mo_morningIn_17]
      simp (disch := omega) only [b_Mo_morningIn_26, b_Mo_morningIn_32, b_Mo_morningIn_35, b_Mo_morningIn_42, b_Mo_morningIn_45, b_Mo_morningIn_71, b_Mo_morningIn_76, b_Mo_morningIn_83, b_Mo_morningIn_91, b_Mo_morningIn_98, b_Mo_morningIn_103, mo0, mr0, mr1, mr2, mr3, mr4, mr5, mr6, mr7, mr8, mr9, mr10, mr11, mk0, mk1, mk2, mk3, mk4, mk5, mk6, mk7, mk8, mk9, mk10, mk11, c1, lp, lq, bo_f (fun g : ¬ vlv R p => g hc2), bo_f (fun g : ¬ vlv R q => g hc3), gp, gq, hc4, d1, f1, am_ck_T, am_ck_t, am_cif_t, am_cif_f, am_cif_T, am_cif_F, am_then_s, am_push_s, am_push_n, true_and, and_true, true_or, or_true, Int.cast_ofNat_Int, am_02, am_22, not_true_eq_false, not_false_eq_true]
    · have hw' : w ↔ ∃ a c, 0 ≤ a ∧ a < vnp P ∧ 0 ≤ c ∧ c < vnp P ∧ vcd R a c ∧ zm p (q + 1) a c := by
        rw [hw]
        exact ⟨fun ⟨a, c, h1, h2, h3, h4, h5⟩ => ⟨a, c, h1, h2, h3, h4, (hD a c h1 h2 h3 h4).mpr (Or.inl h5)⟩, fun ⟨a, c, h1, h2, h3, h4, h5⟩ => ⟨a, c, h1, h2, h3, h4, ((hD a c h1 h2 h3 h4).mp h5).elim id (fun g => absurd g.1 hc)⟩⟩
      have hDs : ∀ a c, 0 ≤ a → a < vnp P → 0 ≤ c → c < vnp P → ((vcd R a c ∧ zm p (q + 1) a c) ↔ (vcd R a c ∧ zm p q a c)) := fun a c h1 h2 h3 h4 => (hD a c h1 h2 h3 h4).trans ⟨fun g => g.elim id (fun g => absurd g.1 hc), Or.inl⟩
      have tl : ∀ (s5 : Option am_V) (M' : am_M), am_R 141 94 [some (am_r 164), some (am_i x), some (am_i (bo w)), some (am_i p), some (am_i q), s5] [] S M' = am_R 141 17 [some (am_r 164), some (am_i x), some (am_i (bo w)), some (am_i p), some (am_i (q + 1)), s5] [] S M' := by
        intro s5 M'
        by_cases hw0 : w
        · simp (disch := omega) only [b_Mo_morningIn_94, b_Mo_morningIn_98, b_Mo_morningIn_103, bo_t hw0, am_ck_T, am_ck_t, am_cif_t, am_cif_f, am_cif_T, am_cif_F, am_then_s, am_push_s, am_push_n, true_and, and_true, true_or, or_true, Int.cast_ofNat_Int, am_02, am_22, not_true_eq_false, not_false_eq_true]
        · simp (disch := omega) only [b_Mo_morningIn_94, b_Mo_morningIn_102, b_Mo_morningIn_103, bo_f hw0, am_ck_T, am_ck_t, am_cif_t, am_cif_f, am_cif_T, am_cif_F, am_then_s, am_push_s, am_push_n, true_and, and_true, true_or, or_true, Int.cast_ofNat_Int, am_02, am_22, not_true_eq_false, not_false_eq_true]
      by_cases l3 : vlv R p ∧ vlv R q ∧ vgt R p = vgt R q
      · obtain ⟨l1, l2, l3⟩ := l3
        obtain ⟨M1, d1, d2, d3⟩ := m_nearer hS hP (okR_nu hR (D := fun a c => vcd R a c ∧ zm p q a c) (fun _ _ h => h.1) (fun a c h1 h2 h3 h4 => ⟨fun g => ⟨(vcd_sym hR h1 h2 h3 h4).mp g.1, by have := g.2; unfold zm at this ⊢; omega⟩, fun g => ⟨(vcd_sym hR h1 h2 h3 h4).mpr g.1, by have := g.2; unfold zm at this ⊢; omega⟩⟩)) mr hx hp hp2 (show 0 ≤ q by omega) (by omega)
        have e1 : vnr (vnu R (fun a c => vcd R a c ∧ zm p q a c)) p q = vnr R p q := am_cif_f (fun g => hnz g.2)
        have n9 : ¬ vnr R p q < 9 := fun g => hc ⟨by omega, l1, l2, l3, g⟩
        have db : vbn (vnu R (fun a c => vcd R a c ∧ zm p q a c)) p q = vnu R (fun a c => vcd R a c ∧ zm p q a c) := by unfold vbn; rw [e1, if_neg n9]
        rw [e1, bo_f n9] at d1
        rw [db] at d2
        obtain ⟨M3, w3, o3, g1, g2, g3, g4⟩ := ih (q + 1) M1 w (some (am_i 1)) (by omega) (by omega) (mP_fx d3 mp) (mR_eq (vnu_same hDs) d2) hw'
        refine ⟨M3, w3, o3, ?_, g2, fx_tr d3 g3, g4⟩
        rw [b_Mo_morningIn_17]
        simp (disch := omega) only [b_Mo_morningIn_26, b_Mo_morningIn_32, b_Mo_morningIn_35, b_Mo_morningIn_42, b_Mo_morningIn_45, b_Mo_morningIn_71, b_Mo_morningIn_76, b_Mo_morningIn_83, b_Mo_morningIn_91, tl, mo0, mr0, mr1, mr2, mr3, mr4, mr5, mr6, mr7, mr8, mr9, mr10, mr11, mk0, mk1, mk2, mk3, mk4, mk5, mk6, mk7, mk8, mk9, mk10, mk11, c1, lp, lq, bo_f (fun g : ¬ vlv R p => g l1), bo_f (fun g : ¬ vlv R q => g l2), gp, gq, l3, d1, g1, am_ck_T, am_ck_t, am_cif_t, am_cif_f, am_cif_T, am_cif_F, am_then_s, am_push_s, am_push_n, true_and, and_true, true_or, or_true, Int.cast_ofNat_Int, am_02, am_22, not_true_eq_false, not_false_eq_true]
      · obtain ⟨M2, w2, o2, f1, f2, f3, f4⟩ := ih (q + 1) M w (some (am_i 0)) (by omega) (by omega) mp (mR_eq (vnu_same hDs) mr) hw'
        refine ⟨M2, w2, o2, ?_, f2, f3, f4⟩
        rw [b_Mo_morningIn_17]
        by_cases l1 : vlv R p
        · by_cases l2 : vlv R q
          · have l4 : ¬ vgt R p = vgt R q := fun g => l3 ⟨l1, l2, g⟩
            simp (disch := omega) only [b_Mo_morningIn_26, b_Mo_morningIn_32, b_Mo_morningIn_35, b_Mo_morningIn_42, b_Mo_morningIn_45, b_Mo_morningIn_75, b_Mo_morningIn_76, tl, mo0, mr0, mr1, mr2, mr3, mr4, mr5, mr6, mr7, mr8, mr9, mr10, mr11, mk0, mk1, mk2, mk3, mk4, mk5, mk6, mk7, mk8, mk9, mk10, mk11, c1, lp, lq, bo_f (fun g : ¬ vlv R p => g l1), bo_f (fun g : ¬ vlv R q => g l2), gp, gq, f1, am_ck_T, am_ck_t, am_cif_t, am_cif_f, am_cif_T, am_cif_F, am_then_s, am_push_s, am_push_n, true_and, and_true, true_or, or_true, Int.cast_ofNat_Int, am_02, am_22, not_true_eq_false, not_false_eq_true]
          · simp (disch := omega) only [b_Mo_morningIn_26, b_Mo_morningIn_32, b_Mo_morningIn_35, b_Mo_morningIn_42, b_Mo_morningIn_75, b_Mo_morningIn_76, tl, mo0, mr0, mr1, mr2, mr3, mr4, mr5, mr6, mr7, mr8, mr9, mr10, mr11, mk0, mk1, mk2, mk3, mk4, mk5, mk6, mk7, mk8, mk9, mk10, mk11, c1, lp, lq, bo_f (fun g : ¬ vlv R p => g l1), bo_t l2, f1, am_ck_T, am_ck_t, am_cif_t, am_cif_f, am_cif_T, am_cif_F, am_then_s, am_push_s, am_push_n, true_and, and_true, true_or, or_true, Int.cast_ofNat_Int, am_02, am_22, not_true_eq_false, not_false_eq_true]
        · simp (disch := omega) only [b_Mo_morningIn_26, b_Mo_morningIn_32, b_Mo_morningIn_75, b_Mo_morningIn_76, tl, mo0, mr0, mr1, mr2, mr3, mr4, mr5, mr6, mr7, mr8, mr9, mr10, mr11, mk0, mk1, mk2, mk3, mk4, mk5, mk6, mk7, mk8, mk9, mk10, mk11, c1, lp, bo_t l1, f1, am_ck_T, am_ck_t, am_cif_t, am_cif_f, am_cif_T, am_cif_F, am_then_s, am_push_s, am_push_n, true_and, and_true, true_or, or_true, Int.cast_ofNat_Int, am_02, am_22, not_true_eq_false, not_false_eq_true]
theorem m_morning (hS : ly S) (hP : okP P) (hx : 0 ≤ x ∧ x ≤ 2706) {R : vR} {M : am_M} (hR : okR P B R) (mp : mP P M) (mr : mR P R x M) : ∃ M1, am_call 141 [am_r 164, am_i x] S M = some (some (am_i (bo (vwm P R))), S, M1) ∧ mR P (vdawn R) x M1 ∧ fx x M M1 := by
  obtain ⟨mo0, ⟨mr0, mr1, mr2, mr3, mr4, mr5, mr6, mr7, mr8, mr9, mr10, mr11⟩, mk0, mk1, mk2, mk3, mk4, mk5, mk6, mk7, mk8, mk9, mk10, mk11⟩ := hS.2.2.2.2.2.2.2.2.2.2
  have hP1 := hP.1
  have hP2 := hP.2.1
  have hP3 := hP.2.2.1
  have hP4 := hP.2.2.2.1
  -- the gates
  have gates : ∀ (n : Nat) (p : Int) (M' : am_M) (R' : vR) (w : Prop) (o4 o5 : Option am_V), 0 ≤ p → p + n = vnp P → mP P M' → mR P R' x M' → ∃ M1, am_R 141 118 [some (am_r 164), some (am_i x), some (am_i (bo w)), some (am_i p), o4, o5] [] S M' = am_R 141 167 [some (am_r 164), some (am_i x), some (am_i (bo w)), some (am_i (vnp P)), o4, o5] [] S M1 ∧ mR P (R'.1, (fun q => am_cif (vlv R' q ∧ p ≤ q) q (vgt R' q)), R'.2.2) x M1 ∧ fx x M' M1 := by
    intro n
    induction n with
    | zero =>
      intro p M' R' w o4 o5 hp hn mp' mr'
      obtain rfl : p = vnp P := by omega
      have c1 := mp'.1
      refine ⟨M', ?_, ?_, fx_rf⟩
      · rw [b_Mo_morningIn_118]
        simp (disch := omega) only [mo0, mr0, mr1, mr2, mr3, mr4, mr5, mr6, mr7, mr8, mr9, mr10, mr11, mk0, mk1, mk2, mk3, mk4, mk5, mk6, mk7, mk8, mk9, mk10, mk11, c1, am_ck_T, am_ck_t, am_cif_t, am_cif_f, am_cif_T, am_cif_F, am_then_s, am_push_s, am_push_n, true_and, and_true, true_or, or_true, Int.cast_ofNat_Int, am_02, am_22, not_true_eq_false, not_false_eq_true]
      · refine mR_to mr' ⟨fun _ _ _ _ _ _ => rfl, fun q k1 k2 => ?_, fun _ _ _ => rfl, rfl⟩
        show vgt R' q = am_cif _ q (vgt R' q)
        rw [am_cif_f (fun w => by have := w.2; omega)]
    | succ n ih =>
      intro p M' R' w o4 o5 hp hn mp' mr'
      have c1 := mp'.1
      have lv := m_isDead hS mr' hx p
      have gp := mr'.2.1 p hp (by omega)
      by_cases h : vlv R' p
      · have fw : fx x M' (am_wr M' 165 (x + 64 + p) p) := fx_wr (by omega)
        obtain ⟨M1, d1, d2, d3⟩ := ih (p + 1) (am_wr M' 165 (x + 64 + p) p) (vSg R' p p) w o4 o5 (by omega) (by omega) (mP_fx fw mp') (mR_Sg hP mr' p (by omega))
        refine ⟨M1, ?_, ?_, fx_tr fw d3⟩
        · rw [b_Mo_morningIn_118]
          simp (disch := omega) only [b_Mo_morningIn_126, b_Mo_morningIn_142, b_Mo_morningIn_159, b_Mo_morningIn_160, mo0, mr0, mr1, mr2, mr3, mr4, mr5, mr6, mr7, mr8, mr9, mr10, mr11, mk0, mk1, mk2, mk3, mk4, mk5, mk6, mk7, mk8, mk9, mk10, mk11, c1, lv, bo_f (fun g : ¬ vlv R' p => g h), d1, am_ck_T, am_ck_t, am_cif_t, am_cif_f, am_cif_T, am_cif_F, am_then_s, am_push_s, am_push_n, true_and, and_true, true_or, or_true, Int.cast_ofNat_Int, am_02, am_22, not_true_eq_false, not_false_eq_true]
        · refine mR_to d2 ⟨fun _ _ _ _ _ _ => rfl, fun q k1 k2 => ?_, fun _ _ _ => rfl, rfl⟩
          show am_cif (vlv R' q ∧ p + 1 ≤ q) q (if q = p then p else vgt R' q) = am_cif (vlv R' q ∧ p ≤ q) q (vgt R' q)
          by_cases hq : q = p
          · subst hq
            rw [am_cif_f (fun w => by have := w.2; omega), if_pos rfl, am_cif_t ⟨h, by omega⟩]
          · rw [if_neg hq]
            by_cases hl : vlv R' q ∧ p ≤ q
            · rw [am_cif_t hl, am_cif_t ⟨hl.1, by have := hl.2; omega⟩]
            · rw [am_cif_f hl, am_cif_f (fun w => hl ⟨w.1, by have := w.2; omega⟩)]
      · obtain ⟨M1, d1, d2, d3⟩ := ih (p + 1) M' R' w o4 o5 (by omega) (by omega) mp' mr'
        have wi : am_wr M' 165 (x + 64 + p) (vgt R' p) = M' := by rw [← gp]; exact am_wr_id
        refine ⟨M1, ?_, ?_, d3⟩
        · rw [b_Mo_morningIn_118]
          simp (disch := omega) only [b_Mo_morningIn_126, b_Mo_morningIn_142, b_Mo_morningIn_145, b_Mo_morningIn_160, mo0, mr0, mr1, mr2, mr3, mr4, mr5, mr6, mr7, mr8, mr9, mr10, mr11, mk0, mk1, mk2, mk3, mk4, mk5, mk6, mk7, mk8, mk9, mk10, mk11, c1, lv, bo_t h, gp, wi, d1, am_ck_T, am_ck_t, am_cif_t, am_cif_f, am_cif_T, am_cif_F, am_then_s, am_push_s, am_push_n, true_and, and_true, true_or, or_true, Int.cast_ofNat_Int, am_02, am_22, not_true_eq_false, not_false_eq_true]
        · refine mR_to d2 ⟨fun _ _ _ _ _ _ => rfl, fun q k1 k2 => ?_, fun _ _ _ => rfl, rfl⟩
          show am_cif (vlv R' q ∧ p + 1 ≤ q) q (vgt R' q) = am_cif (vlv R' q ∧ p ≤ q) q (vgt R' q)
          by_cases hl : vlv R' q ∧ p ≤ q
          · rw [am_cif_t hl, am_cif_t ⟨hl.1, by have h9 : q ≠ p := fun w => h (w ▸ hl.1); have := hl.2; omega⟩]
          · rw [am_cif_f hl, am_cif_f (fun w => hl ⟨w.1, by have := w.2; omega⟩)]
  have key : ∀ (n : Nat) (p : Int) (M : am_M) (w : Prop) (o4 o5 : Option am_V), 0 ≤ p → p + n = vnp P → mP P M → mR P (vnu R (fun a c => vcd R a c ∧ zm p 0 a c)) x M → (w ↔ ∃ a c, 0 ≤ a ∧ a < vnp P ∧ 0 ≤ c ∧ c < vnp P ∧ vcd R a c ∧ zm p 0 a c) → ∃ M1, am_R 141 4 [some (am_r 164), some (am_i x), some (am_i (bo w)), some (am_i p), o4, o5] [] S M = some (some (am_i (bo (vwm P R))), S, M1) ∧ mR P (vdawn R) x M1 ∧ fx x M M1 := by
    intro n
    induction n with
    | zero =>
      intro p M w o4 o5 hp hn mp mr hw
      obtain rfl : p = vnp P := by omega
      have c1 := mp.1
      have hz : ∀ a c, 0 ≤ a → a < vnp P → 0 ≤ c → c < vnp P → zm (vnp P) 0 a c := by intro a c h1 h2 h3 h4; unfold zm; omega
      have mr2 := mR_eq (vnu_same (D' := vcd R) (fun a c h1 h2 h3 h4 => ⟨fun g => ⟨g, hz a c h1 h2 h3 h4⟩, fun g => g.1⟩)) mr
      obtain ⟨M1, d1, d2, d3⟩ := gates (vnp P).toNat 0 M _ w o4 o5 (by omega) (by omega) mp mr2
      have hwm : bo w = bo (vwm P R) := bo_c (hw.trans ⟨fun ⟨a, c, h1, h2, h3, h4, h5, h6⟩ => ⟨a, c, h1, h2, h3, h4, h5⟩, fun ⟨a, c, h1, h2, h3, h4, h5⟩ => ⟨a, c, h1, h2, h3, h4, h5, hz a c h1 h2 h3 h4⟩⟩)
      have e6 : M1 165 (x + 79) = vdy R := d2.2.2.2.2.2
      have r01 := bo_01 w
      have d4 : mR P (vsh (vnu R (vcd R))) x M1 := by
        refine mR_to d2 ⟨fun _ _ _ _ _ _ => rfl, fun q k1 k2 => ?_, fun _ _ _ => rfl, rfl⟩
        show am_cif (vlv (vnu R (vcd R)) q ∧ 0 ≤ q) q (vgt R q) = am_cif (vlv (vnu R (vcd R)) q) q (vgt R q)
        by_cases h : vlv (vnu R (vcd R)) q
        · rw [am_cif_t h, am_cif_t ⟨h, k1⟩]
        · rw [am_cif_f h, am_cif_f (fun w => h w.1)]
      refine ⟨am_wr M1 165 (x + 79) (vdy R + 1), ?_, mR_Sy hP d4 _, fx_tr d3 (fx_wr (by omega))⟩
      rw [← hwm, b_Mo_morningIn_4]
      simp (disch := omega) only [b_Mo_morningIn_116, b_Mo_morningIn_167, mo0, mr0, mr1, mr2, mr3, mr4, mr5, mr6, mr7, mr8, mr9, mr10, mr11, mk0, mk1, mk2, mk3, mk4, mk5, mk6, mk7, mk8, mk9, mk10, mk11, c1, d1, e6, am_ck_T, am_ck_t, am_cif_t, am_cif_f, am_cif_T, am_cif_F, am_then_s, am_push_s, am_push_n, true_and, and_true, true_or, or_true, Int.cast_ofNat_Int, am_02, am_22, not_true_eq_false, not_false_eq_true]
    | succ n ih =>
      intro p M w o4 o5 hp hn mp mr hw
      have c1 := mp.1
      have hz : ∀ a c, 0 ≤ a → 0 ≤ c → vcd R a c → (zm p (p + 1) a c ↔ zm p 0 a c) := by
        intro a c h1 h2 hc
        have := hc.1
        unfold zm
        omega
      have mr1 := mR_eq (vnu_same (D' := fun a c => vcd R a c ∧ zm p (p + 1) a c) (fun a c h1 h2 h3 h4 => ⟨fun g => ⟨g.1, (hz a c h1 h3 g.1).mp g.2⟩, fun g => ⟨g.1, (hz a c h1 h3 g.1).mpr g.2⟩⟩)) mr
      have hw1 : w ↔ ∃ a c, 0 ≤ a ∧ a < vnp P ∧ 0 ≤ c ∧ c < vnp P ∧ vcd R a c ∧ zm p (p + 1) a c := by
        rw [hw]
        exact ⟨fun ⟨a, c, h1, h2, h3, h4, h5, h6⟩ => ⟨a, c, h1, h2, h3, h4, h5, (hz a c h1 h3 h5).mpr h6⟩, fun ⟨a, c, h1, h2, h3, h4, h5, h6⟩ => ⟨a, c, h1, h2, h3, h4, h5, (hz a c h1 h3 h5).mp h6⟩⟩
      obtain ⟨M1, w1, o1, d1, d2, d3, d4⟩ := m_morn_in hS hP hx hR hp (show p < vnp P by omega) (vnp P - (p + 1)).toNat (p + 1) M w o5 (by omega) (by omega) mp mr1 hw1
      obtain ⟨M2, f1, f2, f3⟩ := ih (p + 1) M1 w1 (some (am_i (vnp P))) o1 (by omega) (by omega) (mP_fx d3 mp) d2 d4
      refine ⟨M2, ?_, f2, fx_tr d3 f3⟩
      rw [b_Mo_morningIn_4]
      simp (disch := omega) only [b_Mo_morningIn_12, mo0, mr0, mr1, mr2, mr3, mr4, mr5, mr6, mr7, mr8, mr9, mr10, mr11, mk0, mk1, mk2, mk3, mk4, mk5, mk6, mk7, mk8, mk9, mk10, mk11, c1, d1, f1, am_ck_T, am_ck_t, am_cif_t, am_cif_f, am_cif_T, am_cif_F, am_then_s, am_push_s, am_push_n, true_and, and_true, true_or, or_true, Int.cast_ofNat_Int, am_02, am_22, not_true_eq_false, not_false_eq_true]
  have z0 : ∀ a c, 0 ≤ a → a < vnp P → 0 ≤ c → c < vnp P → ¬ zm 0 0 a c := by intro a c h1 h2 h3 h4; unfold zm; omega
  have mr0 : mR P (vnu R (fun a c => vcd R a c ∧ zm 0 0 a c)) x M := by
    refine mR_to mr ⟨fun a c h1 h2 h3 h4 => ?_, fun _ _ _ => rfl, fun _ _ _ => rfl, rfl⟩
    exact (am_cif_f (fun g => z0 a c h1 h2 h3 h4 g.2)).symm
  obtain ⟨M1, d1, d2, d3⟩ := key (vnp P).toNat 0 M False none none (by omega) (by omega) mp mr0 ⟨fun h => h.elim, fun ⟨a, c, h1, h2, h3, h4, h5, h6⟩ => z0 a c h1 h2 h3 h4 h6⟩
  rw [bo_f (fun h => h)] at d1
  exact ⟨M1, by rw [c_Mo_morningIn, b_Mo_morningIn_0]; exact d1, d2, d3⟩
end MORN
