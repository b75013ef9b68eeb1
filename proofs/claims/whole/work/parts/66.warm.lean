/-! warm -/
/-- p may go on by line l from its own gate -/
def vvc (P : vP) (R : vR) (p l : Int) : Prop := vbp P R l p ≠ -1 ∧ vmg P R p l (vbp P R l p + 1)
noncomputable def vvl (P : vP) (R : vR) (p : Int) : Int := vff (vvc P R p) (vnl P).toNat 0
noncomputable def vvt (P : vP) (R : vR) (p l : Int) : Int := vsp P R l (vfa P R p l (min 5 (vsz P l - 1 - vbp P R l p)).toNat (vbp P R l p))
/-- to whom p goes visiting -/
noncomputable def vvg (P : vP) (R : vR) (p : Int) : Int := if vvl P R p = -1 then p else vvt P R p (vvl P R p)
def vK (K : vR) (G : Int → Int) (rd dy : Int) : vR := (K.1, G, K.2.2.1, vdd K, rd, dy)
noncomputable def vwv (P : vP) (K : vR) : vR := vK K (vvg P K) 0 0
noncomputable def vwx (P : vP) (K : vR) : vR := ((vdawn (vwv P K)).1, (fun q => q), K.2.2.1, vdd K, 0, 0)
/-- mornings by which some two get nearer, n at most -/
noncomputable def vwl (P : vP) : Nat → vR → Int
  | 0, _ => 0
  | n + 1, K => am_cif (vwm P (vwv P K)) (1 + vwl P n (vwx P K)) 0
theorem vwl_rng (P : vP) : ∀ (n : Nat) (K : vR), 0 ≤ vwl P n K ∧ vwl P n K ≤ n := by
  intro n
  induction n with
  | zero => intro K; exact ⟨Int.le_refl _, Int.le_refl _⟩
  | succ n ih =>
    intro K
    have := ih (vwx P K)
    unfold vwl
    by_cases h : vwm P (vwv P K)
    · rw [am_cif_t h]; omega
    · rw [am_cif_f h]; omega
theorem vff_some (c : Int → Prop) : ∀ (n : Nat) (l : Int), 0 ≤ l → vff c n l ≠ -1 → c (vff c n l) := by
  intro n
  induction n with
  | zero => intro l _ h; exact absurd rfl h
  | succ n ih =>
    intro l hl h
    unfold vff at h ⊢
    by_cases e : c l
    · rw [am_cif_t e]; exact e
    · rw [am_cif_f e] at h ⊢; exact ih (l + 1) (by omega) h
theorem okR_eq {P : vP} {R R' : vR} {B : Int} (h : vEq P R R') (hR : okR P B R) : okR P B R' := by
  obtain ⟨a1, a2, a3, a4, a5⟩ := hR
  obtain ⟨e1, e2, e3, e4⟩ := h
  refine ⟨fun p q p1 p2 q1 q2 => ?_, fun p p1 p2 => ?_, fun l l1 l2 => ?_, fun l k l1 l2 k1 k2 => ?_, ?_⟩
  · rw [← e1 p q p1 p2 q1 q2, ← e1 q p q1 q2 p1 p2]; exact a1 p q p1 p2 q1 q2
  · rw [← e1 p p p1 p2 p1 p2, ← e2 p p1 p2]; exact a2 p p1 p2
  · rw [← e3 l l1 l2]; exact a3 l l1 l2
  · rw [← e3 l l1 l2]; exact a4 l k l1 l2 k1 k2
  · have f1 : vdd R = vdd R' := congrArg (fun t => t.1) e4
    have f2 : vrd R = vrd R' := congrArg (fun t => t.2.1) e4
    have f3 : vdy R = vdy R' := congrArg (fun t => t.2.2) e4
    rw [← f1, ← f2, ← f3]; exact a5
theorem vcd_K {P : vP} {K : vR} {G : Int → Int} {rd dy : Int} (h : ∀ q, 0 ≤ q → q < vnp P → vlv K q → G q = vvg P K q) {a c : Int} (a1 : 0 ≤ a) (a2 : a < vnp P) (c1 : 0 ≤ c) (c2 : c < vnp P) : vcd (vK K G rd dy) a c ↔ vcd (vwv P K) a c := by
  show (a ≠ c ∧ vlv K a ∧ vlv K c ∧ G a = G c ∧ vnr K a c < 9) ↔ (a ≠ c ∧ vlv K a ∧ vlv K c ∧ vvg P K a = vvg P K c ∧ vnr K a c < 9)
  constructor
  · rintro ⟨z1, z2, z3, z4, z5⟩
    rw [h a a1 a2 z2, h c c1 c2 z3] at z4
    exact ⟨z1, z2, z3, z4, z5⟩
  · rintro ⟨z1, z2, z3, z4, z5⟩
    rw [← h a a1 a2 z2, ← h c c1 c2 z3] at z4
    exact ⟨z1, z2, z3, z4, z5⟩
theorem vwm_K {P : vP} {K : vR} {G : Int → Int} {rd dy : Int} (h : ∀ q, 0 ≤ q → q < vnp P → vlv K q → G q = vvg P K q) : vwm P (vK K G rd dy) ↔ vwm P (vwv P K) :=
  ⟨fun ⟨a, c, h1, h2, h3, h4, h5⟩ => ⟨a, c, h1, h2, h3, h4, (vcd_K h h1 h2 h3 h4).mp h5⟩, fun ⟨a, c, h1, h2, h3, h4, h5⟩ => ⟨a, c, h1, h2, h3, h4, (vcd_K h h1 h2 h3 h4).mpr h5⟩⟩
theorem vdawn_K {P : vP} {K : vR} {G : Int → Int} {rd dy : Int} (h : ∀ q, 0 ≤ q → q < vnp P → vlv K q → G q = vvg P K q) : vEq P (vdawn (vK K G rd dy)) (vK (vwx P K) (fun q => am_cif (vlv K q) q (G q)) rd (dy + 1)) := by
  refine ⟨fun a c a1 a2 c1 c2 => ?_, fun _ _ _ => rfl, fun _ _ _ => rfl, rfl⟩
  show am_cif (vcd (vK K G rd dy) a c) (vnr K a c + 1) (vnr K a c) = am_cif (vcd (vwv P K) a c) (vnr K a c + 1) (vnr K a c)
  have e := vcd_K (rd := rd) (dy := dy) h a1 a2 c1 c2
  by_cases z : vcd (vwv P K) a c
  · rw [am_cif_t z, am_cif_t (e.mpr z)]
  · rw [am_cif_f z, am_cif_f (fun w => z (e.mp w))]
theorem vfa_K {P : vP} {K : vR} {G : Int → Int} {rd dy p l : Int} : ∀ (n : Nat) (k : Int), vfa P (vK K G rd dy) p l n k = vfa P K p l n k := by
  intro n
  induction n with
  | zero => intro k; rfl
  | succ n ih =>
    intro k
    show am_cif (vmg P K p l (k + 1)) (vfa P (vK K G rd dy) p l n (k + 1)) k = am_cif (vmg P K p l (k + 1)) (vfa P K p l n (k + 1)) k
    rw [ih]
theorem vvg_K {P : vP} {K : vR} {G : Int → Int} {rd dy p : Int} : vvg P (vK K G rd dy) p = vvg P K p := by
  unfold vvg vvt
  rw [vfa_K]
  rfl
section WARM
variable {S : am_S} {M M1 : am_M} {X : vX} {B : Int} {P : vP} {R : vR} {b : Nat} {x : Int}
theorem vvl_rng (P : vP) (R : vR) (p : Int) : vvl P R p = -1 ∨ (0 ≤ vvl P R p ∧ vvl P R p < vnl P) := by
  have := vff_rng (vvc P R p) (vnl P).toNat 0
  unfold vvl
  omega
theorem vvl_c {p : Int} (h : vvl P R p ≠ -1) : vvc P R p (vvl P R p) := vff_some (vvc P R p) (vnl P).toNat 0 (by omega) h
theorem vvg_rng (hP : okP P) (hR : okR P B R) {p : Int} (h3 : 0 ≤ p) (h4 : p < vnp P) : 0 ≤ vvg P R p ∧ vvg P R p < vnp P := by
  unfold vvg
  by_cases h : vvl P R p = -1
  · rw [if_pos h]; exact ⟨h3, h4⟩
  · rw [if_neg h]
    have r := vvl_rng P R p
    have c := vvl_c h
    have s1 := hP.2.2.2.2.1 (vvl P R p) (by omega) (by omega)
    have rb := vbp_rng R (P := P) (l := vvl P R p) p (by omega)
    have rf := vfa_rng P R p (vvl P R p) (min 5 (vsz P (vvl P R p) - 1 - vbp P R (vvl P R p) p)).toNat (vbp P R (vvl P R p) p)
    have nb := c.1
    unfold vvt
    exact vsp_rng hP hR (by omega) (by omega) (by omega) (by omega)
theorem k_visitingLine (hS : ly S) (hb : lf b) (hP : okP P) (hR : okR P B R) (cp : cP P M) (cr : cR P R b M) {p : Int} (h3 : 0 ≤ p) (h4 : p < vnp P) (hg : vgt R p = p) : am_call 28 [am_r b, am_i p] S M = some (some (am_i (vvl P R p)), S, M) := by
  obtain ⟨li0, li1, li2, li3, li4, li5, li6, li7⟩ := hS.2.2.2.2.1 b hb
  obtain ⟨pl0, pl1, pl2, pl3, pl4, pl5, pl6, pl7, pl8⟩ := hS.2.1
  have hP1 := hP.1
  have hP2 := hP.2.1
  have hP3 := hP.2.2.1
  have hP4 := hP.2.2.2.1
  have c2 := cp.2.1
  have e2 : M (b + 2) p = p := (cr.2.1 p h3 h4).trans hg
  have loop : ∀ (n : Nat) (l : Int) (o3 : Option am_V), 0 ≤ l → l + n = vnl P → am_R 28 2 [some (am_r b), some (am_i p), some (am_i l), o3] [] S M = some (some (am_i (vff (vvc P R p) n l)), S, M) := by
    intro n
    induction n with
    | zero =>
      intro l o3 l1 l2
      rw [b_Li_visitingLine_2]
      simp (disch := omega) only [b_Li_visitingLine_50, li0, li1, li2, li3, li4, li5, li6, li7, pl0, pl1, pl2, pl3, pl4, pl5, pl6, pl7, pl8, c2, vff, am_ck_T, am_ck_t, am_cif_t, am_cif_f, am_cif_T, am_cif_F, am_then_s, am_push_s, am_push_n, true_and, and_true, true_or, or_true, Int.cast_ofNat_Int, am_02, am_22, not_true_eq_false, not_false_eq_true]
    | succ n ih =>
      intro l o3 l1 l2
      have s1 := hP.2.2.2.2.1 l l1 (show l < vnl P by omega)
      have e0 := k_board hS hb hP hR cp cr l1 (show l < vnl P by omega) h3 h4
      have rb := vbp_rng R (P := P) (l := l) p (by omega)
      have ih1 := ih (l + 1) (some (am_i (vbp P R l p))) (by omega) (by omega)
      rw [b_Li_visitingLine_2]
      unfold vff
      by_cases h1 : vbp P R l p = -1
      · rw [am_cif_f (show ¬ vvc P R p l from fun z => z.1 h1)]
        simp (disch := omega) only [b_Li_visitingLine_13, b_Li_visitingLine_24, b_Li_visitingLine_44, li0, li1, li2, li3, li4, li5, li6, li7, pl0, pl1, pl2, pl3, pl4, pl5, pl6, pl7, pl8, c2, e2, e0, ih1, am_ck_T, am_ck_t, am_cif_t, am_cif_f, am_cif_T, am_cif_F, am_then_s, am_push_s, am_push_n, true_and, and_true, true_or, or_true, Int.cast_ofNat_Int, am_02, am_22, not_true_eq_false, not_false_eq_true]
      · have e1 := k_mayGoOn hS hb hP hR cp cr l1 (show l < vnl P by omega) h3 h4 (show 0 ≤ vbp P R l p + 1 by omega) (show vbp P R l p + 1 < vsz P l by omega)
        by_cases h2 : vmg P R p l (vbp P R l p + 1)
        · rw [bo_t h2] at e1
          rw [am_cif_t (show vvc P R p l from ⟨h1, h2⟩)]
          simp (disch := omega) only [b_Li_visitingLine_13, b_Li_visitingLine_24, b_Li_visitingLine_30, b_Li_visitingLine_39, b_Li_visitingLine_42, li0, li1, li2, li3, li4, li5, li6, li7, pl0, pl1, pl2, pl3, pl4, pl5, pl6, pl7, pl8, c2, e2, e0, e1, am_ck_T, am_ck_t, am_cif_t, am_cif_f, am_cif_T, am_cif_F, am_then_s, am_push_s, am_push_n, true_and, and_true, true_or, or_true, Int.cast_ofNat_Int, am_02, am_22, not_true_eq_false, not_false_eq_true]
        · rw [bo_f h2] at e1
          rw [am_cif_f (show ¬ vvc P R p l from fun z => h2 z.2)]
          simp (disch := omega) only [b_Li_visitingLine_13, b_Li_visitingLine_24, b_Li_visitingLine_30, b_Li_visitingLine_39, b_Li_visitingLine_44, li0, li1, li2, li3, li4, li5, li6, li7, pl0, pl1, pl2, pl3, pl4, pl5, pl6, pl7, pl8, c2, e2, e0, e1, ih1, am_ck_T, am_ck_t, am_cif_t, am_cif_f, am_cif_T, am_cif_F, am_then_s, am_push_s, am_push_n, true_and, and_true, true_or, or_true, Int.cast_ofNat_Int, am_02, am_22, not_true_eq_false, not_false_eq_true]
  have l0 := loop (vnl P).toNat 0 none (by omega) (by omega)
  rw [c_Li_visitingLine, b_Li_visitingLine_0]
  exact l0
theorem k_goVisiting (hS : ly S) (hb : lf b) (hP : okP P) {K : vR} {dy : Int} : ∀ (n : Nat) (p : Int) (G : Int → Int) (rd B : Int) (M : am_M) (o2 : Option am_V), 0 ≤ p → p + n = vnp P → okR P B (vK K G rd dy) → cP P M → cR P (vK K G rd dy) b M → (∀ q, 0 ≤ q → q < vnp P → vlv K q → G q = if q < p then vvg P K q else q) → ∃ M1 G1 rd1, am_R 27 2 [some (am_r b), some (am_i p), o2] [] S M = some (none, S, M1) ∧ cR P (vK K G1 rd1 dy) b M1 ∧ okR P (B + n) (vK K G1 rd1 dy) ∧ (∀ q, 0 ≤ q → q < vnp P → vlv K q → G1 q = vvg P K q) ∧ fr b (b + 3) M M1 := by
  obtain ⟨li0, li1, li2, li3, li4, li5, li6, li7⟩ := hS.2.2.2.2.1 b hb
  obtain ⟨pl0, pl1, pl2, pl3, pl4, pl5, pl6, pl7, pl8⟩ := hS.2.1
  have hP1 := hP.1
  have hP2 := hP.2.1
  have hP3 := hP.2.2.1
  have hP4 := hP.2.2.2.1
  have hbb : 6 < b := by unfold lf at hb; omega
  intro n
  induction n with
  | zero =>
    intro p G rd B M o2 p1 p2 hR cp cr hG
    have c1 := cp.1
    refine ⟨M, G, rd, ?_, cr, okR_B hR (by omega), fun q q1 q2 q3 => ?_, fr_rf⟩
    · rw [b_Li_goVisiting_2]
      simp (disch := omega) only [b_Li_goVisiting_49, li0, li1, li2, li3, li4, li5, li6, li7, pl0, pl1, pl2, pl3, pl4, pl5, pl6, pl7, pl8, c1, am_ck_T, am_ck_t, am_cif_t, am_cif_f, am_cif_T, am_cif_F, am_then_s, am_push_s, am_push_n, true_and, and_true, true_or, or_true, Int.cast_ofNat_Int, am_02, am_22, not_true_eq_false, not_false_eq_true]
    · have := hG q q1 q2 q3
      rw [if_pos (by omega)] at this
      exact this
  | succ n ih =>
    intro p G rd B M o2 p1 p2 hR cp cr hG
    have c1 := cp.1
    have lv := k_lives hS hb cr p
    rw [show vlv (vK K G rd dy) p = vlv K p from rfl] at lv
    by_cases hl : vlv K p
    · rw [bo_t hl] at lv
      have hg : G p = p := by
        have := hG p p1 (by omega) hl
        rw [if_neg (by omega)] at this
        exact this
      have e1 := k_visitingLine hS hb hP hR cp cr p1 (show p < vnp P by omega) hg
      rw [show vvl P (vK K G rd dy) p = vvl P K p from rfl] at e1
      have rl := vvl_rng P K p
      by_cases hv : vvl P K p = -1
      · rw [hv] at e1
        obtain ⟨M1, G1, rd1, d1, d2, d3, d4, d5⟩ := ih (p + 1) G rd B M (some (am_i (-1))) (by omega) (by omega) hR cp cr (fun q q1 q2 q3 => by
          have := hG q q1 q2 q3
          by_cases e : q = p
          · rw [if_pos (by omega)]
            rw [if_neg (by omega)] at this
            unfold vvg
            rw [e, if_pos hv]
            exact hg
          · by_cases e2 : q < p
            · rw [if_pos e2] at this; rw [if_pos (by omega)]; exact this
            · rw [if_neg e2] at this; rw [if_neg (by omega)]; exact this)
        refine ⟨M1, G1, rd1, ?_, d2, okR_B d3 (by omega), d4, d5⟩
        rw [b_Li_goVisiting_2]
        simp (disch := omega) only [b_Li_goVisiting_13, b_Li_goVisiting_18, b_Li_goVisiting_21, b_Li_goVisiting_26, b_Li_goVisiting_30, b_Li_goVisiting_43, li0, li1, li2, li3, li4, li5, li6, li7, pl0, pl1, pl2, pl3, pl4, pl5, pl6, pl7, pl8, c1, lv, e1, d1, am_ck_T, am_ck_t, am_cif_t, am_cif_f, am_cif_T, am_cif_F, am_then_s, am_push_s, am_push_n, true_and, and_true, true_or, or_true, Int.cast_ofNat_Int, am_02, am_22, not_true_eq_false, not_false_eq_true]
      · have hc := vvl_c hv
        have hB : vbp P (vK K G rd dy) (vvl P K p) (vgt (vK K G rd dy) p) ≠ -1 := by
          show vbp P K (vvl P K p) (G p) ≠ -1
          rw [hg]; exact hc.1
        obtain ⟨M0, f1, f2, f3⟩ := k_carry hS hb hP hR cp cr (show 0 ≤ vvl P K p by omega) (show vvl P K p < vnl P by omega) p1 (show p < vnp P by omega) (show (1 : Int) ≤ 5 by omega) (show (5 : Int) ≤ 5 by omega) hB
        have ok1 := okR_ride (n := 5) hP hR (show 0 ≤ vvl P K p by omega) (show vvl P K p < vnl P by omega) hB
        have er : vride P (vK K G rd dy) p (vvl P K p) 5 = vK K (fun q => if q = p then vvg P K p else G q) (rd + 1) dy := by
          have e3 : vvg P K p = vsp P K (vvl P K p) (vfa P K p (vvl P K p) (min 5 (vsz P (vvl P K p) - 1 - vbp P K (vvl P K p) (G p))).toNat (vbp P K (vvl P K p) (G p))) := by
            rw [hg]
            unfold vvg
            rw [if_neg hv]
            rfl
          unfold vride
          rw [vfa_K, e3]
          rfl
        rw [er] at f2 ok1
        obtain ⟨M1, G1, rd1, d1, d2, d3, d4, d5⟩ := ih (p + 1) (fun q => if q = p then vvg P K p else G q) (rd + 1) (B + 1) M0 (some (am_i (vvl P K p))) (by omega) (by omega) ok1 (cP_fr f3 hbb cp) f2 (fun q q1 q2 q3 => by
          have := hG q q1 q2 q3
          show (if q = p then vvg P K p else G q) = if q < p + 1 then vvg P K q else q
          by_cases e : q = p
          · rw [if_pos e, if_pos (by omega), e]
          · rw [if_neg e, this]
            by_cases e2 : q < p
            · rw [if_pos e2, if_pos (by omega)]
            · rw [if_neg e2, if_neg (by omega)])
        refine ⟨M1, G1, rd1, ?_, d2, okR_B d3 (by omega), d4, fr_tr f3 d5⟩
        rw [b_Li_goVisiting_2]
        simp (disch := omega) only [b_Li_goVisiting_13, b_Li_goVisiting_18, b_Li_goVisiting_21, b_Li_goVisiting_26, b_Li_goVisiting_30, b_Li_goVisiting_36, b_Li_goVisiting_43, li0, li1, li2, li3, li4, li5, li6, li7, pl0, pl1, pl2, pl3, pl4, pl5, pl6, pl7, pl8, c1, lv, e1, f1, d1, am_ck_T, am_ck_t, am_cif_t, am_cif_f, am_cif_T, am_cif_F, am_then_s, am_push_s, am_push_n, true_and, and_true, true_or, or_true, Int.cast_ofNat_Int, am_02, am_22, not_true_eq_false, not_false_eq_true]
    · rw [bo_f hl] at lv
      obtain ⟨M1, G1, rd1, d1, d2, d3, d4, d5⟩ := ih (p + 1) G rd B M (some (am_i (-1))) (by omega) (by omega) hR cp cr (fun q q1 q2 q3 => by
        have := hG q q1 q2 q3
        by_cases e : q = p
        · rw [e] at q3; exact absurd q3 hl
        · by_cases e2 : q < p
          · rw [if_pos e2] at this; rw [if_pos (by omega)]; exact this
          · rw [if_neg e2] at this; rw [if_neg (by omega)]; exact this)
      refine ⟨M1, G1, rd1, ?_, d2, okR_B d3 (by omega), d4, d5⟩
      rw [b_Li_goVisiting_2]
      simp (disch := omega) only [b_Li_goVisiting_13, b_Li_goVisiting_18, b_Li_goVisiting_29, b_Li_goVisiting_30, b_Li_goVisiting_43, li0, li1, li2, li3, li4, li5, li6, li7, pl0, pl1, pl2, pl3, pl4, pl5, pl6, pl7, pl8, c1, lv, d1, am_ck_T, am_ck_t, am_cif_t, am_cif_f, am_cif_T, am_cif_F, am_then_s, am_push_s, am_push_n, true_and, and_true, true_or, or_true, Int.cast_ofNat_Int, am_02, am_22, not_true_eq_false, not_false_eq_true]
theorem m_rideOut (hS : ly S) (hP : okP P) (hR : okR P B R) (mp : mP P M) (mr : mR P R 82 M) {p : Int} (h3 : 0 ≤ p) (h4 : p < vnp P) (hg : vgt R p = p) : ∃ M1, am_call 164 [am_r 164, am_i p] S M = some (none, S, M1) ∧ mR P (vSg R p (vvg P R p)) 82 M1 ∧ fx 82 M M1 := by
  obtain ⟨mo0, ⟨mr0, mr1, mr2, mr3, mr4, mr5, mr6, mr7, mr8, mr9, mr10, mr11⟩, mk0, mk1, mk2, mk3, mk4, mk5, mk6, mk7, mk8, mk9, mk10, mk11⟩ := hS.2.2.2.2.2.2.2.2.2.2
  have hP1 := hP.1
  have hP2 := hP.2.1
  have hP3 := hP.2.2.1
  have hP4 := hP.2.2.2.1
  have c2 := mp.2.1
  have loop : ∀ (n : Nat) (l : Int) (o3 o4 : Option am_V), 0 ≤ l → l + n = vnl P → am_R 164 2 [some (am_r 164), some (am_i p), some (am_i l), o3, o4] [] S M = some (none, S, if vff (vvc P R p) n l = -1 then M else am_wr M 165 (146 + p) (vvt P R p (vff (vvc P R p) n l))) := by
    intro n
    induction n with
    | zero =>
      intro l o3 o4 l1 l2
      rw [b_Mo_rideOut_2, if_pos (show vff (vvc P R p) 0 l = -1 from rfl)]
      simp (disch := omega) only [b_Mo_rideOut_74, mo0, mr0, mr1, mr2, mr3, mr4, mr5, mr6, mr7, mr8, mr9, mr10, mr11, mk0, mk1, mk2, mk3, mk4, mk5, mk6, mk7, mk8, mk9, mk10, mk11, c2, am_ck_T, am_ck_t, am_cif_t, am_cif_f, am_cif_T, am_cif_F, am_then_s, am_push_s, am_push_n, true_and, and_true, true_or, or_true, Int.cast_ofNat_Int, am_02, am_22, not_true_eq_false, not_false_eq_true]
    | succ n ih =>
      intro l o3 o4 l1 l2
      have s1 := hP.2.2.2.2.1 l l1 (show l < vnl P by omega)
      have e0 := m_canBoard hS hP hR mp mr (by omega) l1 (show l < vnl P by omega) h3 h4
      have ew := m_where hS hP hR mp mr (by omega) l1 (show l < vnl P by omega) h3 h4
      have rb := vbp_rng R (P := P) (l := l) p (by omega)
      rw [b_Mo_rideOut_2]
      unfold vff
      by_cases h1 : vbp P R l p = -1
      · have ih1 := ih (l + 1) o3 o4 (by omega) (by omega)
        rw [bo_f (fun z => z h1)] at e0
        rw [am_cif_f (show ¬ vvc P R p l from fun z => z.1 h1)]
        simp (disch := omega) only [b_Mo_rideOut_10, b_Mo_rideOut_18, b_Mo_rideOut_68, mo0, mr0, mr1, mr2, mr3, mr4, mr5, mr6, mr7, mr8, mr9, mr10, mr11, mk0, mk1, mk2, mk3, mk4, mk5, mk6, mk7, mk8, mk9, mk10, mk11, c2, e0, ih1, am_ck_T, am_ck_t, am_cif_t, am_cif_f, am_cif_T, am_cif_F, am_then_s, am_push_s, am_push_n, true_and, and_true, true_or, or_true, Int.cast_ofNat_Int, am_02, am_22, not_true_eq_false, not_false_eq_true]
      · have bp : vpl P R l p = vbp P R l p := by
          unfold vbp at h1 ⊢
          by_cases hk : vpl P R l p = vsz P l - 1
          · rw [if_pos hk] at h1; exact absurd rfl h1
          · rw [if_neg hk]
        rw [bp] at ew
        rw [bo_t h1] at e0
        have ef := m_far hS hP hR mp mr (by omega) l1 (show l < vnl P by omega) h3 h4 (show 0 ≤ vbp P R l p by omega) (show vbp P R l p < vsz P l by omega) (show (0 : Int) ≤ 5 by omega) (show (5 : Int) ≤ 5 by omega)
        have rf := vfa_rng P R p l (min 5 (vsz P l - 1 - vbp P R l p)).toNat (vbp P R l p)
        by_cases h2 : vmg P R p l (vbp P R l p + 1)
        · have g1 := vfa_far p l (min 5 (vsz P l - 1 - vbp P R l p)).toNat (vbp P R l p) (vbp P R l p + 1) (by omega) (by omega) (fun m m1 m2 => by
            obtain rfl : m = vbp P R l p + 1 := by omega
            exact h2)
          have st := m_stop hS hP mp mr (by omega) l1 (show l < vnl P by omega) (show 0 ≤ vfa P R p l (min 5 (vsz P l - 1 - vbp P R l p)).toNat (vbp P R l p) by omega) (show vfa P R p l (min 5 (vsz P l - 1 - vbp P R l p)).toNat (vbp P R l p) < vsz P l by omega)
          rw [am_cif_t (show vvc P R p l from ⟨h1, h2⟩), if_neg (by omega)]
          unfold vvt
          simp (disch := omega) only [b_Mo_rideOut_10, b_Mo_rideOut_18, b_Mo_rideOut_21, b_Mo_rideOut_29, b_Mo_rideOut_40, b_Mo_rideOut_48, b_Mo_rideOut_66, mo0, mr0, mr1, mr2, mr3, mr4, mr5, mr6, mr7, mr8, mr9, mr10, mr11, mk0, mk1, mk2, mk3, mk4, mk5, mk6, mk7, mk8, mk9, mk10, mk11, c2, e0, ew, ef, st, am_ck_T, am_ck_t, am_cif_t, am_cif_f, am_cif_T, am_cif_F, am_then_s, am_push_s, am_push_n, true_and, and_true, true_or, or_true, Int.cast_ofNat_Int, am_02, am_22, not_true_eq_false, not_false_eq_true]
        · have g1 : ¬ vbp P R l p < vfa P R p l (min 5 (vsz P l - 1 - vbp P R l p)).toNat (vbp P R l p) := fun z => h2 (vfa_all p l _ _ _ (by omega) z)
          have ih1 := ih (l + 1) (some (am_i (vbp P R l p))) (some (am_i (vfa P R p l (min 5 (vsz P l - 1 - vbp P R l p)).toNat (vbp P R l p)))) (by omega) (by omega)
          rw [am_cif_f (show ¬ vvc P R p l from fun z => h2 z.2)]
          simp (disch := omega) only [b_Mo_rideOut_10, b_Mo_rideOut_18, b_Mo_rideOut_21, b_Mo_rideOut_29, b_Mo_rideOut_40, b_Mo_rideOut_68, mo0, mr0, mr1, mr2, mr3, mr4, mr5, mr6, mr7, mr8, mr9, mr10, mr11, mk0, mk1, mk2, mk3, mk4, mk5, mk6, mk7, mk8, mk9, mk10, mk11, c2, e0, ew, ef, ih1, am_ck_T, am_ck_t, am_cif_t, am_cif_f, am_cif_T, am_cif_F, am_then_s, am_push_s, am_push_n, true_and, and_true, true_or, or_true, Int.cast_ofNat_Int, am_02, am_22, not_true_eq_false, not_false_eq_true]
  have l0 := loop (vnl P).toNat 0 none none (by omega) (by omega)
  rw [show vff (vvc P R p) (vnl P).toNat 0 = vvl P R p from rfl] at l0
  by_cases hv : vvl P R p = -1
  · rw [if_pos hv] at l0
    refine ⟨M, ?_, ?_, fx_rf⟩
    · rw [c_Mo_rideOut, b_Mo_rideOut_0]; exact l0
    · refine mR_to mr ⟨fun _ _ _ _ _ _ => rfl, fun q _ _ => ?_, fun _ _ _ => rfl, rfl⟩
      show vgt R q = if q = p then vvg P R p else vgt R q
      by_cases e : q = p
      · rw [if_pos e, e, hg]
        unfold vvg
        rw [if_pos hv]
      · rw [if_neg e]
  · rw [if_neg hv] at l0
    have mr1 := mR_Sg hP mr (vvt P R p (vvl P R p)) (show 0 ≤ p ∧ p < 8 by omega)
    rw [show (82 : Int) + 64 + p = 146 + p by omega] at mr1
    refine ⟨am_wr M 165 (146 + p) (vvt P R p (vvl P R p)), ?_, ?_, fx_wr (by omega)⟩
    · rw [c_Mo_rideOut, b_Mo_rideOut_0]; exact l0
    · have : vvg P R p = vvt P R p (vvl P R p) := by unfold vvg; rw [if_neg hv]
      rw [this]; exact mr1
end WARM
