/-! the class's walks -/
/-- what is laid: one ride from each gate -/
def cW (E : Int → Int → Prop) (M : am_M) : Prop := ∀ g, 0 ≤ g → g < 8 → bs (M 145 g) (E g)
theorem cW_c {E E' : Int → Int → Prop} {M : am_M} (h : cW E M) (e : ∀ g k, 0 ≤ g → g < 8 → 0 ≤ k → k < 8 → (E g k ↔ E' g k)) : cW E' M := fun g g1 g2 => bs_c (h g g1 g2) (fun k k1 k2 => e g k g1 g2 k1 k2)
section WALK
variable {S : am_S} {M : am_M} {P : vP} {R : vR} {B : Int} {b : Nat} {E : Int → Int → Prop} {Q : Int → Prop}
theorem k_layLine (hS : ly S) (hb : lf b) (hb2 : b + 3 < 145 ∨ 145 < b) (hP : okP P) (hR : okR P B R) (cp : cP P M) (cr : cR P R b M) (cw : cW E M) {p l : Int} (h1 : 0 ≤ l) (h2 : l < vnl P) (h3 : 0 ≤ p) (h4 : p < vnp P) : ∃ M1, am_call 56 [am_r 144, am_r b, am_i p, am_i l] S M = some (none, S, M1) ∧ cW (fun g h => E g h ∨ ve P R p l g h) M1 ∧ fr 145 145 M M1 := by
  obtain ⟨wa0, wa1, wa2⟩ := hS.2.2.2.2.2.2.1
  obtain ⟨li0, li1, li2, li3, li4, li5, li6, li7⟩ := hS.2.2.2.2.1 b hb
  obtain ⟨pl0, pl1, pl2, pl3, pl4, pl5, pl6, pl7, pl8⟩ := hS.2.1
  have hP1 := hP.1
  have hP2 := hP.2.1
  have hP3 := hP.2.2.1
  have hP4 := hP.2.2.2.1
  have s1 := hP.2.2.2.2.1 l h1 h2
  have loop : ∀ (n : Nat) (k a : Int) (M : am_M), k = (n : Int) → k < vsz P l → cP P M → cR P R b M → bs a (fun h => ∃ m, k < m ∧ m < vsz P l ∧ vsp P R l m = h ∧ ∀ i, k < i → i ≤ m → vmg P R p l i) → cW (fun g h => E g h ∨ ∃ j m, k ≤ j ∧ j < m ∧ m < vsz P l ∧ vsp P R l j = g ∧ vsp P R l m = h ∧ ∀ i, j < i → i ≤ m → vmg P R p l i) M → ∃ M1, am_R 56 16 [some (am_r 144), some (am_r b), some (am_i p), some (am_i l), some (am_i a), some (am_i k)] [] S M = some (none, S, M1) ∧ cW (fun g h => E g h ∨ ve P R p l g h) M1 ∧ fr 145 145 M M1 := by
    intro n
    induction n with
    | zero =>
      intro k a M hk k2 cp cr ha cw
      obtain rfl : k = 0 := by omega
      refine ⟨M, ?_, cw, fr_rf⟩
      rw [b_Wa_layLine_16]
      simp (disch := omega) only [b_Wa_layLine_75, am_ck_T, am_ck_t, am_cif_t, am_cif_f, am_cif_T, am_cif_F, am_then_s, am_push_s, am_push_n, true_and, and_true, true_or, or_true, Int.cast_ofNat_Int, am_02, am_22, not_true_eq_false, not_false_eq_true]
    | succ n ih =>
      intro k a M hk k2 cp cr ha cw
      have e1 := k_mayGoOn hS hb hP hR cp cr h1 h2 h3 h4 (show 0 ≤ k by omega) k2
      have e2 := k_stop hS hb hP cp cr h1 h2 (show 0 ≤ k by omega) k2
      have e3 := k_stop hS hb hP cp cr h1 h2 (show 0 ≤ k - 1 by omega) (show k - 1 < vsz P l by omega)
      have r2 := vsp_rng hP hR h1 h2 (show 0 ≤ k by omega) k2
      have r3 := vsp_rng hP hR h1 h2 (show 0 ≤ k - 1 by omega) (show k - 1 < vsz P l by omega)
      have ra := bs_rng ha
      have step : ∀ a', bs a' (fun h => ∃ m, k - 1 < m ∧ m < vsz P l ∧ vsp P R l m = h ∧ ∀ i, k - 1 < i → i ≤ m → vmg P R p l i) → ∃ M1, am_R 56 16 [some (am_r 144), some (am_r b), some (am_i p), some (am_i l), some (am_i a'), some (am_i (k + -1))] [] S (am_wr M 145 (vsp P R l (k - 1)) (am_or (M 145 (vsp P R l (k - 1))) a')) = some (none, S, M1) ∧ cW (fun g h => E g h ∨ ve P R p l g h) M1 ∧ fr 145 145 M M1 := by
        intro a' ha'
        have f0 : fr 145 145 M (am_wr M 145 (vsp P R l (k - 1)) (am_or (M 145 (vsp P R l (k - 1))) a')) := fr_wr (by omega)
        obtain ⟨M1, d1, d2, d3⟩ := ih (k + -1) a' (am_wr M 145 (vsp P R l (k - 1)) (am_or (M 145 (vsp P R l (k - 1))) a')) (by omega) (by omega) (cP_fr f0 (by omega) cp) (cR_fr (fun c c1 c2 => f0 c (by omega)) cr) ha' (by
          intro g g1 g2
          by_cases hg : g = vsp P R l (k - 1)
          · rw [hg, am_wr_s]
            refine bs_c (bs_or (cw _ r3.1 (by omega)) ha') (fun h _ _ => ?_)
            constructor
            · rintro ((z | ⟨j, m, z1, z2⟩) | ⟨m, z1, z2, z3, z4⟩)
              · exact Or.inl z
              · exact Or.inr ⟨j, m, by omega, z2⟩
              · exact Or.inr ⟨k - 1, m, by omega, by omega, z2, rfl, z3, fun i i1 i2 => z4 i (by omega) i2⟩
            · rintro (z | ⟨j, m, z1, z2, z3, z4, z5, z6⟩)
              · exact Or.inl (Or.inl z)
              · by_cases hj : k ≤ j
                · exact Or.inl (Or.inr ⟨j, m, hj, z2, z3, z4, z5, z6⟩)
                · exact Or.inr ⟨m, by omega, z3, z5, fun i i1 i2 => z6 i (by omega) i2⟩
          · rw [am_wr_i hg]
            refine bs_c (cw g g1 g2) (fun h _ _ => ?_)
            constructor
            · rintro (z | ⟨j, m, z1, z2⟩)
              · exact Or.inl z
              · exact Or.inr ⟨j, m, by omega, z2⟩
            · rintro (z | ⟨j, m, z1, z2, z3, z4, z5, z6⟩)
              · exact Or.inl z
              · by_cases hj : k ≤ j
                · exact Or.inr ⟨j, m, hj, z2, z3, z4, z5, z6⟩
                · exfalso
                  obtain rfl : j = k - 1 := by omega
                  exact hg z4.symm)
        exact ⟨M1, d1, d2, fr_tr f0 d3⟩
      by_cases hm : vmg P R p l k
      · rw [bo_t hm] at e1
        obtain ⟨M1, d1, d2, d3⟩ := step (am_or a (am_shl 1 (vsp P R l k))) (by
          refine bs_c (bs_or ha (bs_one r2.1 (by omega))) (fun h _ _ => ?_)
          constructor
          · rintro (⟨m, z1, z2, z3, z4⟩ | z)
            · refine ⟨m, by omega, z2, z3, fun i i1 i2 => ?_⟩
              by_cases hi : i = k
              · rw [hi]; exact hm
              · exact z4 i (by omega) i2
            · refine ⟨k, by omega, k2, z.symm, fun i i1 i2 => ?_⟩
              obtain rfl : i = k := by omega
              exact hm
          · rintro ⟨m, z1, z2, z3, z4⟩
            by_cases hi : m = k
            · rw [hi] at z3; exact Or.inr z3.symm
            · exact Or.inl ⟨m, by omega, z2, z3, fun i i1 i2 => z4 i (by omega) i2⟩)
        refine ⟨M1, ?_, d2, d3⟩
        rw [b_Wa_layLine_16]
        simp (disch := omega) only [b_Wa_layLine_21, b_Wa_layLine_29, b_Wa_layLine_32, b_Wa_layLine_42, b_Wa_layLine_48, b_Wa_layLine_63, wa0, wa1, wa2, li0, li1, li2, li3, li4, li5, li6, li7, pl0, pl1, pl2, pl3, pl4, pl5, pl6, pl7, pl8, e1, e2, e3, d1, am_ck_T, am_ck_t, am_cif_t, am_cif_f, am_cif_T, am_cif_F, am_then_s, am_push_s, am_push_n, true_and, and_true, true_or, or_true, Int.cast_ofNat_Int, am_02, am_22, not_true_eq_false, not_false_eq_true]
      · rw [bo_f hm] at e1
        obtain ⟨M1, d1, d2, d3⟩ := step 0 (by
          refine bs_c bs_0 (fun h _ _ => ⟨fun z => z.elim, ?_⟩)
          rintro ⟨m, z1, z2, z3, z4⟩
          exact hm (z4 k (by omega) (by omega)))
        refine ⟨M1, ?_, d2, d3⟩
        rw [b_Wa_layLine_16]
        simp (disch := omega) only [b_Wa_layLine_21, b_Wa_layLine_29, b_Wa_layLine_47, b_Wa_layLine_48, b_Wa_layLine_63, wa0, wa1, wa2, li0, li1, li2, li3, li4, li5, li6, li7, pl0, pl1, pl2, pl3, pl4, pl5, pl6, pl7, pl8, e1, e2, e3, d1, am_ck_T, am_ck_t, am_cif_t, am_cif_f, am_cif_T, am_cif_F, am_then_s, am_push_s, am_push_n, true_and, and_true, true_or, or_true, Int.cast_ofNat_Int, am_02, am_22, not_true_eq_false, not_false_eq_true]
  have e0 := (cp.2.2.1 l h1 h2).1
  obtain ⟨M1, d1, d2, d3⟩ := loop (vsz P l - 1).toNat (vsz P l - 1) 0 M (by omega) (by omega) cp cr (bs_c bs_0 (fun h _ _ => ⟨fun z => z.elim, fun ⟨m, z1, z2, _⟩ => by omega⟩)) (cW_c cw (fun g h _ _ _ _ => ⟨Or.inl, fun z => z.elim id (fun ⟨j, m, z1, z2, z3, _⟩ => by omega)⟩))
  refine ⟨M1, ?_, d2, d3⟩
  simp (disch := omega) only [c_Wa_layLine, b_Wa_layLine_0, wa0, wa1, wa2, li0, li1, li2, li3, li4, li5, li6, li7, pl0, pl1, pl2, pl3, pl4, pl5, pl6, pl7, pl8, e0, d1, am_ck_T, am_ck_t, am_cif_t, am_cif_f, am_cif_T, am_cif_F, am_then_s, am_push_s, am_push_n, true_and, and_true, true_or, or_true, Int.cast_ofNat_Int, am_02, am_22, not_true_eq_false, not_false_eq_true]
theorem k_lay (hS : ly S) (hb : lf b) (hb2 : b + 3 < 145 ∨ 145 < b) (hP : okP P) (hR : okR P B R) (cp : cP P M) (cr : cR P R b M) {p w : Int} (h3 : 0 ≤ p) (h4 : p < vnp P) (hw : am_Ri w) : ∃ M1, am_call 55 [am_r 144, am_r b, am_i p, am_i w] S M = some (none, S, M1) ∧ cW (vE P R p w) M1 ∧ fr 145 145 M M1 := by
  obtain ⟨wa0, wa1, wa2⟩ := hS.2.2.2.2.2.2.1
  obtain ⟨li0, li1, li2, li3, li4, li5, li6, li7⟩ := hS.2.2.2.2.1 b hb
  obtain ⟨pl0, pl1, pl2, pl3, pl4, pl5, pl6, pl7, pl8⟩ := hS.2.1
  have hP1 := hP.1
  have hP2 := hP.2.1
  have hP3 := hP.2.2.1
  have hP4 := hP.2.2.2.1
  have z : ∀ (n : Nat) (i : Int) (M : am_M), 0 ≤ i → i + n = 8 → (∀ j, 0 ≤ j → j < i → M 145 j = 0) → ∃ M1, am_R 55 3 [some (am_r 144), some (am_r b), some (am_i p), some (am_i w), some (am_i i)] [] S M = am_R 55 24 [some (am_r 144), some (am_r b), some (am_i p), some (am_i w), some (am_i 8)] [] S M1 ∧ (∀ j, 0 ≤ j → j < 8 → M1 145 j = 0) ∧ fr 145 145 M M1 := by
    intro n
    induction n with
    | zero =>
      intro i M i1 i2 h
      obtain rfl : i = 8 := by omega
      refine ⟨M, ?_, h, fr_rf⟩
      rw [b_Wa_lay_3]
      simp (disch := omega) only [am_ck_T, am_ck_t, am_cif_t, am_cif_f, am_cif_T, am_cif_F, am_then_s, am_push_s, am_push_n, true_and, and_true, true_or, or_true, Int.cast_ofNat_Int, am_02, am_22, not_true_eq_false, not_false_eq_true]
    | succ n ih =>
      intro i M i1 i2 h
      obtain ⟨M1, d1, d2, d3⟩ := ih (i + 1) (am_wr M 145 i 0) (by omega) (by omega) (fun j j1 j2 => by
        by_cases hj : j = i
        · rw [hj, am_wr_s]
        · rw [am_wr_i hj]; exact h j j1 (by omega))
      refine ⟨M1, ?_, d2, fr_tr (fr_wr (by omega)) d3⟩
      rw [b_Wa_lay_3]
      simp (disch := omega) only [b_Wa_lay_10, wa0, wa1, wa2, d1, am_ck_T, am_ck_t, am_cif_t, am_cif_f, am_cif_T, am_cif_F, am_then_s, am_push_s, am_push_n, true_and, and_true, true_or, or_true, Int.cast_ofNat_Int, am_02, am_22, not_true_eq_false, not_false_eq_true]
  have loop : ∀ (n : Nat) (l : Int) (M : am_M), 0 ≤ l → l + n = vnl P → cP P M → cR P R b M → cW (fun g h => ∃ i, 0 ≤ i ∧ i < l ∧ i ≠ w ∧ ve P R p i g h) M → ∃ M1, am_R 55 27 [some (am_r 144), some (am_r b), some (am_i p), some (am_i w), some (am_i l)] [] S M = some (none, S, M1) ∧ cW (vE P R p w) M1 ∧ fr 145 145 M M1 := by
    intro n
    induction n with
    | zero =>
      intro l M l1 l2 cp cr cw
      obtain rfl : l = vnl P := by omega
      have c2 := cp.2.1
      refine ⟨M, ?_, cw, fr_rf⟩
      rw [b_Wa_lay_27]
      simp (disch := omega) only [b_Wa_lay_59, wa0, wa1, wa2, li0, li1, li2, li3, li4, li5, li6, li7, pl0, pl1, pl2, pl3, pl4, pl5, pl6, pl7, pl8, c2, am_ck_T, am_ck_t, am_cif_t, am_cif_f, am_cif_T, am_cif_F, am_then_s, am_push_s, am_push_n, true_and, and_true, true_or, or_true, Int.cast_ofNat_Int, am_02, am_22, not_true_eq_false, not_false_eq_true]
    | succ n ih =>
      intro l M l1 l2 cp cr cw
      have c2 := cp.2.1
      by_cases hl : l = w
      · obtain ⟨M1, d1, d2, d3⟩ := ih (l + 1) M (by omega) (by omega) cp cr (cW_c cw (fun g h _ _ _ _ => ⟨fun ⟨i, z1, z2, z3⟩ => ⟨i, z1, by omega, z3⟩, fun ⟨i, z1, z2, z3⟩ => ⟨i, z1, by have := z3.1; omega, z3⟩⟩))
        refine ⟨M1, ?_, d2, d3⟩
        rw [b_Wa_lay_27]
        simp (disch := omega) only [b_Wa_lay_39, b_Wa_lay_53, wa0, wa1, wa2, li0, li1, li2, li3, li4, li5, li6, li7, pl0, pl1, pl2, pl3, pl4, pl5, pl6, pl7, pl8, c2, d1, am_ck_T, am_ck_t, am_cif_t, am_cif_f, am_cif_T, am_cif_F, am_then_s, am_push_s, am_push_n, true_and, and_true, true_or, or_true, Int.cast_ofNat_Int, am_02, am_22, not_true_eq_false, not_false_eq_true]
      · obtain ⟨M0, f1, f2, f3⟩ := k_layLine hS hb hb2 hP hR cp cr cw l1 (show l < vnl P by omega) h3 h4
        obtain ⟨M1, d1, d2, d3⟩ := ih (l + 1) M0 (by omega) (by omega) (cP_fr f3 (by omega) cp) (cR_fr (fun c c1 c2 => f3 c (by omega)) cr) (cW_c f2 (fun g h _ _ _ _ => by
          constructor
          · rintro (⟨i, z1, z2, z3⟩ | z)
            · exact ⟨i, z1, by omega, z3⟩
            · exact ⟨l, l1, by omega, hl, z⟩
          · rintro ⟨i, z1, z2, z3, z4⟩
            by_cases hi : i = l
            · rw [hi] at z4; exact Or.inr z4
            · exact Or.inl ⟨i, z1, by omega, z3, z4⟩))
        refine ⟨M1, ?_, d2, fr_tr f3 d3⟩
        rw [b_Wa_lay_27]
        simp (disch := omega) only [b_Wa_lay_39, b_Wa_lay_45, b_Wa_lay_53, wa0, wa1, wa2, li0, li1, li2, li3, li4, li5, li6, li7, pl0, pl1, pl2, pl3, pl4, pl5, pl6, pl7, pl8, c2, f1, d1, am_ck_T, am_ck_t, am_cif_t, am_cif_f, am_cif_T, am_cif_F, am_then_s, am_push_s, am_push_n, true_and, and_true, true_or, or_true, Int.cast_ofNat_Int, am_02, am_22, not_true_eq_false, not_false_eq_true]
  obtain ⟨M0, f1, f2, f3⟩ := z 8 0 M (by omega) (by omega) (fun j j1 j2 => absurd j2 (by omega))
  obtain ⟨M1, d1, d2, d3⟩ := loop (vnl P).toNat 0 M0 (by omega) (by omega) (cP_fr f3 (by omega) cp) (cR_fr (fun c c1 c2 => f3 c (by omega)) cr) (fun g g1 g2 => by rw [f2 g g1 g2]; exact bs_c bs_0 (fun h _ _ => ⟨fun z => z.elim, fun ⟨i, z1, z2, _⟩ => by omega⟩))
  refine ⟨M1, ?_, d2, fr_tr f3 d3⟩
  simp (disch := omega) only [c_Wa_lay, b_Wa_lay_0, f1, b_Wa_lay_24, d1, am_ck_T, am_ck_t, am_cif_t, am_cif_f, am_cif_T, am_cif_F, am_then_s, am_push_s, am_push_n, true_and, and_true, true_or, or_true, Int.cast_ofNat_Int, am_02, am_22, not_true_eq_false, not_false_eq_true]
theorem k_widened (hS : ly S) (cw : cW E M) (hE : ∀ g h, E g h → 0 ≤ g ∧ g < 8) {a : Int} (ha : bs a Q) : ∃ a', am_call 57 [am_r 144, am_i a] S M = some (some (am_i a'), S, M) ∧ bs a' (fun h => Q h ∨ ∃ g, Q g ∧ E g h) := by
  obtain ⟨wa0, wa1, wa2⟩ := hS.2.2.2.2.2.2.1
  have loop : ∀ (n : Nat) (g a' : Int), 0 ≤ g → g + n = 8 → bs a' (fun h => Q h ∨ ∃ x, x < g ∧ Q x ∧ E x h) → ∃ a'', am_R 57 4 [some (am_r 144), some (am_i a), some (am_i a'), some (am_i g)] [] S M = some (some (am_i a''), S, M) ∧ bs a'' (fun h => Q h ∨ ∃ g, Q g ∧ E g h) := by
    intro n
    induction n with
    | zero =>
      intro g a' g1 g2 h
      obtain rfl : g = 8 := by omega
      refine ⟨a', ?_, bs_c h (fun k _ _ => ⟨fun z => z.elim Or.inl (fun ⟨x, _, x2⟩ => Or.inr ⟨x, x2⟩), fun z => z.elim Or.inl (fun ⟨x, x2⟩ => Or.inr ⟨x, (hE x k x2.2).2, x2⟩)⟩)⟩
      rw [b_Wa_widened_4]
      simp (disch := omega) only [b_Wa_widened_33, am_ck_T, am_ck_t, am_cif_t, am_cif_f, am_cif_T, am_cif_F, am_then_s, am_push_s, am_push_n, true_and, and_true, true_or, or_true, Int.cast_ofNat_Int, am_02, am_22, not_true_eq_false, not_false_eq_true]
    | succ n ih =>
      intro g a' g1 g2 h
      have e1 := bs_1 ha g1 (show g < 8 by omega)
      by_cases hq : Q g
      · rw [bo_t hq] at e1
        obtain ⟨a'', d1, d2⟩ := ih (g + 1) (am_or a' (M 145 g)) (by omega) (by omega) (bs_c (bs_or h (cw g g1 (by omega))) (fun k _ _ => by
          constructor
          · rintro ((z | ⟨x, x1, x2⟩) | z)
            · exact Or.inl z
            · exact Or.inr ⟨x, by omega, x2⟩
            · exact Or.inr ⟨g, by omega, hq, z⟩
          · rintro (z | ⟨x, x1, x2, x3⟩)
            · exact Or.inl (Or.inl z)
            · by_cases hx : x = g
              · rw [hx] at x3; exact Or.inr x3
              · exact Or.inl (Or.inr ⟨x, by omega, x2, x3⟩)))
        refine ⟨a'', ?_, d2⟩
        rw [b_Wa_widened_4]
        simp (disch := omega) only [b_Wa_widened_10, b_Wa_widened_18, b_Wa_widened_27, wa0, wa1, wa2, e1, d1, am_ck_T, am_ck_t, am_cif_t, am_cif_f, am_cif_T, am_cif_F, am_then_s, am_push_s, am_push_n, true_and, and_true, true_or, or_true, Int.cast_ofNat_Int, am_02, am_22, not_true_eq_false, not_false_eq_true]
      · rw [bo_f hq] at e1
        obtain ⟨a'', d1, d2⟩ := ih (g + 1) a' (by omega) (by omega) (bs_c h (fun k _ _ => by
          constructor
          · rintro (z | ⟨x, x1, x2⟩)
            · exact Or.inl z
            · exact Or.inr ⟨x, by omega, x2⟩
          · rintro (z | ⟨x, x1, x2, x3⟩)
            · exact Or.inl z
            · by_cases hx : x = g
              · rw [hx] at x2; exact absurd x2 hq
              · exact Or.inr ⟨x, by omega, x2, x3⟩))
        refine ⟨a'', ?_, d2⟩
        rw [b_Wa_widened_4]
        simp (disch := omega) only [b_Wa_widened_10, b_Wa_widened_27, wa0, wa1, wa2, e1, d1, am_ck_T, am_ck_t, am_cif_t, am_cif_f, am_cif_T, am_cif_F, am_then_s, am_push_s, am_push_n, true_and, and_true, true_or, or_true, Int.cast_ofNat_Int, am_02, am_22, not_true_eq_false, not_false_eq_true]
  obtain ⟨a', d1, d2⟩ := loop 8 0 a (by omega) (by omega) (bs_c ha (fun k k1 _ => ⟨Or.inl, fun z => z.elim id (fun ⟨x, x1, x2, x3⟩ => by have := (hE x k x3).1; omega)⟩))
  refine ⟨a', ?_, d2⟩
  simp (disch := omega) only [c_Wa_widened, b_Wa_widened_0, d1, am_ck_T, am_ck_t, am_cif_t, am_cif_f, am_cif_T, am_cif_F, am_then_s, am_push_s, am_push_n, true_and, and_true, true_or, or_true, Int.cast_ofNat_Int, am_02, am_22, not_true_eq_false, not_false_eq_true]
theorem k_closure (hS : ly S) (cw : cW E M) (hE : ∀ g h, E g h → 0 ≤ g ∧ g < 8) {a : Int} (ha : bs a Q) : ∃ a', am_call 58 [am_r 144, am_i a] S M = some (some (am_i a'), S, M) ∧ bs a' (vN E Q 7) := by
  obtain ⟨wa0, wa1, wa2⟩ := hS.2.2.2.2.2.2.1
  have loop : ∀ (n : Nat) (i : Nat) (a' : Int), i + n = 7 → bs a' (vN E Q i) → ∃ a'', am_R 58 4 [some (am_r 144), some (am_i a), some (am_i a'), some (am_i ((i : Int) + 1))] [] S M = some (some (am_i a''), S, M) ∧ bs a'' (vN E Q 7) := by
    intro n
    induction n with
    | zero =>
      intro i a' hi h
      obtain rfl : i = 7 := by omega
      refine ⟨a', ?_, h⟩
      rw [b_Wa_closure_4]
      simp (disch := omega) only [b_Wa_closure_22, am_ck_T, am_ck_t, am_cif_t, am_cif_f, am_cif_T, am_cif_F, am_then_s, am_push_s, am_push_n, true_and, and_true, true_or, or_true, Int.cast_ofNat_Int, am_02, am_22, not_true_eq_false, not_false_eq_true]
    | succ n ih =>
      intro i a' hi h
      obtain ⟨a1, f1, f2⟩ := k_widened hS cw hE h
      obtain ⟨a2, d1, d2⟩ := ih (i + 1) a1 (by omega) f2
      rw [Int.natCast_add, Int.natCast_one] at d1
      refine ⟨a2, ?_, d2⟩
      rw [b_Wa_closure_4]
      simp (disch := omega) only [b_Wa_closure_10, b_Wa_closure_15, wa0, wa1, wa2, f1, d1, am_ck_T, am_ck_t, am_cif_t, am_cif_f, am_cif_T, am_cif_F, am_then_s, am_push_s, am_push_n, true_and, and_true, true_or, or_true, Int.cast_ofNat_Int, am_02, am_22, not_true_eq_false, not_false_eq_true]
  obtain ⟨a', d1, d2⟩ := loop 7 0 a (by omega) ha
  have d1' : am_R 58 4 [some (am_r 144), some (am_i a), some (am_i a), some (am_i 1)] [] S M = _ := d1
  refine ⟨a', ?_, d2⟩
  simp (disch := omega) only [c_Wa_closure, b_Wa_closure_0, d1', am_ck_T, am_ck_t, am_cif_t, am_cif_f, am_cif_T, am_cif_F, am_then_s, am_push_s, am_push_n, true_and, and_true, true_or, or_true, Int.cast_ofNat_Int, am_02, am_22, not_true_eq_false, not_false_eq_true]
theorem k_fewest (hS : ly S) (cw : cW E M) (hE : ∀ g h, E g h → 0 ≤ g ∧ g < 8) (hst : ∀ n h, vN E Q n h → vN E Q 7 h) {a q r : Int} (ha : bs a Q) (hr : vdi E Q q r) (q1 : 0 ≤ q) (q2 : q < 8) : am_call 59 [am_r 144, am_i a, am_i q] S M = some (some (am_i r), S, M) := by
  obtain ⟨wa0, wa1, wa2⟩ := hS.2.2.2.2.2.2.1
  have loop : ∀ (n : Nat) (i : Nat) (a' : Int), i + n = 8 → bs a' (vN E Q i) → (∀ m, m < i → ¬ vN E Q m q) → am_R 59 5 [some (am_r 144), some (am_i a), some (am_i q), some (am_i a'), some (am_i (i : Int))] [] S M = some (some (am_i r), S, M) := by
    intro n
    induction n with
    | zero =>
      intro i a' hi h hm
      obtain rfl : i = 8 := by omega
      have : r = -1 := by
        rcases hr with ⟨n, n1, n2, n3⟩ | ⟨n1, n2⟩
        · exact absurd (hst n q n2) (hm 7 (by omega))
        · exact n1
      rw [b_Wa_fewest_5, this]
      simp (disch := omega) only [b_Wa_fewest_35, am_ck_T, am_ck_t, am_cif_t, am_cif_f, am_cif_T, am_cif_F, am_then_s, am_push_s, am_push_n, true_and, and_true, true_or, or_true, Int.cast_ofNat_Int, am_02, am_22, not_true_eq_false, not_false_eq_true]
    | succ n ih =>
      intro i a' hi h hm
      have e1 := bs_1 h q1 q2
      by_cases hq : vN E Q i q
      · rw [bo_t hq] at e1
        have : r = (i : Int) := vdi_eq hr (Or.inl ⟨i, rfl, hq, hm⟩)
        rw [b_Wa_fewest_5, this]
        simp (disch := omega) only [b_Wa_fewest_12, b_Wa_fewest_20, wa0, wa1, wa2, e1, am_ck_T, am_ck_t, am_cif_t, am_cif_f, am_cif_T, am_cif_F, am_then_s, am_push_s, am_push_n, true_and, and_true, true_or, or_true, Int.cast_ofNat_Int, am_02, am_22, not_true_eq_false, not_false_eq_true]
      · rw [bo_f hq] at e1
        obtain ⟨a1, f1, f2⟩ := k_widened hS cw hE h
        have d1 := ih (i + 1) a1 (by omega) f2 (fun m m1 => by
          by_cases hmi : m = i
          · rw [hmi]; exact hq
          · exact hm m (by omega))
        rw [Int.natCast_add, Int.natCast_one] at d1
        rw [b_Wa_fewest_5]
        simp (disch := omega) only [b_Wa_fewest_12, b_Wa_fewest_23, b_Wa_fewest_28, wa0, wa1, wa2, e1, f1, d1, am_ck_T, am_ck_t, am_cif_t, am_cif_f, am_cif_T, am_cif_F, am_then_s, am_push_s, am_push_n, true_and, and_true, true_or, or_true, Int.cast_ofNat_Int, am_02, am_22, not_true_eq_false, not_false_eq_true]
  have d1 := loop 8 0 a (by omega) ha (fun m hm => absurd hm (by omega))
  have d1' : am_R 59 5 [some (am_r 144), some (am_i a), some (am_i q), some (am_i a), some (am_i 0)] [] S M = _ := d1
  simp (disch := omega) only [c_Wa_fewest, b_Wa_fewest_0, d1', am_ck_T, am_ck_t, am_cif_t, am_cif_f, am_cif_T, am_cif_F, am_then_s, am_push_s, am_push_n, true_and, and_true, true_or, or_true, Int.cast_ofNat_Int, am_02, am_22, not_true_eq_false, not_false_eq_true]
theorem k_byOne (hS : ly S) (hb : lf b) (hP : okP P) (hR : okR P B R) (cp : cP P M) (cr : cR P R b M) {p l : Int} (h1 : 0 ≤ l) (h2 : l < vnl P) (h3 : 0 ≤ p) (h4 : p < vnp P) : ∃ a, am_call 61 [am_r 144, am_r b, am_i p, am_i l] S M = some (some (am_i a), S, M) ∧ bs a (ve P R p l (vgt R p)) := by
  obtain ⟨wa0, wa1, wa2⟩ := hS.2.2.2.2.2.2.1
  obtain ⟨li0, li1, li2, li3, li4, li5, li6, li7⟩ := hS.2.2.2.2.1 b hb
  obtain ⟨pl0, pl1, pl2, pl3, pl4, pl5, pl6, pl7, pl8⟩ := hS.2.1
  have hP1 := hP.1
  have hP2 := hP.2.1
  have hP3 := hP.2.2.1
  have hP4 := hP.2.2.2.1
  have s1 := hP.2.2.2.2.1 l h1 h2
  have g1 := hR.2.1 p h3 h4
  have e0 := k_board hS hb hP hR cp cr h1 h2 g1.2.1 g1.2.2
  have e2 := cr.2.1 p h3 h4
  have e3 := (cp.2.2.1 l h1 h2).1
  have r1 := vbp_rng R (vgt R p) (show 0 ≤ vsz P l by omega)
  have eb := fun h => ve_bp (p := p) (g := vgt R p) (h := h) hP hR h1 h2
  by_cases hk : vbp P R l (vgt R p) = -1
  · refine ⟨0, ?_, bs_c bs_0 (fun h _ _ => ⟨fun z => z.elim, fun z => ((eb h).mp z).1 hk⟩)⟩
    rw [hk] at e0
    simp (disch := omega) only [c_Wa_byOneRide, b_Wa_byOneRide_0, b_Wa_byOneRide_11, b_Wa_byOneRide_73, wa0, wa1, wa2, li0, li1, li2, li3, li4, li5, li6, li7, pl0, pl1, pl2, pl3, pl4, pl5, pl6, pl7, pl8, e2, e0, am_ck_T, am_ck_t, am_cif_t, am_cif_f, am_cif_T, am_cif_F, am_then_s, am_push_s, am_push_n, true_and, and_true, true_or, or_true, Int.cast_ofNat_Int, am_02, am_22, not_true_eq_false, not_false_eq_true]
  · have r2 : 0 ≤ vbp P R l (vgt R p) ∧ vbp P R l (vgt R p) < vsz P l - 1 := by omega
    have fin : ∀ k a, vbp P R l (vgt R p) < k → k ≤ vsz P l → bs a (fun h => ∃ m, vbp P R l (vgt R p) < m ∧ m < k ∧ vsp P R l m = h) → (∀ m, vbp P R l (vgt R p) < m → m < k → vmg P R p l m) → (k < vsz P l → ¬ vmg P R p l k) → bs a (ve P R p l (vgt R p)) := by
      intro k a k1 k2 ha hm hn
      refine bs_c ha (fun h _ _ => ?_)
      rw [eb h]
      constructor
      · rintro ⟨m, m1, m2, m3⟩
        exact ⟨hk, m, m1, vfa_far p l _ _ m (by omega) (by omega) (fun i i1 i2 => hm i i1 (by omega)), m3⟩
      · rintro ⟨_, m, m1, m2, m3⟩
        refine ⟨m, m1, ?_, m3⟩
        have f := vfa_rng P R p l (min 5 (vsz P l - 1 - vbp P R l (vgt R p))).toNat (vbp P R l (vgt R p))
        have : ¬ k ≤ m := fun z => hn (by omega) (vfa_all p l _ _ k k1 (Int.le_trans z m2))
        omega
    have loop : ∀ (n : Nat) (k a : Int), k + n = vsz P l → vbp P R l (vgt R p) < k → bs a (fun h => ∃ m, vbp P R l (vgt R p) < m ∧ m < k ∧ vsp P R l m = h) → (∀ m, vbp P R l (vgt R p) < m → m < k → vmg P R p l m) → ∃ a', am_R 61 28 [some (am_r 144), some (am_r b), some (am_i p), some (am_i l), some (am_i (vbp P R l (vgt R p))), some (am_i a), some (am_i k)] [] S M = some (some (am_i a'), S, M) ∧ bs a' (ve P R p l (vgt R p)) := by
      intro n
      induction n with
      | zero =>
        intro k a k1 k2 ha hm
        refine ⟨a, ?_, fin k a k2 (by omega) ha hm (fun z => absurd z (by omega))⟩
        rw [b_Wa_byOneRide_28]
        simp (disch := omega) only [b_Wa_byOneRide_73, wa0, wa1, wa2, li0, li1, li2, li3, li4, li5, li6, li7, pl0, pl1, pl2, pl3, pl4, pl5, pl6, pl7, pl8, e3, am_ck_T, am_ck_t, am_cif_t, am_cif_f, am_cif_T, am_cif_F, am_then_s, am_push_s, am_push_n, true_and, and_true, true_or, or_true, Int.cast_ofNat_Int, am_02, am_22, not_true_eq_false, not_false_eq_true]
      | succ n ih =>
        intro k a k1 k2 ha hm
        have q1 := k_mayGoOn hS hb hP hR cp cr h1 h2 h3 h4 (show 0 ≤ k by omega) (show k < vsz P l by omega)
        have q2 := k_stop hS hb hP cp cr h1 h2 (show 0 ≤ k by omega) (show k < vsz P l by omega)
        have q3 := vsp_rng hP hR h1 h2 (show 0 ≤ k by omega) (show k < vsz P l by omega)
        by_cases hg : vmg P R p l k
        · rw [bo_t hg] at q1
          obtain ⟨a', d1, d2⟩ := ih (k + 1) (am_or a (am_shl 1 (vsp P R l k))) (by omega) (by omega) (bs_c (bs_or ha (bs_one q3.1 (by omega))) (fun h _ _ => by
            constructor
            · rintro (⟨m, m1, m2, m3⟩ | z)
              · exact ⟨m, m1, by omega, m3⟩
              · exact ⟨k, k2, by omega, z.symm⟩
            · rintro ⟨m, m1, m2, m3⟩
              by_cases hmk : m = k
              · rw [hmk] at m3; exact Or.inr m3.symm
              · exact Or.inl ⟨m, m1, by omega, m3⟩)) (fun m m1 m2 => by
            by_cases hmk : m = k
            · rw [hmk]; exact hg
            · exact hm m m1 (by omega))
          refine ⟨a', ?_, d2⟩
          rw [b_Wa_byOneRide_28]
          simp (disch := omega) only [b_Wa_byOneRide_42, b_Wa_byOneRide_50, b_Wa_byOneRide_53, b_Wa_byOneRide_63, wa0, wa1, wa2, li0, li1, li2, li3, li4, li5, li6, li7, pl0, pl1, pl2, pl3, pl4, pl5, pl6, pl7, pl8, e3, q1, q2, d1, am_ck_T, am_ck_t, am_cif_t, am_cif_f, am_cif_T, am_cif_F, am_then_s, am_push_s, am_push_n, true_and, and_true, true_or, or_true, Int.cast_ofNat_Int, am_02, am_22, not_true_eq_false, not_false_eq_true]
        · rw [bo_f hg] at q1
          refine ⟨a, ?_, fin k a k2 (by omega) ha hm (fun _ => hg)⟩
          rw [b_Wa_byOneRide_28]
          simp (disch := omega) only [b_Wa_byOneRide_42, b_Wa_byOneRide_50, b_Wa_byOneRide_73, wa0, wa1, wa2, li0, li1, li2, li3, li4, li5, li6, li7, pl0, pl1, pl2, pl3, pl4, pl5, pl6, pl7, pl8, e3, q1, am_ck_T, am_ck_t, am_cif_t, am_cif_f, am_cif_T, am_cif_F, am_then_s, am_push_s, am_push_n, true_and, and_true, true_or, or_true, Int.cast_ofNat_Int, am_02, am_22, not_true_eq_false, not_false_eq_true]
    obtain ⟨a', d1, d2⟩ := loop (vsz P l - (vbp P R l (vgt R p) + 1)).toNat (vbp P R l (vgt R p) + 1) 0 (by omega) (by omega) (bs_c bs_0 (fun h _ _ => ⟨fun z => z.elim, fun ⟨m, m1, m2, _⟩ => by omega⟩)) (fun m m1 m2 => by omega)
    refine ⟨a', ?_, d2⟩
    simp (disch := omega) only [c_Wa_byOneRide, b_Wa_byOneRide_0, b_Wa_byOneRide_11, b_Wa_byOneRide_22, wa0, wa1, wa2, li0, li1, li2, li3, li4, li5, li6, li7, pl0, pl1, pl2, pl3, pl4, pl5, pl6, pl7, pl8, e2, e0, d1, am_ck_T, am_ck_t, am_cif_t, am_cif_f, am_cif_T, am_cif_F, am_then_s, am_push_s, am_push_n, true_and, and_true, true_or, or_true, Int.cast_ofNat_Int, am_02, am_22, not_true_eq_false, not_false_eq_true]
end WALK
