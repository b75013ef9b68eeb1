/-! town: the reference, the command -/
section MTOWN
variable {S : am_S} {M M1 : am_M} {X : vX} {B : Int} {P : vP} {R : vR} {D : vD}
theorem m_take1 (hS : ly S) : ∀ (n : Nat) (k : Int) (M : am_M), 0 ≤ k → k + n = 64 → ∃ M1, am_R 119 18 [some (am_r 164), some (am_i k), none] [] S M = am_R 119 45 [some (am_r 164), some (am_i 64), none] [] S M1 ∧ (∀ j, k ≤ j → j < 64 → M1 165 j = M 167 (64 + j)) ∧ (∀ j, (j < k ∨ 64 ≤ j) → M1 165 j = M 165 j) ∧ fr 165 165 M M1 := by
  obtain ⟨mo0, ⟨mr0, mr1, mr2, mr3, mr4, mr5, mr6, mr7, mr8, mr9, mr10, mr11⟩, mk0, mk1, mk2, mk3, mk4, mk5, mk6, mk7, mk8, mk9, mk10, mk11⟩ := hS.2.2.2.2.2.2.2.2.2.2
  intro n
  induction n with
  | zero =>
    intro k M k1 k2
    obtain rfl : k = 64 := by omega
    refine ⟨M, ?_, fun j j1 j2 => by omega, fun _ _ => rfl, fr_rf⟩
    rw [b_Mo_take_18]
    simp (disch := omega) only [am_ck_T, am_ck_t, am_cif_t, am_cif_f, am_cif_T, am_cif_F, am_then_s, am_push_s, am_push_n, true_and, and_true, true_or, or_true, Int.cast_ofNat_Int, am_02, am_22, not_true_eq_false, not_false_eq_true]
  | succ n ih =>
    intro k M k1 k2
    obtain ⟨M1, d1, d2, d3, d4⟩ := ih (k + 1) (am_wr M 165 k (M 167 (64 + k))) (by omega) (by omega)
    refine ⟨M1, ?_, fun j j1 j2 => ?_, fun j hj => ?_, fr_tr (fr_wr (by omega)) d4⟩
    · rw [b_Mo_take_18]
      simp (disch := omega) only [b_Mo_take_24, mo0, mr0, mr1, mr2, mr3, mr4, mr5, mr6, mr7, mr8, mr9, mr10, mr11, mk0, mk1, mk2, mk3, mk4, mk5, mk6, mk7, mk8, mk9, mk10, mk11, d1, am_ck_T, am_ck_t, am_cif_t, am_cif_f, am_cif_T, am_cif_F, am_then_s, am_push_s, am_push_n, true_and, and_true, true_or, or_true, Int.cast_ofNat_Int, am_02, am_22, not_true_eq_false, not_false_eq_true]
    · by_cases e : j = k
      · rw [e, d3 k (by omega), am_wr_s]
      · rw [d2 j (by omega) j2, am_wr_k (by omega)]
    · rw [d3 j (by omega), am_wr_i (by omega)]
theorem m_take2 (hS : ly S) : ∀ (n : Nat) (k : Int) (M : am_M), 0 ≤ k → k + n = 8 → ∃ M1, am_R 119 47 [some (am_r 164), some (am_i k), none] [] S M = am_R 119 69 [some (am_r 164), some (am_i 8), none] [] S M1 ∧ (∀ j, k ≤ j → j < 8 → M1 165 (64 + j) = j) ∧ (∀ j, (j < 64 + k ∨ 72 ≤ j) → M1 165 j = M 165 j) ∧ fr 165 165 M M1 := by
  obtain ⟨mo0, ⟨mr0, mr1, mr2, mr3, mr4, mr5, mr6, mr7, mr8, mr9, mr10, mr11⟩, mk0, mk1, mk2, mk3, mk4, mk5, mk6, mk7, mk8, mk9, mk10, mk11⟩ := hS.2.2.2.2.2.2.2.2.2.2
  intro n
  induction n with
  | zero =>
    intro k M k1 k2
    obtain rfl : k = 8 := by omega
    refine ⟨M, ?_, fun j j1 j2 => by omega, fun _ _ => rfl, fr_rf⟩
    rw [b_Mo_take_47]
    simp (disch := omega) only [am_ck_T, am_ck_t, am_cif_t, am_cif_f, am_cif_T, am_cif_F, am_then_s, am_push_s, am_push_n, true_and, and_true, true_or, or_true, Int.cast_ofNat_Int, am_02, am_22, not_true_eq_false, not_false_eq_true]
  | succ n ih =>
    intro k M k1 k2
    obtain ⟨M1, d1, d2, d3, d4⟩ := ih (k + 1) (am_wr M 165 (64 + k) k) (by omega) (by omega)
    refine ⟨M1, ?_, fun j j1 j2 => ?_, fun j hj => ?_, fr_tr (fr_wr (by omega)) d4⟩
    · rw [b_Mo_take_47]
      simp (disch := omega) only [b_Mo_take_53, mo0, mr0, mr1, mr2, mr3, mr4, mr5, mr6, mr7, mr8, mr9, mr10, mr11, mk0, mk1, mk2, mk3, mk4, mk5, mk6, mk7, mk8, mk9, mk10, mk11, d1, am_ck_T, am_ck_t, am_cif_t, am_cif_f, am_cif_T, am_cif_F, am_then_s, am_push_s, am_push_n, true_and, and_true, true_or, or_true, Int.cast_ofNat_Int, am_02, am_22, not_true_eq_false, not_false_eq_true]
    · by_cases e : j = k
      · rw [e, d3 (64 + k) (by omega), am_wr_s]
      · rw [d2 j (by omega) j2]
    · rw [d3 j (by omega), am_wr_i (by omega)]
theorem m_take3 (hS : ly S) {l : Int} (l1 : 0 ≤ l) (l2 : l < 6) : ∀ (n : Nat) (k : Int) (M : am_M), 0 ≤ k → k + n = 6 → ∃ M1, am_R 119 109 [some (am_r 164), some (am_i l), some (am_i k)] [] S M = am_R 119 146 [some (am_r 164), some (am_i l), some (am_i 6)] [] S M1 ∧ (∀ j, k ≤ j → j < 6 → M1 168 (6 * l + j) = M 168 (6 * (6 + l) + j)) ∧ (∀ j, (j < 6 * l + k ∨ 6 * l + 6 ≤ j) → M1 168 j = M 168 j) ∧ fr 168 168 M M1 := by
  obtain ⟨mo0, ⟨mr0, mr1, mr2, mr3, mr4, mr5, mr6, mr7, mr8, mr9, mr10, mr11⟩, mk0, mk1, mk2, mk3, mk4, mk5, mk6, mk7, mk8, mk9, mk10, mk11⟩ := hS.2.2.2.2.2.2.2.2.2.2
  intro n
  induction n with
  | zero =>
    intro k M k1 k2
    obtain rfl : k = 6 := by omega
    refine ⟨M, ?_, fun j j1 j2 => by omega, fun _ _ => rfl, fr_rf⟩
    rw [b_Mo_take_109]
    simp (disch := omega) only [am_ck_T, am_ck_t, am_cif_t, am_cif_f, am_cif_T, am_cif_F, am_then_s, am_push_s, am_push_n, true_and, and_true, true_or, or_true, Int.cast_ofNat_Int, am_02, am_22, not_true_eq_false, not_false_eq_true]
  | succ n ih =>
    intro k M k1 k2
    obtain ⟨M1, d1, d2, d3, d4⟩ := ih (k + 1) (am_wr M 168 (6 * l + k) (M 168 (6 * (6 + l) + k))) (by omega) (by omega)
    refine ⟨M1, ?_, fun j j1 j2 => ?_, fun j hj => ?_, fr_tr (fr_wr (by omega)) d4⟩
    · rw [b_Mo_take_109]
      simp (disch := omega) only [b_Mo_take_115, mo0, mr0, mr1, mr2, mr3, mr4, mr5, mr6, mr7, mr8, mr9, mr10, mr11, mk0, mk1, mk2, mk3, mk4, mk5, mk6, mk7, mk8, mk9, mk10, mk11, d1, am_ck_T, am_ck_t, am_cif_t, am_cif_f, am_cif_T, am_cif_F, am_then_s, am_push_s, am_push_n, true_and, and_true, true_or, or_true, Int.cast_ofNat_Int, am_02, am_22, not_true_eq_false, not_false_eq_true]
    · by_cases e : j = k
      · rw [e, d3 (6 * l + k) (by omega), am_wr_s]
      · rw [d2 j (by omega) j2, am_wr_i (by omega)]
    · rw [d3 j (by omega), am_wr_i (by omega)]
/-- what taking lines changes -/
def gl (M M1 : am_M) : Prop := (∀ k, k ≠ 165 → k ≠ 168 → k ≠ 169 → k ≠ 170 → ∀ j, M1 k j = M k j) ∧ (∀ j, (j < 72 ∨ 78 ≤ j) → M1 165 j = M 165 j) ∧ (∀ j, 36 ≤ j → M1 168 j = M 168 j) ∧ (∀ j, 6 ≤ j → M1 169 j = M 169 j) ∧ ∀ j, 6 ≤ j → M1 170 j = M 170 j
theorem gl_rf {M : am_M} : gl M M := ⟨fun _ _ _ _ _ _ => rfl, fun _ _ => rfl, fun _ _ => rfl, fun _ _ => rfl, fun _ _ => rfl⟩
theorem gl_tr {M M1 M2 : am_M} (h1 : gl M M1) (h2 : gl M1 M2) : gl M M2 := ⟨fun k a b c d j => (h2.1 k a b c d j).trans (h1.1 k a b c d j), fun j a => (h2.2.1 j a).trans (h1.2.1 j a), fun j a => (h2.2.2.1 j a).trans (h1.2.2.1 j a), fun j a => (h2.2.2.2.1 j a).trans (h1.2.2.2.1 j a), fun j a => (h2.2.2.2.2 j a).trans (h1.2.2.2.2 j a)⟩
theorem m_take4 (hS : ly S) (hD : okD D) : ∀ (n : Nat) (l : Int) (M : am_M) (o2 : Option am_V), 0 ≤ l → l + n = 6 → mD D M → M 164 8 = vnl D.1 → (∀ i, 0 ≤ i → i < l → i < vnl D.1 → M 169 i = vsz D.1 i ∧ M 170 i = vfr D.1 i ∧ M 165 (72 + i) = vst D.1 i (vsz D.1 i - 1) ∧ ∀ k, 0 ≤ k → k < vsz D.1 i → M 168 (6 * i + k) = vst D.1 i k) → ∃ M1 o3, am_R 119 71 [some (am_r 164), some (am_i l), o2] [] S M = am_R 119 191 [some (am_r 164), some (am_i 6), o3] [] S M1 ∧ (∀ i, 0 ≤ i → i < vnl D.1 → M1 169 i = vsz D.1 i ∧ M1 170 i = vfr D.1 i ∧ M1 165 (72 + i) = vst D.1 i (vsz D.1 i - 1) ∧ ∀ k, 0 ≤ k → k < vsz D.1 i → M1 168 (6 * i + k) = vst D.1 i k) ∧ gl M M1 := by
  obtain ⟨mo0, ⟨mr0, mr1, mr2, mr3, mr4, mr5, mr6, mr7, mr8, mr9, mr10, mr11⟩, mk0, mk1, mk2, mk3, mk4, mk5, mk6, mk7, mk8, mk9, mk10, mk11⟩ := hS.2.2.2.2.2.2.2.2.2.2
  have hP := hD.1
  have hP1 := hP.1
  have hP2 := hP.2.1
  have hP3 := hP.2.2.1
  have hP4 := hP.2.2.2.1
  intro n
  induction n with
  | zero =>
    intro l M o2 l1 l2 cd h8 h
    obtain rfl : l = 6 := by omega
    refine ⟨M, o2, ?_, fun i i1 i2 => h i i1 (by omega) i2, gl_rf⟩
    rw [b_Mo_take_71]
    simp (disch := omega) only [am_ck_T, am_ck_t, am_cif_t, am_cif_f, am_cif_T, am_cif_F, am_then_s, am_push_s, am_push_n, true_and, and_true, true_or, or_true, Int.cast_ofNat_Int, am_02, am_22, not_true_eq_false, not_false_eq_true]
  | succ n ih =>
    intro l M o2 l1 l2 cd h8 h
    have f0 : gl M (am_wr (am_wr M 169 l (M 169 (6 + l))) 170 l (am_wr M 169 l (M 169 (6 + l)) 170 (6 + l))) := ⟨fun k _ _ c d j => (am_wr_k d).trans (am_wr_k c), fun j _ => (am_wr_k (by omega)).trans (am_wr_k (by omega)), fun j _ => (am_wr_k (by omega)).trans (am_wr_k (by omega)), fun j hj => (am_wr_k (by omega)).trans (am_wr_i (by omega)), fun j hj => (am_wr_i (by omega)).trans (am_wr_k (by omega))⟩
    obtain ⟨Ma, a1, a2, a3, a4⟩ := m_take3 hS l1 (show l < 6 by omega) 6 0 (am_wr (am_wr M 169 l (M 169 (6 + l))) 170 l (am_wr M 169 l (M 169 (6 + l)) 170 (6 + l))) (by omega) (by omega)
    have f1 : gl M Ma := gl_tr f0 ⟨fun k _ b _ _ j => a4 k (by omega) j, fun j _ => a4 165 (by omega) j, fun j hj => a3 j (by omega), fun j _ => a4 169 (by omega) j, fun j _ => a4 170 (by omega) j⟩
    have h8a : Ma 164 8 = vnl D.1 := (f1.1 164 (by omega) (by omega) (by omega) (by omega) 8).trans h8
    have step : ∀ v : Int, (l < vnl D.1 → v = vst D.1 l (vsz D.1 l - 1)) → ∃ M1 o3, am_R 119 71 [some (am_r 164), some (am_i (l + 1)), some (am_i 6)] [] S (am_wr Ma 165 (72 + l) v) = am_R 119 191 [some (am_r 164), some (am_i 6), o3] [] S M1 ∧ (∀ i, 0 ≤ i → i < vnl D.1 → M1 169 i = vsz D.1 i ∧ M1 170 i = vfr D.1 i ∧ M1 165 (72 + i) = vst D.1 i (vsz D.1 i - 1) ∧ ∀ k, 0 ≤ k → k < vsz D.1 i → M1 168 (6 * i + k) = vst D.1 i k) ∧ gl M M1 := by
      intro v hv
      have f2 : gl M (am_wr Ma 165 (72 + l) v) := gl_tr f1 ⟨fun k a _ _ _ j => am_wr_k a, fun j hj => am_wr_i (by omega), fun j _ => am_wr_k (by omega), fun j _ => am_wr_k (by omega), fun j _ => am_wr_k (by omega)⟩
      have cd2 : mD D (am_wr Ma 165 (72 + l) v) := ⟨(f2.1 164 (by omega) (by omega) (by omega) (by omega) 7).trans cd.1, (f2.1 164 (by omega) (by omega) (by omega) (by omega) 9).trans cd.2.1, fun i i1 i2 => ⟨(f2.2.2.2.1 _ (by omega)).trans (cd.2.2.1 i i1 i2).1, (f2.2.2.2.2 _ (by omega)).trans (cd.2.2.1 i i1 i2).2⟩, fun i k i1 i2 k1 k2 => (f2.2.2.1 _ (by omega)).trans (cd.2.2.2.1 i k i1 i2 k1 k2), fun x c c1 c2 c3 c4 => (f2.1 167 (by omega) (by omega) (by omega) (by omega) _).trans (cd.2.2.2.2 x c c1 c2 c3 c4)⟩
      obtain ⟨M1, o3, d1, d2, d3⟩ := ih (l + 1) (am_wr Ma 165 (72 + l) v) (some (am_i 6)) (by omega) (by omega) cd2 ((f2.1 164 (by omega) (by omega) (by omega) (by omega) 8).trans h8) (fun i i1 i2 i3 => by
        by_cases e : i = l
        · subst e
          have c3 := cd.2.2.1 i i1 i3
          have s := hP.2.2.2.2.1 i i1 i3
          refine ⟨?_, ?_, ?_, fun k k1 k2 => ?_⟩
          · rw [am_wr_k (by omega), a4 169 (by omega), am_wr_k (by omega), am_wr_s]; exact c3.1
          · rw [am_wr_k (by omega), a4 170 (by omega), am_wr_s, am_wr_k (by omega)]; exact c3.2
          · rw [am_wr_s]; exact hv i3
          · rw [am_wr_k (by omega), a2 k k1 (by omega), am_wr_k (by omega), am_wr_k (by omega)]
            exact cd.2.2.2.1 i k i1 i3 k1 k2
        · have hi := h i i1 (by omega) i3
          have s := hP.2.2.2.2.1 i i1 i3
          refine ⟨?_, ?_, ?_, fun k k1 k2 => ?_⟩
          · rw [am_wr_k (by omega), a4 169 (by omega), am_wr_k (by omega), am_wr_i e]; exact hi.1
          · rw [am_wr_k (by omega), a4 170 (by omega), am_wr_i e, am_wr_k (by omega)]; exact hi.2.1
          · rw [am_wr_i (by omega), a4 165 (by omega), am_wr_k (by omega), am_wr_k (by omega)]; exact hi.2.2.1
          · rw [am_wr_k (by omega), a3 _ (by omega), am_wr_k (by omega), am_wr_k (by omega)]; exact hi.2.2.2 k k1 k2)
      exact ⟨M1, o3, d1, d2, gl_tr f2 d3⟩
    by_cases hl : l < vnl D.1
    · have c3 := cd.2.2.1 l l1 hl
      have s := hP.2.2.2.2.1 l l1 hl
      have z1 : Ma 169 l = vsz D.1 l := by rw [a4 169 (by omega), am_wr_k (by omega), am_wr_s]; exact c3.1
      have z2 : Ma 168 (6 * l + vsz D.1 l - 1) = vst D.1 l (vsz D.1 l - 1) := by
        have := a2 (vsz D.1 l - 1) (by omega) (by omega)
        rw [show 6 * l + (vsz D.1 l - 1) = 6 * l + vsz D.1 l - 1 by omega, am_wr_k (by omega), am_wr_k (by omega)] at this
        exact this.trans (cd.2.2.2.1 l (vsz D.1 l - 1) l1 hl (by omega) (by omega))
      obtain ⟨M1, o3, d1, d2, d3⟩ := step (vst D.1 l (vsz D.1 l - 1)) (fun _ => rfl)
      refine ⟨M1, o3, ?_, d2, d3⟩
      rw [b_Mo_take_71]
      simp (disch := omega) only [b_Mo_take_77, a1, b_Mo_take_146, b_Mo_take_162, b_Mo_take_184, mo0, mr0, mr1, mr2, mr3, mr4, mr5, mr6, mr7, mr8, mr9, mr10, mr11, mk0, mk1, mk2, mk3, mk4, mk5, mk6, mk7, mk8, mk9, mk10, mk11, h8a, z1, z2, d1, am_ck_T, am_ck_t, am_cif_t, am_cif_f, am_cif_T, am_cif_F, am_then_s, am_push_s, am_push_n, true_and, and_true, true_or, or_true, Int.cast_ofNat_Int, am_02, am_22, not_true_eq_false, not_false_eq_true]
    · obtain ⟨M1, o3, d1, d2, d3⟩ := step 0 (fun z => absurd z hl)
      refine ⟨M1, o3, ?_, d2, d3⟩
      rw [b_Mo_take_71]
      simp (disch := omega) only [b_Mo_take_77, a1, b_Mo_take_146, b_Mo_take_183, b_Mo_take_184, mo0, mr0, mr1, mr2, mr3, mr4, mr5, mr6, mr7, mr8, mr9, mr10, mr11, mk0, mk1, mk2, mk3, mk4, mk5, mk6, mk7, mk8, mk9, mk10, mk11, h8a, d1, am_ck_T, am_ck_t, am_cif_t, am_cif_f, am_cif_T, am_cif_F, am_then_s, am_push_s, am_push_n, true_and, and_true, true_or, or_true, Int.cast_ofNat_Int, am_02, am_22, not_true_eq_false, not_false_eq_true]
theorem mP_gw (hP : okP P) (mp : mP P M) (h : gw M M1) : mP P M1 := by
  have hP1 := hP.1
  have hP2 := hP.2.1
  have hP3 := hP.2.2.1
  have hP4 := hP.2.2.2.1
  exact ⟨(h.2.1 6 (by omega) (by omega) (by omega) (by omega) (by omega) (by omega)).trans mp.1, (h.2.1 8 (by omega) (by omega) (by omega) (by omega) (by omega) (by omega)).trans mp.2.1, fun l l1 l2 => ⟨(h.2.2.2.1 l (by omega)).trans (mp.2.2.1 l l1 l2).1, (h.2.2.2.2 l (by omega)).trans (mp.2.2.1 l l1 l2).2⟩, fun l k l1 l2 k1 k2 => by
    have s := hP.2.2.2.2.1 l l1 l2
    exact (h.2.2.1 _ (by omega)).trans (mp.2.2.2 l k l1 l2 k1 k2)⟩
/-- the reference reads: fault or draft -/
theorem m_read (hS : ly S) (ok : okX B X) (c : MX X M) : ∃ M1, am_call 118 [am_r 164] S M = am_R 118 89 [some (am_r 164)] [] S M1 ∧ gw M M1 ∧ mO2 (tx (xT X)) ((xT X).length : Int) (sc (tx (xT X)) ((xT X).length : Int) 200 (tb (tx (xT X)) ((xT X).length : Int) 0) vD0) M1 := by
  obtain ⟨mo0, ⟨mr0, mr1, mr2, mr3, mr4, mr5, mr6, mr7, mr8, mr9, mr10, mr11⟩, mk0, mk1, mk2, mk3, mk4, mk5, mk6, mk7, mk8, mk9, mk10, mk11⟩ := hS.2.2.2.2.2.2.2.2.2.2
  have hT := tx_TL ok
  have t2 := hT.2
  have ct := c.2.2.2.2.2.2.2.1
  have g0 : mg (tx (xT X)) ((xT X).length : Int) 0 (am_wr (am_wr (am_wr (am_wr (am_wr M 164 12 0) 164 14 0) 164 15 (-1)) 164 7 0) 164 9 0) := by
    refine ⟨⟨?_, ?_, fun j j1 j2 => ?_, by omega, by omega⟩, ?_, ?_⟩
    · rw [am_wr_i (by omega), am_wr_i (by omega), am_wr_i (by omega), am_wr_i (by omega), am_wr_i (by omega)]; exact ct.1
    · rw [am_wr_i (by omega), am_wr_i (by omega), am_wr_i (by omega), am_wr_i (by omega), am_wr_s]
    · rw [am_wr_k (by omega), am_wr_k (by omega), am_wr_k (by omega), am_wr_k (by omega), am_wr_k (by omega)]
      have := ct.2 j.toNat _ (tx_e j1 j2)
      rw [show ((j.toNat : Nat) : Int) = j by omega] at this
      exact this
    · rw [am_wr_i (by omega), am_wr_i (by omega), am_wr_i (by omega), am_wr_s]
    · rw [am_wr_i (by omega), am_wr_i (by omega), am_wr_s]
  have d0 : mD vD0 (am_wr (am_wr (am_wr (am_wr (am_wr M 164 12 0) 164 14 0) 164 15 (-1)) 164 7 0) 164 9 0) := by
    refine ⟨?_, am_wr_s, fun l l1 l2 => absurd l2 (by show ¬ l < 0; omega), fun l k l1 l2 => absurd l2 (by show ¬ l < 0; omega), fun p q p1 p2 => absurd p2 (by show ¬ p < 0; omega)⟩
    rw [am_wr_i (by omega), am_wr_s]; rfl
  have f0 : gw M (am_wr (am_wr (am_wr (am_wr (am_wr M 164 12 0) 164 14 0) 164 15 (-1)) 164 7 0) 164 9 0) := ⟨fun k a _ _ _ _ j => (am_wr_k a).trans ((am_wr_k a).trans ((am_wr_k a).trans ((am_wr_k a).trans (am_wr_k a)))), fun j a b c _ d e => (am_wr_i b).trans ((am_wr_i a).trans ((am_wr_i e).trans ((am_wr_i d).trans (am_wr_i c)))), fun j _ => (am_wr_k (by omega)).trans ((am_wr_k (by omega)).trans ((am_wr_k (by omega)).trans ((am_wr_k (by omega)).trans (am_wr_k (by omega))))), fun j _ => (am_wr_k (by omega)).trans ((am_wr_k (by omega)).trans ((am_wr_k (by omega)).trans ((am_wr_k (by omega)).trans (am_wr_k (by omega))))), fun j _ => (am_wr_k (by omega)).trans ((am_wr_k (by omega)).trans ((am_wr_k (by omega)).trans ((am_wr_k (by omega)).trans (am_wr_k (by omega)))))⟩
  have rb := tb_rng (T := tx (xT X)) (show (0 : Int) ≤ ((xT X).length : Int) by omega)
  obtain ⟨M1, d1, d2, d3⟩ := m_parse hS hT 200 0 vD0 _ (by omega) okD0 g0 d0
  refine ⟨M1, ?_, gw_tr f0 d2, d3⟩
  simp (disch := omega) only [c_Mo_town, b_Mo_town_0, mo0, mr0, mr1, mr2, mr3, mr4, mr5, mr6, mr7, mr8, mr9, mr10, mr11, mk0, mk1, mk2, mk3, mk4, mk5, mk6, mk7, mk8, mk9, mk10, mk11, d1, am_ck_T, am_ck_t, am_cif_t, am_cif_f, am_cif_T, am_cif_F, am_then_s, am_push_s, am_push_n, true_and, and_true, true_or, or_true, Int.cast_ofNat_Int, am_02, am_22, not_true_eq_false, not_false_eq_true]
theorem m_town_f (hS : ly S) (ok : okX B X) (c : MX X M) {f : Int × Int} (hs : sc (tx (xT X)) ((xT X).length : Int) 200 (tb (tx (xT X)) ((xT X).length : Int) 0) vD0 = Sum.inl f) : ∃ M1, am_call 118 [am_r 164] S M = some (some (am_i (-10 - f.1)), S, M1) ∧ MX (vXf X f) M1 ∧ fr 164 176 M M1 := by
  obtain ⟨mo0, ⟨mr0, mr1, mr2, mr3, mr4, mr5, mr6, mr7, mr8, mr9, mr10, mr11⟩, mk0, mk1, mk2, mk3, mk4, mk5, mk6, mk7, mk8, mk9, mk10, mk11⟩ := hS.2.2.2.2.2.2.2.2.2.2
  have hP := ok.1
  obtain ⟨Ma, a1, a2, a3⟩ := m_read hS ok c
  rw [hs] at a3
  obtain ⟨_, e1, e2, e3, e4⟩ := a3
  have n1 : am_wr Ma 164 11 0 164 14 = f.1 := (am_wr_i (by omega)).trans e1
  have h4 : ∀ j, j ≠ 7 → j ≠ 9 → j ≠ 12 → j ≠ 13 → j ≠ 14 → j ≠ 15 → j ≠ 11 → am_wr Ma 164 11 0 164 j = M 164 j := fun j a b c d e f g => (am_wr_i g).trans (a2.2.1 j a b c d e f)
  have hk : ∀ k, k ≠ 164 → k ≠ 167 → k ≠ 168 → k ≠ 169 → k ≠ 170 → ∀ j, am_wr Ma 164 11 0 k j = M k j := fun k a b c d e j => (am_wr_k a).trans (a2.1 k a b c d e j)
  refine ⟨am_wr Ma 164 11 0, ?_, ?_, fun k k1 j => hk k (by omega) (by omega) (by omega) (by omega) (by omega) j⟩
  · simp (disch := omega) only [a1, b_Mo_town_89, b_Mo_town_101, mo0, mr0, mr1, mr2, mr3, mr4, mr5, mr6, mr7, mr8, mr9, mr10, mr11, mk0, mk1, mk2, mk3, mk4, mk5, mk6, mk7, mk8, mk9, mk10, mk11, n1, am_ck_T, am_ck_t, am_cif_t, am_cif_f, am_cif_T, am_cif_F, am_then_s, am_push_s, am_push_n, true_and, and_true, true_or, or_true, Int.cast_ofNat_Int, am_02, am_22, not_true_eq_false, not_false_eq_true]
  · obtain ⟨b1, b2, b3, b4, b5, b6, b7, b8, b9, b10⟩ := c
    have mp1 : mP (xP X) Ma := mP_gw hP b1 a2
    refine ⟨⟨(am_wr_i (by omega)).trans mp1.1, (am_wr_i (by omega)).trans mp1.2.1, fun l l1 l2 => ⟨(am_wr_k (by omega)).trans (mp1.2.2.1 l l1 l2).1, (am_wr_k (by omega)).trans (mp1.2.2.1 l l1 l2).2⟩, fun l k l1 l2 k1 k2 => (am_wr_k (by omega)).trans (mp1.2.2.2 l k l1 l2 k1 k2)⟩, mR_fr hP (fun j _ _ => hk 165 (by omega) (by omega) (by omega) (by omega) (by omega) j) b2, ⟨(h4 16 (by omega) (by omega) (by omega) (by omega) (by omega) (by omega) (by omega)).trans b3.1, fun k q hq => mR_fr hP (fun j _ _ => hk 165 (by omega) (by omega) (by omega) (by omega) (by omega) j) (b3.2 k q hq)⟩, mI_fr hP (hk 166 (by omega) (by omega) (by omega) (by omega) (by omega)) (fun j _ _ => hk 165 (by omega) (by omega) (by omega) (by omega) (by omega) j) b4, mI_fr hP (hk 166 (by omega) (by omega) (by omega) (by omega) (by omega)) (fun j _ _ => hk 165 (by omega) (by omega) (by omega) (by omega) (by omega) j) b5, ⟨(h4 20 (by omega) (by omega) (by omega) (by omega) (by omega) (by omega) (by omega)).trans b6.1, fun k q hq => ⟨(hk 173 (by omega) (by omega) (by omega) (by omega) (by omega) _).trans (b6.2 k q hq).1, (hk 174 (by omega) (by omega) (by omega) (by omega) (by omega) _).trans (b6.2 k q hq).2⟩⟩, ⟨(h4 23 (by omega) (by omega) (by omega) (by omega) (by omega) (by omega) (by omega)).trans b7.1, fun k q hq => ⟨(hk 175 (by omega) (by omega) (by omega) (by omega) (by omega) _).trans (b7.2 k q hq).1, (hk 176 (by omega) (by omega) (by omega) (by omega) (by omega) _).trans (b7.2 k q hq).2⟩⟩, ⟨am_wr_s, fun k q hq => nil_no hq⟩, (am_wr_i (by omega)).trans e2, (hk 165 (by omega) (by omega) (by omega) (by omega) (by omega) 81).trans b10⟩
theorem m_town_t (hS : ly S) (ok : okX B X) (c : MX X M) (hs : sc (tx (xT X)) ((xT X).length : Int) 200 (tb (tx (xT X)) ((xT X).length : Int) 0) vD0 = Sum.inr D) (hD : okD D) : ∃ M1, am_call 118 [am_r 164] S M = some (some (am_i (vnp D.1)), S, M1) ∧ MX (vXt X D) M1 ∧ fr 164 176 M M1 := by
  obtain ⟨mo0, ⟨mr0, mr1, mr2, mr3, mr4, mr5, mr6, mr7, mr8, mr9, mr10, mr11⟩, mk0, mk1, mk2, mk3, mk4, mk5, mk6, mk7, mk8, mk9, mk10, mk11⟩ := hS.2.2.2.2.2.2.2.2.2.2
  have hP := hD.1
  have hP1 := hP.1
  have hP2 := hP.2.1
  have hP3 := hP.2.2.1
  have hP4 := hP.2.2.2.1
  obtain ⟨Ma, a1, a2, a3⟩ := m_read hS ok c
  rw [hs] at a3
  obtain ⟨⟨i, g⟩, cd⟩ := a3
  have n1 : am_wr Ma 164 11 0 164 14 = 0 := (am_wr_i (by omega)).trans g.2.1
  have n7 : am_wr Ma 164 11 0 164 7 = vnp D.1 := (am_wr_i (by omega)).trans cd.1
  have n9 : am_wr (am_wr Ma 164 11 0) 164 6 (vnp D.1) 164 9 = vnl D.1 := (am_wr_i (by omega)).trans ((am_wr_i (by omega)).trans cd.2.1)
  obtain ⟨Mc, c1, c2, c3, c4⟩ := m_take1 hS 64 0 (am_wr (am_wr (am_wr Ma 164 11 0) 164 6 (vnp D.1)) 164 8 (vnl D.1)) (by omega) (by omega)
  obtain ⟨Md, d1, d2, d3, d4⟩ := m_take2 hS 8 0 Mc (by omega) (by omega)
  have kd : ∀ k, k ≠ 165 → k ≠ 164 → ∀ j, Md k j = Ma k j := fun k h1 h2 j => by
    rw [d4 k (by omega), c4 k (by omega), am_wr_k h2, am_wr_k h2, am_wr_k h2]
  have k164 : ∀ j, j ≠ 6 → j ≠ 8 → j ≠ 11 → Md 164 j = Ma 164 j := fun j h1 h2 h3 => by
    rw [d4 164 (by omega), c4 164 (by omega), am_wr_i h2, am_wr_i h1, am_wr_i h3]
  have md6 : Md 164 6 = vnp D.1 := by rw [d4 164 (by omega), c4 164 (by omega), am_wr_i (by omega), am_wr_s]
  have md8 : Md 164 8 = vnl D.1 := by rw [d4 164 (by omega), c4 164 (by omega), am_wr_s]
  have md11 : Md 164 11 = 0 := by rw [d4 164 (by omega), c4 164 (by omega), am_wr_i (by omega), am_wr_i (by omega), am_wr_s]
  have cdd : mD D Md := ⟨(k164 7 (by omega) (by omega) (by omega)).trans cd.1, (k164 9 (by omega) (by omega) (by omega)).trans cd.2.1, fun l l1 l2 => ⟨(kd 169 (by omega) (by omega) _).trans (cd.2.2.1 l l1 l2).1, (kd 170 (by omega) (by omega) _).trans (cd.2.2.1 l l1 l2).2⟩, fun l k l1 l2 k1 k2 => (kd 168 (by omega) (by omega) _).trans (cd.2.2.2.1 l k l1 l2 k1 k2), fun x y x1 x2 x3 x4 => (kd 167 (by omega) (by omega) _).trans (cd.2.2.2.2 x y x1 x2 x3 x4)⟩
  obtain ⟨Me, o3, e1, e2, e3⟩ := m_take4 hS hD 6 0 Md none (by omega) (by omega) cdd md8 (fun i i1 i2 => by omega)
  have m6 : am_wr (am_wr (am_wr (am_wr (am_wr (am_wr (am_wr (am_wr Me 165 78 0) 165 79 0) 165 80 0) 164 20 0) 164 23 0) 164 16 0) 166 0 0) 166 1 0 164 6 = vnp D.1 := by
    rw [am_wr_k (by omega), am_wr_k (by omega), am_wr_i (by omega), am_wr_i (by omega), am_wr_i (by omega), am_wr_k (by omega), am_wr_k (by omega), am_wr_k (by omega), e3.1 164 (by omega) (by omega) (by omega) (by omega)]; exact md6
  have e165 : ∀ j, j ≠ 78 → j ≠ 79 → j ≠ 80 → am_wr (am_wr (am_wr (am_wr (am_wr (am_wr (am_wr (am_wr Me 165 78 0) 165 79 0) 165 80 0) 164 20 0) 164 23 0) 164 16 0) 166 0 0) 166 1 0 165 j = Me 165 j := fun j h1 h2 h3 => by
    rw [am_wr_k (by omega), am_wr_k (by omega), am_wr_k (by omega), am_wr_k (by omega), am_wr_k (by omega), am_wr_i h3, am_wr_i h2, am_wr_i h1]
  have e164 : ∀ j, j ≠ 16 → j ≠ 20 → j ≠ 23 → am_wr (am_wr (am_wr (am_wr (am_wr (am_wr (am_wr (am_wr Me 165 78 0) 165 79 0) 165 80 0) 164 20 0) 164 23 0) 164 16 0) 166 0 0) 166 1 0 164 j = Md 164 j := fun j h1 h2 h3 => by
    rw [am_wr_k (by omega), am_wr_k (by omega), am_wr_i h1, am_wr_i h3, am_wr_i h2, am_wr_k (by omega), am_wr_k (by omega), am_wr_k (by omega), e3.1 164 (by omega) (by omega) (by omega) (by omega)]
  have ek : ∀ k, k ≠ 164 → k ≠ 165 → k ≠ 166 → ∀ j, am_wr (am_wr (am_wr (am_wr (am_wr (am_wr (am_wr (am_wr Me 165 78 0) 165 79 0) 165 80 0) 164 20 0) 164 23 0) 164 16 0) 166 0 0) 166 1 0 k j = Me k j := fun k h1 h2 h3 j => by
    rw [am_wr_k h3, am_wr_k h3, am_wr_k h1, am_wr_k h1, am_wr_k h1, am_wr_k h2, am_wr_k h2, am_wr_k h2]
  have tk : am_call 119 [am_r 164] S (am_wr Ma 164 11 0) = some (none, S, am_wr (am_wr (am_wr (am_wr (am_wr (am_wr (am_wr (am_wr Me 165 78 0) 165 79 0) 165 80 0) 164 20 0) 164 23 0) 164 16 0) 166 0 0) 166 1 0) := by
    simp (disch := omega) only [c_Mo_take, b_Mo_take_0, mo0, mr0, mr1, mr2, mr3, mr4, mr5, mr6, mr7, mr8, mr9, mr10, mr11, mk0, mk1, mk2, mk3, mk4, mk5, mk6, mk7, mk8, mk9, mk10, mk11, n7, n9, c1, b_Mo_take_45, d1, b_Mo_take_69, e1, b_Mo_take_191, am_ck_T, am_ck_t, am_cif_t, am_cif_f, am_cif_T, am_cif_F, am_then_s, am_push_s, am_push_n, true_and, and_true, true_or, or_true, Int.cast_ofNat_Int, am_02, am_22, not_true_eq_false, not_false_eq_true]
  refine ⟨am_wr (am_wr (am_wr (am_wr (am_wr (am_wr (am_wr (am_wr Me 165 78 0) 165 79 0) 165 80 0) 164 20 0) 164 23 0) 164 16 0) 166 0 0) 166 1 0, ?_, ?_, ?_⟩
  · simp (disch := omega) only [a1, b_Mo_town_89, b_Mo_town_109, b_Mo_town_113, mo0, mr0, mr1, mr2, mr3, mr4, mr5, mr6, mr7, mr8, mr9, mr10, mr11, mk0, mk1, mk2, mk3, mk4, mk5, mk6, mk7, mk8, mk9, mk10, mk11, n1, tk, m6, am_ck_T, am_ck_t, am_cif_t, am_cif_f, am_cif_T, am_cif_F, am_then_s, am_push_s, am_push_n, true_and, and_true, true_or, or_true, Int.cast_ofNat_Int, am_02, am_22, not_true_eq_false, not_false_eq_true]
  · refine ⟨⟨m6, (e164 8 (by omega) (by omega) (by omega)).trans md8, fun l l1 l2 => ⟨(ek 169 (by omega) (by omega) (by omega) l).trans (e2 l l1 l2).1, (ek 170 (by omega) (by omega) (by omega) l).trans (e2 l l1 l2).2.1⟩, fun l k l1 l2 k1 k2 => (ek 168 (by omega) (by omega) (by omega) _).trans ((e2 l l1 l2).2.2.2 k k1 k2)⟩, ⟨fun p q p1 p2 q1 q2 => ?_, fun p p1 p2 => ?_, fun l l1 l2 => ?_, ?_, ?_, ?_⟩, ⟨?_, fun k q hq => nil_no hq⟩, ?_, am_wr_s, ⟨?_, fun k q hq => nil_no hq⟩, ⟨?_, fun k q hq => nil_no hq⟩, ⟨(e164 11 (by omega) (by omega) (by omega)).trans md11, fun k q hq => nil_no hq⟩, ?_, ?_⟩
    · have p2' : p < vnp D.1 := p2
      have q2' : q < vnp D.1 := q2
      rw [e165 _ (by omega) (by omega) (by omega), e3.2.1 _ (by omega), d3 _ (by omega), c2 _ (by omega) (by omega), am_wr_k (by omega), am_wr_k (by omega), am_wr_k (by omega), show 64 + (0 + 8 * p + q) = 64 + 8 * p + q by omega]
      exact cd.2.2.2.2 p q p1 p2 q1 q2
    · have p2' : p < vnp D.1 := p2
      rw [e165 _ (by omega) (by omega) (by omega), e3.2.1 _ (by omega), show (0 : Int) + 64 + p = 64 + p by omega]
      exact d2 p p1 (by omega)
    · have l2' : l < vnl D.1 := l2
      rw [e165 _ (by omega) (by omega) (by omega), show (0 : Int) + 72 + l = 72 + l by omega]
      exact (e2 l l1 l2).2.2.1
    · show am_wr (am_wr (am_wr (am_wr (am_wr (am_wr (am_wr (am_wr Me 165 78 0) 165 79 0) 165 80 0) 164 20 0) 164 23 0) 164 16 0) 166 0 0) 166 1 0 165 78 = 0
      rw [am_wr_k (by omega), am_wr_k (by omega), am_wr_k (by omega), am_wr_k (by omega), am_wr_k (by omega), am_wr_i (by omega), am_wr_i (by omega), am_wr_s]
    · show am_wr (am_wr (am_wr (am_wr (am_wr (am_wr (am_wr (am_wr Me 165 78 0) 165 79 0) 165 80 0) 164 20 0) 164 23 0) 164 16 0) 166 0 0) 166 1 0 165 80 = 0
      rw [am_wr_k (by omega), am_wr_k (by omega), am_wr_k (by omega), am_wr_k (by omega), am_wr_k (by omega), am_wr_s]
    · show am_wr (am_wr (am_wr (am_wr (am_wr (am_wr (am_wr (am_wr Me 165 78 0) 165 79 0) 165 80 0) 164 20 0) 164 23 0) 164 16 0) 166 0 0) 166 1 0 165 79 = 0
      rw [am_wr_k (by omega), am_wr_k (by omega), am_wr_k (by omega), am_wr_k (by omega), am_wr_k (by omega), am_wr_i (by omega), am_wr_s]
    · rw [am_wr_k (by omega), am_wr_k (by omega), am_wr_s]; rfl
    · show am_wr (am_wr (am_wr (am_wr (am_wr (am_wr (am_wr (am_wr Me 165 78 0) 165 79 0) 165 80 0) 164 20 0) 164 23 0) 164 16 0) 166 0 0) 166 1 0 166 0 = 0
      rw [am_wr_i (by omega), am_wr_s]
    · rw [am_wr_k (by omega), am_wr_k (by omega), am_wr_i (by omega), am_wr_i (by omega), am_wr_s]; rfl
    · rw [am_wr_k (by omega), am_wr_k (by omega), am_wr_i (by omega), am_wr_s]; rfl
    · exact (e164 15 (by omega) (by omega) (by omega)).trans ((k164 15 (by omega) (by omega) (by omega)).trans g.2.2)
    · rw [e165 81 (by omega) (by omega) (by omega), e3.2.1 _ (by omega), d3 _ (by omega), c3 _ (by omega), am_wr_k (by omega), am_wr_k (by omega), am_wr_k (by omega), a2.1 165 (by omega) (by omega) (by omega) (by omega) (by omega)]
      exact c.2.2.2.2.2.2.2.2.2
  · intro k hk j
    rw [ek k (by omega) (by omega) (by omega), e3.1 k (by omega) (by omega) (by omega) (by omega), kd k (by omega) (by omega), a2.1 k (by omega) (by omega) (by omega) (by omega) (by omega)]
theorem p_town (hS : ly S) : Pr S 65 118 [] := by
  intro B X h0 h1 ok
  have ok0 := ok
  obtain ⟨a1, a2, a3, a4, a5, a6, a7, a8, a9, a10, a11⟩ := ok0
  have ln := a9.1
  have s := sc_ok (T := tx (xT X)) (L := ((xT X).length : Int)) 200 (tb (tx (xT X)) ((xT X).length : Int) 0) vD0 okD0 (by have := tb_rng (T := tx (xT X)) (show (0 : Int) ≤ ((xT X).length : Int) by omega); omega) (by have := tb_rng (T := tx (xT X)) (show (0 : Int) ≤ ((xT X).length : Int) by omega); omega)
  generalize hr : sc (tx (xT X)) ((xT X).length : Int) 200 (tb (tx (xT X)) ((xT X).length : Int) 0) vD0 = r at s
  match r, hr, s with
  | Sum.inl f, hr, s =>
    have s' : okF ((xT X).length : Int) f := s
    obtain ⟨f1, f2, f3, f4⟩ := s'
    have okx : okX B (vXf X f) := ⟨a1, a2, a3, a4, a5, a6, a7, a8, ⟨by show (0 : Nat) ≤ 200; omega, fun q hq => absurd hq (by show ¬ q ∈ ([] : List Int); exact List.not_mem_nil)⟩, ⟨by show -1 ≤ f.2; omega, by show f.2 ≤ 200; omega⟩, a11⟩
    exact ⟨-10 - f.1, vXf X f, ⟨by omega, by omega⟩, okX_B okx (by omega), fun M c => k_town_f hS ok c hr s, fun M c => m_town_f hS ok c hr⟩
  | Sum.inr D, hr, s =>
    have s' : okD D := s
    have hP := s'.1
    have hP1 := hP.1
    have hP2 := hP.2.1
    have hP3 := hP.2.2.1
    have hP4 := hP.2.2.2.1
    have okx : okX B (vXt X D) := ⟨s'.1, okR_0 s' h0, fun q hq => absurd hq (by show ¬ q ∈ ([] : List vR); exact List.not_mem_nil), by show (0 : Nat) ≤ 30; omega, fun q hq => (by have hq' : (none : Option (vR × Int)) = some q := hq; cases hq'), fun q hq => (by have hq' : (none : Option (vR × Int)) = some q := hq; cases hq'), ⟨by show (0 : Nat) ≤ 6; omega, fun q hq => absurd hq (by show ¬ q ∈ ([] : List (Int × Int)); exact List.not_mem_nil)⟩, ⟨by show (0 : Nat) ≤ 20; omega, fun q hq => absurd hq (by show ¬ q ∈ ([] : List (Int × Int)); exact List.not_mem_nil)⟩, ⟨by show (0 : Nat) ≤ 200; omega, fun q hq => absurd hq (by show ¬ q ∈ ([] : List Int); exact List.not_mem_nil)⟩, ⟨by show (-1 : Int) ≤ -1; omega, by show (-1 : Int) ≤ 200; omega⟩, a11⟩
    exact ⟨vnp D.1, vXt X D, ⟨by omega, by omega⟩, okX_B okx (by omega), fun M c => k_town_t hS ok c hr s', fun M c => m_town_t hS ok c hr s'⟩
end MTOWN
