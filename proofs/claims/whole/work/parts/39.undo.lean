/-! remembering and undoing -/
/-- only w from 328 on changes, and the count -/
def fz (M M1 : am_M) : Prop := (∀ k, k ≠ 165 → ∀ j, ¬ (k = 164 ∧ j = 16) → M1 k j = M k j) ∧ ∀ j, j < 328 → M1 165 j = M 165 j
section UNDO
variable {S : am_S} {M M1 : am_M} {X : vX} {B : Int}
theorem MX_fz {Hs : List vR} (hP : okP (xP X)) (c : MX X M) (h : fz M M1) (mh : mH (xP X) Hs M1) : MX (xP X, xR X, Hs, X.2.2.2) M1 := by
  obtain ⟨a1, a2, a3, a4, a5, a6, a7, a8, a9, a10⟩ := c
  refine ⟨⟨(h.1 164 (by omega) 6 (by omega)).trans a1.1, (h.1 164 (by omega) 8 (by omega)).trans a1.2.1, fun l u v => ⟨(h.1 169 (by omega) l (by omega)).trans (a1.2.2.1 l u v).1, (h.1 170 (by omega) l (by omega)).trans (a1.2.2.1 l u v).2⟩, fun l k u v w z => (h.1 168 (by omega) _ (by omega)).trans (a1.2.2.2 l k u v w z)⟩, mR_fr hP (fun j _ _ => h.2 j (by omega)) a2, mh, mI_fr hP (fun j => h.1 166 (by omega) j (by omega)) (fun j _ _ => h.2 j (by omega)) a4, mI_fr hP (fun j => h.1 166 (by omega) j (by omega)) (fun j _ _ => h.2 j (by omega)) a5, ?_, ?_, ?_, (h.1 164 (by omega) 15 (by omega)).trans a9, (h.2 81 (by omega)).trans a10⟩
  · exact ⟨(h.1 164 (by omega) 20 (by omega)).trans a6.1, fun k q hq => ⟨(h.1 173 (by omega) _ (by omega)).trans (a6.2 k q hq).1, (h.1 174 (by omega) _ (by omega)).trans (a6.2 k q hq).2⟩⟩
  · exact ⟨(h.1 164 (by omega) 23 (by omega)).trans a7.1, fun k q hq => ⟨(h.1 175 (by omega) _ (by omega)).trans (a7.2 k q hq).1, (h.1 176 (by omega) _ (by omega)).trans (a7.2 k q hq).2⟩⟩
  · exact ⟨(h.1 164 (by omega) 11 (by omega)).trans a8.1, fun k q hq => (h.1 171 (by omega) _ (by omega)).trans (a8.2 k q hq)⟩
theorem m_remember (hS : ly S) (ok : okX B X) (c : MX X M) : ∃ M1, am_call 136 [am_r 164] S M = some (none, S, M1) ∧ MX (xP X, xR X, vrem (xH X) (xR X), X.2.2.2) M1 ∧ fr 164 165 M M1 := by
  obtain ⟨mo0, ⟨mr0, mr1, mr2, mr3, mr4, mr5, mr6, mr7, mr8, mr9, mr10, mr11⟩, mk0, mk1, mk2, mk3, mk4, mk5, mk6, mk7, mk8, mk9, mk10, mk11⟩ := hS.2.2.2.2.2.2.2.2.2.2
  have hP := ok.1
  have hl := ok.2.2.2.1
  have n3 := c.2.2.1.1
  have n4 := c.2.2.1.2
  -- the last copy, from a state in which the first n rows stand
  have last : ∀ (n : Nat) (M' : am_M) (Hs : List vR) (o : Option am_V), n < 30 → Hs.length = n → M' 164 16 = (n : Int) → mR (xP X) (xR X) 0 M' → (∀ (k : Nat) (q : vR), Hs[k]? = some q → mR (xP X) q (328 + 82 * (k : Int)) M') → ∃ M1, am_R 136 55 [some (am_r 164), o] [] S M' = some (none, S, M1) ∧ mH (xP X) (Hs ++ [xR X]) M1 ∧ fz M' M1 := by
    intro n M' Hs o hn hlen h16 hr hh
    obtain ⟨M1, d1, d2, d3⟩ := m_copy (M := M') (S := S) hS (x := 0) (y := 328 + 82 * (n : Int)) (by omega) (by omega) (by omega)
    have m1 : M1 164 16 = (n : Int) := (d3.1 164 (by omega) 16).trans h16
    refine ⟨am_wr M1 164 16 ((n : Int) + 1), ?_, ⟨?_, fun k q hq => ?_⟩, ?_⟩
    · simp (disch := omega) only [b_Mo_remember_55, b_Mo_remember_71, mo0, mr0, mr1, mr2, mr3, mr4, mr5, mr6, mr7, mr8, mr9, mr10, mr11, mk0, mk1, mk2, mk3, mk4, mk5, mk6, mk7, mk8, mk9, mk10, mk11, h16, d1, m1, am_ck_T, am_ck_t, am_cif_t, am_cif_f, am_cif_T, am_cif_F, am_then_s, am_push_s, am_push_n, true_and, and_true, true_or, or_true, Int.cast_ofNat_Int, am_02, am_22, not_true_eq_false, not_false_eq_true]
    · rw [am_wr_s, List.length_append, List.length_singleton, hlen]; omega
    · refine mR_fr hP (fun j _ _ => am_wr_k (by omega)) (?_ : mR (xP X) q (328 + 82 * (k : Int)) M1)
      by_cases hk : k < Hs.length
      · rw [List.getElem?_append_left hk] at hq
        exact mR_fr hP (fun j _ _ => d3.2 j (by omega)) (hh k q hq)
      · rw [List.getElem?_append_right (by omega)] at hq
        have hk2 : k = Hs.length := by
          have := (List.getElem?_eq_some_iff.mp hq).1
          rw [List.length_singleton] at this
          omega
        subst hk2
        rw [Nat.sub_self] at hq
        cases hq
        rw [hlen]
        exact mR_copy hP d2 hr
    · refine ⟨fun k hk j hj => ?_, fun j hj => ?_⟩
      · by_cases h164 : k = 164
        · subst h164
          rw [am_wr_i (by omega)]; exact d3.1 164 (by omega) j
        · rw [am_wr_k h164]; exact d3.1 k (by omega) j
      · rw [am_wr_k (by omega)]; exact d3.2 j (by omega)
  by_cases h30 : (xH X).length = 30
  · have shift : ∀ (n : Nat) (i : Nat) (M' : am_M), 1 ≤ i → i + n = 30 → (∀ (k : Nat) (q : vR), k + 1 < i → (xH X)[k + 1]? = some q → mR (xP X) q (328 + 82 * (k : Int)) M') → (∀ (k : Nat) (q : vR), i ≤ k → (xH X)[k]? = some q → mR (xP X) q (328 + 82 * (k : Int)) M') → ∃ M1, am_R 136 11 [some (am_r 164), some (am_i (i : Int))] [] S M' = am_R 136 45 [some (am_r 164), some (am_i 30)] [] S M1 ∧ (∀ (k : Nat) (q : vR), k + 1 < 30 → (xH X)[k + 1]? = some q → mR (xP X) q (328 + 82 * (k : Int)) M1) ∧ fr 165 165 M' M1 ∧ (∀ j, j < 328 → M1 165 j = M' 165 j) := by
      intro n
      induction n with
      | zero =>
        intro i M' hi hn h1 h2
        obtain rfl : i = 30 := by omega
        refine ⟨M', ?_, h1, fr_rf, fun _ _ => rfl⟩
        rw [b_Mo_remember_11]
        simp (disch := omega) only [am_ck_T, am_ck_t, am_cif_t, am_cif_f, am_cif_T, am_cif_F, am_then_s, am_push_s, am_push_n, true_and, and_true, true_or, or_true, Int.cast_ofNat_Int, am_02, am_22, not_true_eq_false, not_false_eq_true]
      | succ n ih =>
        intro i M' hi hn h1 h2
        obtain ⟨M1, d1, d2, d3⟩ := m_copy (M := M') (S := S) hS (x := 328 + 82 * (i : Int)) (y := 328 + 82 * ((i : Int) - 1)) (by omega) (by omega) (by omega)
        have g1 : ∀ (k : Nat) (q : vR), k + 1 < i + 1 → (xH X)[k + 1]? = some q → mR (xP X) q (328 + 82 * (k : Int)) M1 := by
          intro k q hk hq
          by_cases hk2 : k + 1 = i
          · subst hk2
            have t := h2 (k + 1) q (by omega) hq
            have e1 : (((k + 1 : Nat) : Int) - 1) = (k : Int) := by omega
            rw [e1] at d2
            exact mR_copy hP d2 t
          · exact mR_fr hP (fun j _ _ => d3.2 j (by omega)) (h1 k q (by omega) hq)
        have g2 : ∀ (k : Nat) (q : vR), i + 1 ≤ k → (xH X)[k]? = some q → mR (xP X) q (328 + 82 * (k : Int)) M1 := fun k q hk hq => mR_fr hP (fun j _ _ => d3.2 j (by omega)) (h2 k q (by omega) hq)
        obtain ⟨M2, f1, f2, f3, f4⟩ := ih (i + 1) M1 (by omega) (by omega) g1 g2
        refine ⟨M2, ?_, f2, fr_tr d3.1 f3, fun j hj => (f4 j hj).trans (d3.2 j (by omega))⟩
        rw [b_Mo_remember_11]
        have f1' : am_R 136 11 [some (am_r 164), some (am_i ((i : Int) + 1))] [] S M1 = am_R 136 45 [some (am_r 164), some (am_i 30)] [] S M2 := f1
        simp (disch := omega) only [b_Mo_remember_17, b_Mo_remember_39, mo0, mr0, mr1, mr2, mr3, mr4, mr5, mr6, mr7, mr8, mr9, mr10, mr11, mk0, mk1, mk2, mk3, mk4, mk5, mk6, mk7, mk8, mk9, mk10, mk11, d1, f1', am_ck_T, am_ck_t, am_cif_t, am_cif_f, am_cif_T, am_cif_F, am_then_s, am_push_s, am_push_n, true_and, and_true, true_or, or_true, Int.cast_ofNat_Int, am_02, am_22, not_true_eq_false, not_false_eq_true]
    obtain ⟨M1, d1, d2, d3, d4⟩ := shift 29 1 M (by omega) (by omega) (fun k q hk _ => absurd hk (by omega)) (fun k q _ hq => n4 k q hq)
    have m1 : M1 164 16 = 30 := by rw [d3 164 (by omega) 16, n3, h30]; rfl
    obtain ⟨M2, f1, f2, f3⟩ := last 29 (am_wr M1 164 16 29) ((xH X).drop 1) (some (am_i 30)) (by omega) (by rw [List.length_drop]; omega) am_wr_s (mR_fr hP (fun j _ _ => (am_wr_k (by omega)).trans (d4 j (by omega))) c.2.1) (fun k q hq => by
      rw [List.getElem?_drop] at hq
      have hk : 1 + k < (xH X).length := (List.getElem?_eq_some_iff.mp hq).1
      rw [Nat.add_comm] at hq
      exact mR_fr hP (fun j _ _ => am_wr_k (by omega)) (d2 k q (by omega) hq))
    have fzz : fz M M2 := by
      refine ⟨fun k hk j hj => ?_, fun j hj => ?_⟩
      · rw [f3.1 k hk j hj]
        by_cases h164 : k = 164
        · subst h164
          rw [am_wr_i (by omega)]; exact d3 164 (by omega) j
        · rw [am_wr_k h164]; exact d3 k (by omega) j
      · rw [f3.2 j hj, am_wr_k (by omega)]; exact d4 j hj
    refine ⟨M2, ?_, ?_, fun k hk j => fzz.1 k (by omega) j (by omega)⟩
    · have n3' : M 164 16 = 30 := by rw [n3, h30]; rfl
      have d1' : am_R 136 11 [some (am_r 164), some (am_i 1)] [] S M = am_R 136 45 [some (am_r 164), some (am_i 30)] [] S M1 := d1
      simp (disch := omega) only [c_Mo_remember, b_Mo_remember_0, b_Mo_remember_9, d1', b_Mo_remember_45, mo0, mr0, mr1, mr2, mr3, mr4, mr5, mr6, mr7, mr8, mr9, mr10, mr11, mk0, mk1, mk2, mk3, mk4, mk5, mk6, mk7, mk8, mk9, mk10, mk11, n3', m1, Int.reduceSub, f1, am_ck_T, am_ck_t, am_cif_t, am_cif_f, am_cif_T, am_cif_F, am_then_s, am_push_s, am_push_n, true_and, and_true, true_or, or_true, Int.cast_ofNat_Int, am_02, am_22, not_true_eq_false, not_false_eq_true]
    · unfold vrem
      rw [if_pos h30]
      exact MX_fz hP c fzz f2
  · obtain ⟨M2, f1, f2, f3⟩ := last (xH X).length M (xH X) none (by omega) rfl n3 c.2.1 n4
    refine ⟨M2, ?_, ?_, fun k hk j => f3.1 k (by omega) j (by omega)⟩
    · have h30' : ¬ ((xH X).length : Int) = 30 := by omega
      simp (disch := omega) only [c_Mo_remember, b_Mo_remember_0, mo0, mr0, mr1, mr2, mr3, mr4, mr5, mr6, mr7, mr8, mr9, mr10, mr11, mk0, mk1, mk2, mk3, mk4, mk5, mk6, mk7, mk8, mk9, mk10, mk11, n3, f1, am_ck_T, am_ck_t, am_cif_t, am_cif_f, am_cif_T, am_cif_F, am_then_s, am_push_s, am_push_n, true_and, and_true, true_or, or_true, Int.cast_ofNat_Int, am_02, am_22, not_true_eq_false, not_false_eq_true]
    · unfold vrem
      rw [if_neg h30]
      exact MX_fz hP c f3 f2
end UNDO
