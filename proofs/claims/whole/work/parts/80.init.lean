/-! the constructors -/
theorem nw_n {S : am_S} {kd : Nat × Nat} {c : Nat} : am_n (am_new S kd c) = am_n S + 1 := rfl
theorem nw_s {S : am_S} {kd : Nat × Nat} {c : Nat} : am_sl (am_new S kd c) = am_sl S + c := rfl
theorem nw_1 {S : am_S} {kd : Nat × Nat} {c : Nat} : (am_new S kd c).1 = S.1 := rfl
theorem st_n {S : am_S} {k : Nat} {j : Int} {v : Nat} : am_n (am_set S k j v) = am_n S := rfl
theorem st_s {S : am_S} {k : Nat} {j : Int} {v : Nat} : am_sl (am_set S k j v) = am_sl S := rfl
theorem st_1 {S : am_S} {k : Nat} {j : Int} {v : Nat} : (am_set S k j v).1 = S.1 := rfl
theorem st_k {S : am_S} {k q : Nat} {j : Int} {v : Nat} : am_kd (am_set S k j v) q = am_kd S q := rfl
theorem nw_k {S : am_S} {kd : Nat × Nat} {c q : Nat} (h : q ≠ am_n S + 1) : am_kd (am_new S kd c) q = am_kd S q := by
  show (if 0 < q ∧ q ≤ am_n S + 1 then (if q = am_n S + 1 then kd else S.2.2.1 q) else (9, 0)) = (if 0 < q ∧ q ≤ am_n S then S.2.2.1 q else (9, 0))
  rw [if_neg h]
  by_cases h2 : 0 < q ∧ q ≤ am_n S
  · rw [if_pos h2, if_pos (by omega)]
  · rw [if_neg h2, if_neg (by omega)]
theorem nw_ks {S : am_S} {kd : Nat × Nat} {c q : Nat} (h : q = am_n S + 1) : am_kd (am_new S kd c) q = kd := by
  show (if 0 < q ∧ q ≤ am_n S + 1 then (if q = am_n S + 1 then kd else S.2.2.1 q) else (9, 0)) = kd
  rw [if_pos h, if_pos (by omega)]
theorem nw_r {S : am_S} {kd : Nat × Nat} {c q : Nat} {j : Int} (h : q ≠ am_n S + 1) : am_rf (am_new S kd c) q j = am_rf S q j := if_neg h
theorem st_rs {S : am_S} {k : Nat} {j : Int} {v : Nat} : am_rf (am_set S k j v) k j = v := if_pos ⟨rfl, rfl⟩
theorem st_rk {S : am_S} {k q : Nat} {i j : Int} {v : Nat} (h : q ≠ k) : am_rf (am_set S k j v) q i = am_rf S q i := if_neg (fun z => h z.1)
theorem st_rj {S : am_S} {k q : Nat} {i j : Int} {v : Nat} (h : i ≠ j) : am_rf (am_set S k j v) q i = am_rf S q i := if_neg (fun z => h z.2)
/-- the cells from 2 on stay -/
def pq (S S1 : am_S) : Prop := am_n S ≤ am_n S1 ∧ ∀ q, 2 ≤ q → q ≤ am_n S → am_kd S1 q = am_kd S q ∧ ∀ j, am_rf S1 q j = am_rf S q j
theorem pq_tr {S S1 S2 : am_S} (h1 : pq S S1) (h2 : pq S1 S2) : pq S S2 := ⟨Nat.le_trans h1.1 h2.1, fun q a b => ⟨(h2.2 q a (Nat.le_trans b h1.1)).1.trans (h1.2 q a b).1, fun j => ((h2.2 q a (Nat.le_trans b h1.1)).2 j).trans ((h1.2 q a b).2 j)⟩⟩
/-- all cells but r stay, k more are made, of c places -/
def ex (S S1 : am_S) (k c r : Nat) : Prop := am_n S1 = am_n S + k ∧ am_sl S1 = am_sl S + c ∧ S1.1 = S.1 ∧ (∀ q, q ≤ am_n S → am_kd S1 q = am_kd S q) ∧ ∀ q j, q ≤ am_n S → q ≠ r → am_rf S1 q j = am_rf S q j
def zh (S : am_S) (M : am_M) : Prop := ∀ k, am_n S < k → ∀ j, M k j = 0
theorem zh_z {S : am_S} {M : am_M} (h : zh S M) {q : Nat} (hq : am_n S < q) : am_zr M q = M := by
  funext k j
  show (if k = q then 0 else M k j) = M k j
  by_cases e : k = q
  · rw [if_pos e, h k (by omega) j]
  · rw [if_neg e]
theorem zh_m {S S1 : am_S} {M : am_M} (h : zh S M) (hn : am_n S ≤ am_n S1) : zh S1 M := fun k hk j => h k (by omega) j
theorem zh_w {S : am_S} {M : am_M} {k : Nat} {j v : Int} (h : zh S M) (hk : k ≤ am_n S) : zh S (am_wr M k j v) := fun q hq i => (am_wr_k (by omega)).trans (h q hq i)
theorem ly_plan_q {S S1 : am_S} (h : pq S S1) (hn : 6 ≤ am_n S) (g : ly_plan S) : ly_plan S1 := by
  obtain ⟨g0, g1, g2, g3, g4, g5, g6, g7, g8⟩ := g
  exact ⟨(h.2 2 (by omega) (by omega)).1.trans g0, ((h.2 2 (by omega) (by omega)).2 2).trans g1, ((h.2 2 (by omega) (by omega)).2 3).trans g2, ((h.2 2 (by omega) (by omega)).2 4).trans g3, ((h.2 2 (by omega) (by omega)).2 5).trans g4, (h.2 3 (by omega) (by omega)).1.trans g5, (h.2 4 (by omega) (by omega)).1.trans g6, (h.2 5 (by omega) (by omega)).1.trans g7, (h.2 6 (by omega) (by omega)).1.trans g8⟩
theorem ly_draft_q {S S1 : am_S} (h : pq S S1) (hn : 12 ≤ am_n S) (g : ly_draft S) : ly_draft S1 := by
  obtain ⟨g0, g1, g2, g3, g4, g5, g6, g7, g8⟩ := g
  exact ⟨(h.2 8 (by omega) (by omega)).1.trans g0, ((h.2 8 (by omega) (by omega)).2 2).trans g1, ((h.2 8 (by omega) (by omega)).2 3).trans g2, ((h.2 8 (by omega) (by omega)).2 4).trans g3, ((h.2 8 (by omega) (by omega)).2 5).trans g4, (h.2 9 (by omega) (by omega)).1.trans g5, (h.2 10 (by omega) (by omega)).1.trans g6, (h.2 11 (by omega) (by omega)).1.trans g7, (h.2 12 (by omega) (by omega)).1.trans g8⟩
theorem ly_reader_q {S S1 : am_S} (h : pq S S1) (hn : 13 ≤ am_n S) (g : ly_reader S) : ly_reader S1 := by
  obtain ⟨g0, g1, g2, g3⟩ := g
  exact ⟨(h.2 7 (by omega) (by omega)).1.trans g0, ((h.2 7 (by omega) (by omega)).2 0).trans g1, ((h.2 7 (by omega) (by omega)).2 1).trans g2, (h.2 13 (by omega) (by omega)).1.trans g3⟩
theorem ly_walks_q {S S1 : am_S} (h : pq S S1) (hn : 145 ≤ am_n S) (g : ly_walks S) : ly_walks S1 := by
  obtain ⟨g0, g1, g2⟩ := g
  exact ⟨(h.2 144 (by omega) (by omega)).1.trans g0, ((h.2 144 (by omega) (by omega)).2 0).trans g1, (h.2 145 (by omega) (by omega)).1.trans g2⟩
theorem ly_sight_q {S S1 : am_S} (h : pq S S1) (hn : 149 ≤ am_n S) (g : ly_sight S) : ly_sight S1 := by
  obtain ⟨g0, g1, g2, g3, g4, g5, g6, g7⟩ := g
  exact ⟨(h.2 146 (by omega) (by omega)).1.trans g0, ((h.2 146 (by omega) (by omega)).2 0).trans g1, ((h.2 146 (by omega) (by omega)).2 1).trans g2, ((h.2 146 (by omega) (by omega)).2 2).trans g3, ((h.2 146 (by omega) (by omega)).2 3).trans g4, (h.2 147 (by omega) (by omega)).1.trans g5, (h.2 148 (by omega) (by omega)).1.trans g6, (h.2 149 (by omega) (by omega)).1.trans g7⟩
theorem ly_book_q {S S1 : am_S} (h : pq S S1) (hn : 152 ≤ am_n S) (g : ly_book S) : ly_book S1 := by
  obtain ⟨g0, g1, g2, g3, g4⟩ := g
  exact ⟨(h.2 150 (by omega) (by omega)).1.trans g0, ((h.2 150 (by omega) (by omega)).2 0).trans g1, ((h.2 150 (by omega) (by omega)).2 1).trans g2, (h.2 151 (by omega) (by omega)).1.trans g3, (h.2 152 (by omega) (by omega)).1.trans g4⟩
theorem ly_image_q {S S1 : am_S} (h : pq S S1) (hn : 163 ≤ am_n S) (g : ly_image S) : ly_image S1 := by
  obtain ⟨g0, g1, g2, g3, g4, g5, g6⟩ := g
  exact ⟨(h.2 153 (by omega) (by omega)).1.trans g0, ((h.2 153 (by omega) (by omega)).2 0).trans g1, ((h.2 153 (by omega) (by omega)).2 1).trans g2, (h.2 154 (by omega) (by omega)).1.trans g3, ((h.2 154 (by omega) (by omega)).2 0).trans g4, (h.2 159 (by omega) (by omega)).1.trans g5, ((h.2 159 (by omega) (by omega)).2 0).trans g6⟩
theorem ly_life_q {S S1 : am_S} {b : Nat} (h : pq S S1) (hb : 2 ≤ b) (hn : b + 3 ≤ am_n S) (g : ly_life S b) : ly_life S1 b := by
  obtain ⟨g0, g1, g2, g3, g4, g5, g6, g7⟩ := g
  exact ⟨(h.2 b (by omega) (by omega)).1.trans g0, ((h.2 b (by omega) (by omega)).2 0).trans g1, ((h.2 b (by omega) (by omega)).2 1).trans g2, ((h.2 b (by omega) (by omega)).2 2).trans g3, ((h.2 b (by omega) (by omega)).2 3).trans g4, (h.2 (b + 1) (by omega) (by omega)).1.trans g5, (h.2 (b + 2) (by omega) (by omega)).1.trans g6, (h.2 (b + 3) (by omega) (by omega)).1.trans g7⟩
section INIT
variable {S : am_S} {M : am_M}
theorem i_life {r r1 : Nat} (h1 : 0 < r) (h2 : r ≤ am_n S) (h3 : 0 < r1) (hk : am_kd S r = (4, 3)) (z : zh S M) : ∃ S1, am_call 9 [am_r r, am_r r1] S M = some (none, S1, M) ∧ ex S S1 3 78 r ∧ am_rf S1 r 0 = r1 ∧ am_rf S1 r 1 = am_n S + 1 ∧ am_rf S1 r 2 = am_n S + 2 ∧ am_rf S1 r 3 = am_n S + 3 ∧ am_kd S1 (am_n S + 1) = (0, 64) ∧ am_kd S1 (am_n S + 2) = (0, 8) ∧ am_kd S1 (am_n S + 3) = (0, 6) := by
  have zz : ∀ q, am_n S < q → am_zr M q = M := fun q hq => zh_z z hq
  refine ⟨am_set (am_set (am_new (am_set (am_new (am_set (am_new S (0, 64) 64) r 1 (am_n S + 1)) (0, 8) 8) r 2 (am_n S + 1 + 1)) (0, 6) 6) r 3 (am_n S + 1 + 1 + 1)) r 0 r1, ?_, ⟨rfl, rfl, rfl, fun q hq => ?_, fun q j hq hr => ?_⟩, ?_, ?_, ?_, ?_, ?_, ?_, ?_⟩
  · simp (disch := first | omega | (simp only [nw_n, st_n]; omega) | fail) only [c_Li_init, b_Li_init_0, b_Li_init_9, b_Li_init_12, b_Li_init_17, b_Li_init_20, b_Li_init_25, b_Li_init_28, b_Li_init_33, hk, zz, nw_n, st_n, st_k, nw_k, nw_ks, nw_r, st_rs, st_rk, st_rj, am_ck_T, am_ck_t, am_cif_t, am_cif_f, am_cif_T, am_cif_F, am_then_s, am_push_s, am_push_n, true_and, and_true, true_or, or_true, Int.cast_ofNat_Int, am_02, am_22, not_true_eq_false, not_false_eq_true]
  · first | (simp (disch := first | omega | (simp only [nw_n, st_n]; omega) | fail) only [nw_n, st_n, st_k, nw_k, nw_ks, nw_r, st_rs, st_rk, st_rj]; done) | (simp (disch := first | omega | (simp only [nw_n, st_n]; omega) | fail) only [nw_n, st_n, st_k, nw_k, nw_ks, nw_r, st_rs, st_rk, st_rj]; exact nw_ks rfl)
  · first | (simp (disch := first | omega | (simp only [nw_n, st_n]; omega) | fail) only [nw_n, st_n, st_k, nw_k, nw_ks, nw_r, st_rs, st_rk, st_rj]; done) | (simp (disch := first | omega | (simp only [nw_n, st_n]; omega) | fail) only [nw_n, st_n, st_k, nw_k, nw_ks, nw_r, st_rs, st_rk, st_rj]; exact nw_ks rfl)
  · first | (simp (disch := first | omega | (simp only [nw_n, st_n]; omega) | fail) only [nw_n, st_n, st_k, nw_k, nw_ks, nw_r, st_rs, st_rk, st_rj]; done) | (simp (disch := first | omega | (simp only [nw_n, st_n]; omega) | fail) only [nw_n, st_n, st_k, nw_k, nw_ks, nw_r, st_rs, st_rk, st_rj]; exact nw_ks rfl)
  · first | (simp (disch := first | omega | (simp only [nw_n, st_n]; omega) | fail) only [nw_n, st_n, st_k, nw_k, nw_ks, nw_r, st_rs, st_rk, st_rj]; done) | (simp (disch := first | omega | (simp only [nw_n, st_n]; omega) | fail) only [nw_n, st_n, st_k, nw_k, nw_ks, nw_r, st_rs, st_rk, st_rj]; exact nw_ks rfl)
  · first | (simp (disch := first | omega | (simp only [nw_n, st_n]; omega) | fail) only [nw_n, st_n, st_k, nw_k, nw_ks, nw_r, st_rs, st_rk, st_rj]; done) | (simp (disch := first | omega | (simp only [nw_n, st_n]; omega) | fail) only [nw_n, st_n, st_k, nw_k, nw_ks, nw_r, st_rs, st_rk, st_rj]; exact nw_ks rfl)
  · first | (simp (disch := first | omega | (simp only [nw_n, st_n]; omega) | fail) only [nw_n, st_n, st_k, nw_k, nw_ks, nw_r, st_rs, st_rk, st_rj]; done) | (simp (disch := first | omega | (simp only [nw_n, st_n]; omega) | fail) only [nw_n, st_n, st_k, nw_k, nw_ks, nw_r, st_rs, st_rk, st_rj]; exact nw_ks rfl)
  · first | (simp (disch := first | omega | (simp only [nw_n, st_n]; omega) | fail) only [nw_n, st_n, st_k, nw_k, nw_ks, nw_r, st_rs, st_rk, st_rj]; done) | (simp (disch := first | omega | (simp only [nw_n, st_n]; omega) | fail) only [nw_n, st_n, st_k, nw_k, nw_ks, nw_r, st_rs, st_rk, st_rj]; exact nw_ks rfl)
  · first | (simp (disch := first | omega | (simp only [nw_n, st_n]; omega) | fail) only [nw_n, st_n, st_k, nw_k, nw_ks, nw_r, st_rs, st_rk, st_rj]; done) | (simp (disch := first | omega | (simp only [nw_n, st_n]; omega) | fail) only [nw_n, st_n, st_k, nw_k, nw_ks, nw_r, st_rs, st_rk, st_rj]; exact nw_ks rfl)
  · first | (simp (disch := first | omega | (simp only [nw_n, st_n]; omega) | fail) only [nw_n, st_n, st_k, nw_k, nw_ks, nw_r, st_rs, st_rk, st_rj]; done) | (simp (disch := first | omega | (simp only [nw_n, st_n]; omega) | fail) only [nw_n, st_n, st_k, nw_k, nw_ks, nw_r, st_rs, st_rk, st_rj]; exact nw_ks rfl)
theorem i_plan {r : Nat} (h1 : 0 < r) (h2 : r ≤ am_n S) (hk : am_kd S r = (4, 4)) (z : zh S M) : ∃ S1, am_call 29 [am_r r] S M = some (none, S1, M) ∧ ex S S1 4 112 r ∧ am_rf S1 r 2 = am_n S + 1 ∧ am_rf S1 r 3 = am_n S + 2 ∧ am_rf S1 r 4 = am_n S + 3 ∧ am_rf S1 r 5 = am_n S + 4 ∧ am_kd S1 (am_n S + 1) = (0, 64) ∧ am_kd S1 (am_n S + 2) = (0, 6) ∧ am_kd S1 (am_n S + 3) = (0, 6) ∧ am_kd S1 (am_n S + 4) = (0, 36) := by
  have zz : ∀ q, am_n S < q → am_zr M q = M := fun q hq => zh_z z hq
  refine ⟨am_set (am_new (am_set (am_new (am_set (am_new (am_set (am_new S (0, 64) 64) r 2 (am_n S + 1)) (0, 6) 6) r 3 (am_n S + 1 + 1)) (0, 6) 6) r 4 (am_n S + 1 + 1 + 1)) (0, 36) 36) r 5 (am_n S + 1 + 1 + 1 + 1), ?_, ⟨rfl, rfl, rfl, fun q hq => ?_, fun q j hq hr => ?_⟩, ?_, ?_, ?_, ?_, ?_, ?_, ?_, ?_⟩
  · simp (disch := first | omega | (simp only [nw_n, st_n]; omega) | fail) only [c_Pl_init, b_Pl_init_0, b_Pl_init_9, b_Pl_init_12, b_Pl_init_17, b_Pl_init_20, b_Pl_init_25, b_Pl_init_28, b_Pl_init_33, b_Pl_init_36, hk, zz, nw_n, st_n, st_k, nw_k, nw_ks, nw_r, st_rs, st_rk, st_rj, am_ck_T, am_ck_t, am_cif_t, am_cif_f, am_cif_T, am_cif_F, am_then_s, am_push_s, am_push_n, true_and, and_true, true_or, or_true, Int.cast_ofNat_Int, am_02, am_22, not_true_eq_false, not_false_eq_true]
  · first | (simp (disch := first | omega | (simp only [nw_n, st_n]; omega) | fail) only [nw_n, st_n, st_k, nw_k, nw_ks, nw_r, st_rs, st_rk, st_rj]; done) | (simp (disch := first | omega | (simp only [nw_n, st_n]; omega) | fail) only [nw_n, st_n, st_k, nw_k, nw_ks, nw_r, st_rs, st_rk, st_rj]; exact nw_ks rfl)
  · first | (simp (disch := first | omega | (simp only [nw_n, st_n]; omega) | fail) only [nw_n, st_n, st_k, nw_k, nw_ks, nw_r, st_rs, st_rk, st_rj]; done) | (simp (disch := first | omega | (simp only [nw_n, st_n]; omega) | fail) only [nw_n, st_n, st_k, nw_k, nw_ks, nw_r, st_rs, st_rk, st_rj]; exact nw_ks rfl)
  · first | (simp (disch := first | omega | (simp only [nw_n, st_n]; omega) | fail) only [nw_n, st_n, st_k, nw_k, nw_ks, nw_r, st_rs, st_rk, st_rj]; done) | (simp (disch := first | omega | (simp only [nw_n, st_n]; omega) | fail) only [nw_n, st_n, st_k, nw_k, nw_ks, nw_r, st_rs, st_rk, st_rj]; exact nw_ks rfl)
  · first | (simp (disch := first | omega | (simp only [nw_n, st_n]; omega) | fail) only [nw_n, st_n, st_k, nw_k, nw_ks, nw_r, st_rs, st_rk, st_rj]; done) | (simp (disch := first | omega | (simp only [nw_n, st_n]; omega) | fail) only [nw_n, st_n, st_k, nw_k, nw_ks, nw_r, st_rs, st_rk, st_rj]; exact nw_ks rfl)
  · first | (simp (disch := first | omega | (simp only [nw_n, st_n]; omega) | fail) only [nw_n, st_n, st_k, nw_k, nw_ks, nw_r, st_rs, st_rk, st_rj]; done) | (simp (disch := first | omega | (simp only [nw_n, st_n]; omega) | fail) only [nw_n, st_n, st_k, nw_k, nw_ks, nw_r, st_rs, st_rk, st_rj]; exact nw_ks rfl)
  · first | (simp (disch := first | omega | (simp only [nw_n, st_n]; omega) | fail) only [nw_n, st_n, st_k, nw_k, nw_ks, nw_r, st_rs, st_rk, st_rj]; done) | (simp (disch := first | omega | (simp only [nw_n, st_n]; omega) | fail) only [nw_n, st_n, st_k, nw_k, nw_ks, nw_r, st_rs, st_rk, st_rj]; exact nw_ks rfl)
  · first | (simp (disch := first | omega | (simp only [nw_n, st_n]; omega) | fail) only [nw_n, st_n, st_k, nw_k, nw_ks, nw_r, st_rs, st_rk, st_rj]; done) | (simp (disch := first | omega | (simp only [nw_n, st_n]; omega) | fail) only [nw_n, st_n, st_k, nw_k, nw_ks, nw_r, st_rs, st_rk, st_rj]; exact nw_ks rfl)
  · first | (simp (disch := first | omega | (simp only [nw_n, st_n]; omega) | fail) only [nw_n, st_n, st_k, nw_k, nw_ks, nw_r, st_rs, st_rk, st_rj]; done) | (simp (disch := first | omega | (simp only [nw_n, st_n]; omega) | fail) only [nw_n, st_n, st_k, nw_k, nw_ks, nw_r, st_rs, st_rk, st_rj]; exact nw_ks rfl)
  · first | (simp (disch := first | omega | (simp only [nw_n, st_n]; omega) | fail) only [nw_n, st_n, st_k, nw_k, nw_ks, nw_r, st_rs, st_rk, st_rj]; done) | (simp (disch := first | omega | (simp only [nw_n, st_n]; omega) | fail) only [nw_n, st_n, st_k, nw_k, nw_ks, nw_r, st_rs, st_rk, st_rj]; exact nw_ks rfl)
  · first | (simp (disch := first | omega | (simp only [nw_n, st_n]; omega) | fail) only [nw_n, st_n, st_k, nw_k, nw_ks, nw_r, st_rs, st_rk, st_rj]; done) | (simp (disch := first | omega | (simp only [nw_n, st_n]; omega) | fail) only [nw_n, st_n, st_k, nw_k, nw_ks, nw_r, st_rs, st_rk, st_rj]; exact nw_ks rfl)
theorem i_walks {r : Nat} (h1 : 0 < r) (h2 : r ≤ am_n S) (hk : am_kd S r = (4, 7)) (z : zh S M) : ∃ S1, am_call 54 [am_r r] S M = some (none, S1, M) ∧ ex S S1 1 8 r ∧ am_rf S1 r 0 = am_n S + 1 ∧ am_kd S1 (am_n S + 1) = (0, 8) := by
  have zz : ∀ q, am_n S < q → am_zr M q = M := fun q hq => zh_z z hq
  refine ⟨am_set (am_new S (0, 8) 8) r 0 (am_n S + 1), ?_, ⟨rfl, rfl, rfl, fun q hq => ?_, fun q j hq hr => ?_⟩, ?_, ?_⟩
  · simp (disch := first | omega | (simp only [nw_n, st_n]; omega) | fail) only [c_Wa_init, b_Wa_init_0, b_Wa_init_9, b_Wa_init_12, hk, zz, nw_n, st_n, st_k, nw_k, nw_ks, nw_r, st_rs, st_rk, st_rj, am_ck_T, am_ck_t, am_cif_t, am_cif_f, am_cif_T, am_cif_F, am_then_s, am_push_s, am_push_n, true_and, and_true, true_or, or_true, Int.cast_ofNat_Int, am_02, am_22, not_true_eq_false, not_false_eq_true]
  · first | (simp (disch := first | omega | (simp only [nw_n, st_n]; omega) | fail) only [nw_n, st_n, st_k, nw_k, nw_ks, nw_r, st_rs, st_rk, st_rj]; done) | (simp (disch := first | omega | (simp only [nw_n, st_n]; omega) | fail) only [nw_n, st_n, st_k, nw_k, nw_ks, nw_r, st_rs, st_rk, st_rj]; exact nw_ks rfl)
  · first | (simp (disch := first | omega | (simp only [nw_n, st_n]; omega) | fail) only [nw_n, st_n, st_k, nw_k, nw_ks, nw_r, st_rs, st_rk, st_rj]; done) | (simp (disch := first | omega | (simp only [nw_n, st_n]; omega) | fail) only [nw_n, st_n, st_k, nw_k, nw_ks, nw_r, st_rs, st_rk, st_rj]; exact nw_ks rfl)
  · first | (simp (disch := first | omega | (simp only [nw_n, st_n]; omega) | fail) only [nw_n, st_n, st_k, nw_k, nw_ks, nw_r, st_rs, st_rk, st_rj]; done) | (simp (disch := first | omega | (simp only [nw_n, st_n]; omega) | fail) only [nw_n, st_n, st_k, nw_k, nw_ks, nw_r, st_rs, st_rk, st_rj]; exact nw_ks rfl)
  · first | (simp (disch := first | omega | (simp only [nw_n, st_n]; omega) | fail) only [nw_n, st_n, st_k, nw_k, nw_ks, nw_r, st_rs, st_rk, st_rj]; done) | (simp (disch := first | omega | (simp only [nw_n, st_n]; omega) | fail) only [nw_n, st_n, st_k, nw_k, nw_ks, nw_r, st_rs, st_rk, st_rj]; exact nw_ks rfl)
theorem i_sight {r r1 : Nat} (h1 : 0 < r) (h2 : r ≤ am_n S) (h3 : 0 < r1) (hk : am_kd S r = (4, 6)) (z : zh S M) : ∃ S1, am_call 46 [am_r r, am_r r1] S M = some (none, S1, M) ∧ ex S S1 3 18 r ∧ am_rf S1 r 0 = r1 ∧ am_rf S1 r 1 = am_n S + 1 ∧ am_rf S1 r 2 = am_n S + 2 ∧ am_rf S1 r 3 = am_n S + 3 ∧ am_kd S1 (am_n S + 1) = (0, 6) ∧ am_kd S1 (am_n S + 2) = (0, 6) ∧ am_kd S1 (am_n S + 3) = (0, 6) := by
  have zz : ∀ q, am_n S < q → am_zr M q = M := fun q hq => zh_z z hq
  refine ⟨am_set (am_set (am_new (am_set (am_new (am_set (am_new S (0, 6) 6) r 1 (am_n S + 1)) (0, 6) 6) r 2 (am_n S + 1 + 1)) (0, 6) 6) r 3 (am_n S + 1 + 1 + 1)) r 0 r1, ?_, ⟨rfl, rfl, rfl, fun q hq => ?_, fun q j hq hr => ?_⟩, ?_, ?_, ?_, ?_, ?_, ?_, ?_⟩
  · simp (disch := first | omega | (simp only [nw_n, st_n]; omega) | fail) only [c_Si_init, b_Si_init_0, b_Si_init_9, b_Si_init_12, b_Si_init_17, b_Si_init_20, b_Si_init_25, b_Si_init_28, b_Si_init_33, hk, zz, nw_n, st_n, st_k, nw_k, nw_ks, nw_r, st_rs, st_rk, st_rj, am_ck_T, am_ck_t, am_cif_t, am_cif_f, am_cif_T, am_cif_F, am_then_s, am_push_s, am_push_n, true_and, and_true, true_or, or_true, Int.cast_ofNat_Int, am_02, am_22, not_true_eq_false, not_false_eq_true]
  · first | (simp (disch := first | omega | (simp only [nw_n, st_n]; omega) | fail) only [nw_n, st_n, st_k, nw_k, nw_ks, nw_r, st_rs, st_rk, st_rj]; done) | (simp (disch := first | omega | (simp only [nw_n, st_n]; omega) | fail) only [nw_n, st_n, st_k, nw_k, nw_ks, nw_r, st_rs, st_rk, st_rj]; exact nw_ks rfl)
  · first | (simp (disch := first | omega | (simp only [nw_n, st_n]; omega) | fail) only [nw_n, st_n, st_k, nw_k, nw_ks, nw_r, st_rs, st_rk, st_rj]; done) | (simp (disch := first | omega | (simp only [nw_n, st_n]; omega) | fail) only [nw_n, st_n, st_k, nw_k, nw_ks, nw_r, st_rs, st_rk, st_rj]; exact nw_ks rfl)
  · first | (simp (disch := first | omega | (simp only [nw_n, st_n]; omega) | fail) only [nw_n, st_n, st_k, nw_k, nw_ks, nw_r, st_rs, st_rk, st_rj]; done) | (simp (disch := first | omega | (simp only [nw_n, st_n]; omega) | fail) only [nw_n, st_n, st_k, nw_k, nw_ks, nw_r, st_rs, st_rk, st_rj]; exact nw_ks rfl)
  · first | (simp (disch := first | omega | (simp only [nw_n, st_n]; omega) | fail) only [nw_n, st_n, st_k, nw_k, nw_ks, nw_r, st_rs, st_rk, st_rj]; done) | (simp (disch := first | omega | (simp only [nw_n, st_n]; omega) | fail) only [nw_n, st_n, st_k, nw_k, nw_ks, nw_r, st_rs, st_rk, st_rj]; exact nw_ks rfl)
  · first | (simp (disch := first | omega | (simp only [nw_n, st_n]; omega) | fail) only [nw_n, st_n, st_k, nw_k, nw_ks, nw_r, st_rs, st_rk, st_rj]; done) | (simp (disch := first | omega | (simp only [nw_n, st_n]; omega) | fail) only [nw_n, st_n, st_k, nw_k, nw_ks, nw_r, st_rs, st_rk, st_rj]; exact nw_ks rfl)
  · first | (simp (disch := first | omega | (simp only [nw_n, st_n]; omega) | fail) only [nw_n, st_n, st_k, nw_k, nw_ks, nw_r, st_rs, st_rk, st_rj]; done) | (simp (disch := first | omega | (simp only [nw_n, st_n]; omega) | fail) only [nw_n, st_n, st_k, nw_k, nw_ks, nw_r, st_rs, st_rk, st_rj]; exact nw_ks rfl)
  · first | (simp (disch := first | omega | (simp only [nw_n, st_n]; omega) | fail) only [nw_n, st_n, st_k, nw_k, nw_ks, nw_r, st_rs, st_rk, st_rj]; done) | (simp (disch := first | omega | (simp only [nw_n, st_n]; omega) | fail) only [nw_n, st_n, st_k, nw_k, nw_ks, nw_r, st_rs, st_rk, st_rj]; exact nw_ks rfl)
  · first | (simp (disch := first | omega | (simp only [nw_n, st_n]; omega) | fail) only [nw_n, st_n, st_k, nw_k, nw_ks, nw_r, st_rs, st_rk, st_rj]; done) | (simp (disch := first | omega | (simp only [nw_n, st_n]; omega) | fail) only [nw_n, st_n, st_k, nw_k, nw_ks, nw_r, st_rs, st_rk, st_rj]; exact nw_ks rfl)
  · first | (simp (disch := first | omega | (simp only [nw_n, st_n]; omega) | fail) only [nw_n, st_n, st_k, nw_k, nw_ks, nw_r, st_rs, st_rk, st_rj]; done) | (simp (disch := first | omega | (simp only [nw_n, st_n]; omega) | fail) only [nw_n, st_n, st_k, nw_k, nw_ks, nw_r, st_rs, st_rk, st_rj]; exact nw_ks rfl)
theorem i_book {r : Nat} (h1 : 0 < r) (h2 : r ≤ am_n S) (hk : am_kd S r = (4, 0)) (z : zh S M) : ∃ S1, am_call 0 [am_r r] S M = some (none, S1, M) ∧ ex S S1 2 40 r ∧ am_rf S1 r 0 = am_n S + 1 ∧ am_rf S1 r 1 = am_n S + 2 ∧ am_kd S1 (am_n S + 1) = (0, 20) ∧ am_kd S1 (am_n S + 2) = (0, 20) := by
  have zz : ∀ q, am_n S < q → am_zr M q = M := fun q hq => zh_z z hq
  refine ⟨am_set (am_new (am_set (am_new S (0, 20) 20) r 0 (am_n S + 1)) (0, 20) 20) r 1 (am_n S + 1 + 1), ?_, ⟨rfl, rfl, rfl, fun q hq => ?_, fun q j hq hr => ?_⟩, ?_, ?_, ?_, ?_⟩
  · simp (disch := first | omega | (simp only [nw_n, st_n]; omega) | fail) only [c_Bk_init, b_Bk_init_0, b_Bk_init_9, b_Bk_init_12, b_Bk_init_17, b_Bk_init_20, hk, zz, nw_n, st_n, st_k, nw_k, nw_ks, nw_r, st_rs, st_rk, st_rj, am_ck_T, am_ck_t, am_cif_t, am_cif_f, am_cif_T, am_cif_F, am_then_s, am_push_s, am_push_n, true_and, and_true, true_or, or_true, Int.cast_ofNat_Int, am_02, am_22, not_true_eq_false, not_false_eq_true]
  · first | (simp (disch := first | omega | (simp only [nw_n, st_n]; omega) | fail) only [nw_n, st_n, st_k, nw_k, nw_ks, nw_r, st_rs, st_rk, st_rj]; done) | (simp (disch := first | omega | (simp only [nw_n, st_n]; omega) | fail) only [nw_n, st_n, st_k, nw_k, nw_ks, nw_r, st_rs, st_rk, st_rj]; exact nw_ks rfl)
  · first | (simp (disch := first | omega | (simp only [nw_n, st_n]; omega) | fail) only [nw_n, st_n, st_k, nw_k, nw_ks, nw_r, st_rs, st_rk, st_rj]; done) | (simp (disch := first | omega | (simp only [nw_n, st_n]; omega) | fail) only [nw_n, st_n, st_k, nw_k, nw_ks, nw_r, st_rs, st_rk, st_rj]; exact nw_ks rfl)
  · first | (simp (disch := first | omega | (simp only [nw_n, st_n]; omega) | fail) only [nw_n, st_n, st_k, nw_k, nw_ks, nw_r, st_rs, st_rk, st_rj]; done) | (simp (disch := first | omega | (simp only [nw_n, st_n]; omega) | fail) only [nw_n, st_n, st_k, nw_k, nw_ks, nw_r, st_rs, st_rk, st_rj]; exact nw_ks rfl)
  · first | (simp (disch := first | omega | (simp only [nw_n, st_n]; omega) | fail) only [nw_n, st_n, st_k, nw_k, nw_ks, nw_r, st_rs, st_rk, st_rj]; done) | (simp (disch := first | omega | (simp only [nw_n, st_n]; omega) | fail) only [nw_n, st_n, st_k, nw_k, nw_ks, nw_r, st_rs, st_rk, st_rj]; exact nw_ks rfl)
  · first | (simp (disch := first | omega | (simp only [nw_n, st_n]; omega) | fail) only [nw_n, st_n, st_k, nw_k, nw_ks, nw_r, st_rs, st_rk, st_rj]; done) | (simp (disch := first | omega | (simp only [nw_n, st_n]; omega) | fail) only [nw_n, st_n, st_k, nw_k, nw_ks, nw_r, st_rs, st_rk, st_rj]; exact nw_ks rfl)
  · first | (simp (disch := first | omega | (simp only [nw_n, st_n]; omega) | fail) only [nw_n, st_n, st_k, nw_k, nw_ks, nw_r, st_rs, st_rk, st_rj]; done) | (simp (disch := first | omega | (simp only [nw_n, st_n]; omega) | fail) only [nw_n, st_n, st_k, nw_k, nw_ks, nw_r, st_rs, st_rk, st_rj]; exact nw_ks rfl)
/-- a new Life, behind all cells -/
theorem i_newlife {r1 : Nat} (h0 : 0 < am_n S) (h3 : 0 < r1) (z : zh S M) : ∃ S1, am_call 9 [am_r (am_n S + 1), am_r r1] (am_new S (4, 3) 7) M = some (none, S1, M) ∧ am_n S1 = am_n S + 4 ∧ am_sl S1 = am_sl S + 85 ∧ S1.1 = S.1 ∧ (∀ q, q ≤ am_n S → am_kd S1 q = am_kd S q ∧ ∀ j, am_rf S1 q j = am_rf S q j) ∧ (r1 = 2 → ly_life S1 (am_n S + 1)) ∧ am_kd S1 (am_n S + 1) = (4, 3) := by
  have hk : am_kd (am_new S (4, 3) 7) (am_n S + 1) = (4, 3) := nw_ks rfl
  obtain ⟨S1, d1, ⟨e1, e2, e3, e4, e5⟩, f1, f2, f3, f4, f5, f6, f7⟩ := i_life (S := am_new S (4, 3) 7) (r := am_n S + 1) (by omega) (by rw [nw_n]; omega) h3 hk (zh_m z (by rw [nw_n]; omega))
  rw [nw_n] at e1 e4 e5 f2 f3 f4 f5 f6 f7
  rw [nw_s] at e2
  have kk : am_kd S1 (am_n S + 1) = (4, 3) := (e4 (am_n S + 1) (by omega)).trans hk
  refine ⟨S1, d1, by omega, by omega, e3, fun q hq => ⟨(e4 q (by omega)).trans (nw_k (by omega)), fun j => (e5 q j (by omega) (by omega)).trans (nw_r (by omega))⟩, fun hr => ?_, kk⟩
  rw [hr] at f1
  exact ⟨kk, f1, f2, f3, f4, f5, f6, f7⟩
theorem i_hist_loop : ∀ (n : Nat) (i : Nat) (S : am_S), i + n = 30 → am_n S = 23 + 4 * i → am_kd S 22 = (4, 1) → am_rf S 22 0 = 23 → am_kd S 23 = (2, 30) → (∀ a : Nat, a < i → am_rf S 23 (a : Int) = 24 + 4 * a ∧ ly_life S (24 + 4 * a)) → zh S M → ∃ S1, am_R 4 15 [some (am_r 22), some (am_r 2), some (am_i (i : Int))] [] S M = some (none, S1, M) ∧ am_n S1 = 143 ∧ am_sl S1 ≤ am_sl S + 85 * n ∧ S1.1 = S.1 ∧ (∀ q, q ≤ 22 → am_kd S1 q = am_kd S q ∧ ∀ j, am_rf S1 q j = am_rf S q j) ∧ am_kd S1 23 = (2, 30) ∧ ∀ a : Nat, a < 30 → am_rf S1 23 (a : Int) = 24 + 4 * a ∧ ly_life S1 (24 + 4 * a) := by
  intro n
  induction n with
  | zero =>
    intro i S hi hn k22 r22 k23 h z
    obtain rfl : i = 30 := by omega
    refine ⟨S, ?_, by omega, by omega, rfl, fun q _ => ⟨rfl, fun _ => rfl⟩, k23, h⟩
    rw [b_Hi_init_15]
    simp (disch := omega) only [b_Hi_init_41, am_ck_T, am_ck_t, am_cif_t, am_cif_f, am_cif_T, am_cif_F, am_then_s, am_push_s, am_push_n, true_and, and_true, true_or, or_true, Int.cast_ofNat_Int, am_02, am_22, not_true_eq_false, not_false_eq_true]
  | succ n ih =>
    intro i S hi hn k22 r22 k23 h z
    obtain ⟨S1, d1, d2, d3, d4, d5, d6, d7⟩ := i_newlife (S := S) (r1 := 2) (by omega) (by omega) z
    have k23' : am_kd S1 23 = (2, 30) := (d5 23 (by omega)).1.trans k23
    have zz : am_zr M (am_n S + 1) = M := zh_z z (by omega)
    have n1 : am_n (am_set S1 23 (i : Int) (am_n S + 1)) = 23 + 4 * (i + 1) := by rw [st_n]; omega
    obtain ⟨S2, u1, u2, u3, u4, u5, u6, u7⟩ := ih (i + 1) (am_set S1 23 (i : Int) (am_n S + 1)) (by omega) n1 ((d5 22 (by omega)).1.trans k22) ((st_rk (by omega)).trans (((d5 22 (by omega)).2 0).trans r22)) k23' (fun a ha => by
      by_cases e : a = i
      · refine ⟨?_, ?_⟩
        · rw [e, st_rs]; omega
        · have := d6 rfl
          rw [hn, show 23 + 4 * i + 1 = 24 + 4 * i by omega] at this
          rw [e]
          obtain ⟨l0, l1, l2, l3, l4, l5, l6, l7⟩ := this
          exact ⟨l0, (st_rk (by omega)).trans l1, (st_rk (by omega)).trans l2, (st_rk (by omega)).trans l3, (st_rk (by omega)).trans l4, l5, l6, l7⟩
      · have hh := h a (by omega)
        refine ⟨?_, ?_⟩
        · rw [st_rj (by omega), (d5 23 (by omega)).2]; exact hh.1
        · obtain ⟨l0, l1, l2, l3, l4, l5, l6, l7⟩ := hh.2
          exact ⟨(d5 _ (by omega)).1.trans l0, (st_rk (by omega)).trans (((d5 _ (by omega)).2 0).trans l1), (st_rk (by omega)).trans (((d5 _ (by omega)).2 1).trans l2), (st_rk (by omega)).trans (((d5 _ (by omega)).2 2).trans l3), (st_rk (by omega)).trans (((d5 _ (by omega)).2 3).trans l4), (d5 _ (by omega)).1.trans l5, (d5 _ (by omega)).1.trans l6, (d5 _ (by omega)).1.trans l7⟩) (zh_m z (by rw [st_n]; omega))
    rw [st_s] at u3
    rw [Int.natCast_add, Int.natCast_one] at u1
    refine ⟨S2, ?_, u2, by omega, u4.trans d4, fun q hq => ⟨(u5 q hq).1.trans (d5 q (by omega)).1, fun j => ((u5 q hq).2 j).trans ((st_rk (by omega)).trans ((d5 q (by omega)).2 j))⟩, u6, u7⟩
    rw [b_Hi_init_15]
    simp (disch := first | omega | (simp only [nw_n, st_n]; omega) | fail) only [b_Hi_init_21, b_Hi_init_29, b_Hi_init_34, k22, r22, zz, d1, k23', d7, u1, am_ck_T, am_ck_t, am_cif_t, am_cif_f, am_cif_T, am_cif_F, am_then_s, am_push_s, am_push_n, true_and, and_true, true_or, or_true, Int.cast_ofNat_Int, am_02, am_22, not_true_eq_false, not_false_eq_true]
/-- a step of the class's constructor: a new object (behind all cells), made by S1, put into field f -/
def ph (f : Int) (m c : Nat) (S S2 : am_S) : Prop := am_n S2 = m ∧ am_sl S2 ≤ am_sl S + c ∧ S2.1 = S.1 ∧ am_kd S2 1 = am_kd S 1 ∧ pq S S2 ∧ (∀ j, j ≠ f → am_rf S2 1 j = am_rf S 1 j) ∧ am_rf S2 1 f = am_n S + 1
theorem ph_ex {S1 : am_S} {f : Int} {kd : Nat × Nat} {c0 k c : Nat} (hn : 1 ≤ am_n S) (e : ex (am_new S kd c0) S1 k c (am_n S + 1)) : ph f (am_n S + 1 + k) (c0 + c) S (am_set S1 1 f (am_n S + 1)) ∧ (∀ q, 2 ≤ q → am_kd (am_set S1 1 f (am_n S + 1)) q = am_kd S1 q ∧ ∀ j, am_rf (am_set S1 1 f (am_n S + 1)) q j = am_rf S1 q j) ∧ am_kd S1 (am_n S + 1) = kd := by
  obtain ⟨e1, e2, e3, e4, e5⟩ := e
  rw [nw_n] at e1 e4 e5
  rw [nw_s] at e2
  refine ⟨⟨e1, by rw [st_s]; omega, e3, (e4 1 (by omega)).trans (nw_k (by omega)), ⟨by rw [st_n]; omega, fun q q1 q2 => ⟨(e4 q (by omega)).trans (nw_k (by omega)), fun j => (st_rk (by omega)).trans ((e5 q j (by omega) (by omega)).trans (nw_r (by omega)))⟩⟩, fun j hj => (st_rj hj).trans ((e5 1 j (by omega) (by omega)).trans (nw_r (by omega))), st_rs⟩, fun q q1 => ⟨rfl, fun j => st_rk (by omega)⟩, (e4 _ (by omega)).trans (nw_ks rfl)⟩
end INIT
