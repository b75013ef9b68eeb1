/-! the class's constructor -/
section INIT2
variable {S : am_S} {M : am_M}
theorem ph_nl {S1 : am_S} {f : Int} {m c : Nat} (hn : 1 ≤ am_n S) (e1 : am_n S1 = m) (e2 : am_sl S1 ≤ am_sl S + c) (e3 : S1.1 = S.1) (e4 : ∀ q, q ≤ am_n S → am_kd S1 q = am_kd S q ∧ ∀ j, am_rf S1 q j = am_rf S q j) (hm : am_n S ≤ m) : ph f m c S (am_set S1 1 f (am_n S + 1)) :=
  ⟨e1, e2, e3, (e4 1 hn).1, ⟨by rw [st_n]; omega, fun q q1 q2 => ⟨(e4 q q2).1, fun j => (st_rk (by omega)).trans ((e4 q q2).2 j)⟩⟩, fun j hj => (st_rj hj).trans ((e4 1 hn).2 j), st_rs⟩
theorem i_reader (hn : am_n S = 7) (hk : am_kd S 7 = (4, 5)) (z : zh S M) : ∃ S1, am_call 32 [am_r 7] S M = some (none, S1, am_wr M 7 3 (-1)) ∧ ex S S1 6 318 7 ∧ ly_reader S1 ∧ ly_draft S1 := by
  have hk8 : am_kd (am_new S (4, 4) 6) (am_n S + 1) = (4, 4) := nw_ks rfl
  obtain ⟨S1, d1, ⟨e1, e2, e3, e4, e5⟩, f1, f2, f3, f4, f5, f6, f7, f8⟩ := i_plan (S := am_new S (4, 4) 6) (M := M) (r := am_n S + 1) (by omega) (by rw [nw_n]; omega) hk8 (zh_m z (by rw [nw_n]; omega))
  have zz : ∀ q, am_n S < q → am_zr M q = M := fun q hq => zh_z z hq
  have k8 : am_kd S1 (am_n S + 1) = (4, 4) := (e4 _ (by rw [nw_n]; omega)).trans hk8
  have k7 : am_kd S1 7 = (4, 5) := (e4 7 (by rw [nw_n]; omega)).trans ((nw_k (by omega)).trans hk)
  rw [nw_n, hn] at e1 e4 e5
  rw [hn] at k8
  rw [nw_n, hn] at f1 f2 f3 f4 f5 f6 f7 f8
  rw [nw_s] at e2
  refine ⟨am_set (am_new (am_set S1 7 0 (am_n S + 1)) (0, 200) 200) 7 1 (am_n S1 + 1), ?_, ⟨by rw [st_n, nw_n, st_n]; omega, by rw [st_s, nw_s, st_s]; omega, e3, fun q hq => ?_, fun q j hq hr => ?_⟩, ⟨?_, ?_, ?_, ?_⟩, ⟨?_, ?_, ?_, ?_, ?_, ?_, ?_, ?_, ?_⟩⟩
  · simp (disch := first | omega | (simp only [nw_n, st_n]; omega) | fail) only [c_Re_init, b_Re_init_0, b_Re_init_8, b_Re_init_12, b_Re_init_15, b_Re_init_21, b_Re_init_24, b_Re_init_29, hk, zz, d1, k7, nw_n, st_n, st_k, nw_k, nw_ks, nw_r, st_rs, st_rk, st_rj, am_ck_T, am_ck_t, am_cif_t, am_cif_f, am_cif_T, am_cif_F, am_then_s, am_push_s, am_push_n, true_and, and_true, true_or, or_true, Int.cast_ofNat_Int, am_02, am_22, not_true_eq_false, not_false_eq_true]
  · rw [st_k, nw_k (by rw [st_n]; omega), st_k, e4 q (by omega)]; exact nw_k (by omega)
  · rw [st_rk hr, nw_r (by rw [st_n]; omega), st_rk hr, e5 q j (by omega) (by omega)]; exact nw_r (by omega)
  · rw [st_k, nw_k (by rw [st_n]; omega), st_k]; exact k7
  · rw [st_rj (by omega), nw_r (by rw [st_n]; omega), st_rs]; omega
  · rw [st_rs]; omega
  · exact nw_ks (by rw [st_n]; omega)
  · rw [st_k, nw_k (by rw [st_n]; omega), st_k]; exact k8
  · rw [st_rk (by omega), nw_r (by rw [st_n]; omega), st_rk (by omega)]; exact f1
  · rw [st_rk (by omega), nw_r (by rw [st_n]; omega), st_rk (by omega)]; exact f2
  · rw [st_rk (by omega), nw_r (by rw [st_n]; omega), st_rk (by omega)]; exact f3
  · rw [st_rk (by omega), nw_r (by rw [st_n]; omega), st_rk (by omega)]; exact f4
  · rw [st_k, nw_k (by rw [st_n]; omega), st_k]; exact f5
  · rw [st_k, nw_k (by rw [st_n]; omega), st_k]; exact f6
  · rw [st_k, nw_k (by rw [st_n]; omega), st_k]; exact f7
  · rw [st_k, nw_k (by rw [st_n]; omega), st_k]; exact f8
theorem i_hist (hn : am_n S = 22) (hk : am_kd S 22 = (4, 1)) (z : zh S M) : ∃ S1, am_call 4 [am_r 22, am_r 2] S M = some (none, S1, M) ∧ am_n S1 = 143 ∧ am_sl S1 ≤ am_sl S + 2600 ∧ S1.1 = S.1 ∧ (∀ q, q ≤ 21 → am_kd S1 q = am_kd S q ∧ ∀ j, am_rf S1 q j = am_rf S q j) ∧ ly_hist S1 ∧ ∀ a : Nat, a < 30 → ly_life S1 (24 + 4 * a) := by
  have zz : am_zr M (am_n S + 1) = M := zh_z z (by omega)
  have k22 : am_kd (am_new S (2, 30) 30) 22 = (4, 1) := (nw_k (by omega)).trans hk
  obtain ⟨S1, d1, d2, d3, d4, d5, d6, d7⟩ := i_hist_loop (M := M) 30 0 (am_set (am_new S (2, 30) 30) 22 0 (am_n S + 1)) (by omega) (by rw [st_n, nw_n]; omega) k22 (by rw [st_rs]; omega) (nw_ks (by omega)) (fun a ha => by omega) (zh_m z (by rw [st_n, nw_n]; omega))
  have d1' : am_R 4 15 [some (am_r 22), some (am_r 2), some (am_i 0)] [] (am_set (am_new S (2, 30) 30) 22 0 (am_n S + 1)) M = some (none, S1, M) := d1
  rw [st_s, nw_s] at d3
  refine ⟨S1, ?_, d2, by omega, d4, fun q hq => ⟨(d5 q (by omega)).1.trans (nw_k (by omega)), fun j => ((d5 q (by omega)).2 j).trans ((st_rk (by omega)).trans (nw_r (by omega)))⟩, ⟨(d5 22 (by omega)).1.trans k22, ((d5 22 (by omega)).2 0).trans (by rw [st_rs]; omega), d6, fun i hi => (d7 i hi).1⟩, fun a ha => (d7 a ha).2⟩
  simp (disch := first | omega | (simp only [nw_n, st_n]; omega) | fail) only [c_Hi_init, b_Hi_init_0, b_Hi_init_10, b_Hi_init_13, zz, k22, d1', am_ck_T, am_ck_t, am_cif_t, am_cif_f, am_cif_T, am_cif_F, am_then_s, am_push_s, am_push_n, true_and, and_true, true_or, or_true, Int.cast_ofNat_Int, am_02, am_22, not_true_eq_false, not_false_eq_true]
theorem i_newimage (h0 : 0 < am_n S) (z : zh S M) : ∃ S1, am_call 8 [am_r (am_n S + 1), am_r 2] (am_new S (4, 2) 3) M = some (none, S1, M) ∧ am_n S1 = am_n S + 5 ∧ am_sl S1 = am_sl S + 88 ∧ S1.1 = S.1 ∧ (∀ q, q ≤ am_n S → am_kd S1 q = am_kd S q ∧ ∀ j, am_rf S1 q j = am_rf S q j) ∧ am_kd S1 (am_n S + 1) = (4, 2) ∧ am_rf S1 (am_n S + 1) 0 = am_n S + 2 ∧ ly_life S1 (am_n S + 2) := by
  have z1 : zh (am_new S (4, 2) 3) M := zh_m z (by rw [nw_n]; omega)
  obtain ⟨S1, d1, d2, d3, d4, d5, d6, d7⟩ := i_newlife (S := am_new S (4, 2) 3) (M := M) (r1 := 2) (by rw [nw_n]; omega) (by omega) z1
  rw [nw_n] at d1 d2 d5 d6 d7
  rw [nw_s] at d3
  have zz : am_zr M (am_n S + 1 + 1) = M := zh_z z (by omega)
  have kr : am_kd S1 (am_n S + 1) = (4, 2) := (d5 _ (by omega)).1.trans (nw_ks rfl)
  refine ⟨am_set S1 (am_n S + 1) 0 (am_n S + 1 + 1), ?_, by rw [st_n]; omega, by rw [st_s]; omega, d4, fun q hq => ⟨(d5 q (by omega)).1.trans (nw_k (by omega)), fun j => (st_rk (by omega)).trans (((d5 q (by omega)).2 j).trans (nw_r (by omega)))⟩, kr, by rw [st_rs], ?_⟩
  · simp (disch := first | omega | (simp only [nw_n, st_n]; omega) | fail) only [c_Im_init, b_Im_init_0, b_Im_init_8, b_Im_init_13, b_Im_init_16, nw_n, zz, d1, kr, am_ck_T, am_ck_t, am_cif_t, am_cif_f, am_cif_T, am_cif_F, am_then_s, am_push_s, am_push_n, true_and, and_true, true_or, or_true, Int.cast_ofNat_Int, am_02, am_22, not_true_eq_false, not_false_eq_true]
  · obtain ⟨l0, l1, l2, l3, l4, l5, l6, l7⟩ := d6 rfl
    exact ⟨l0, (st_rk (by omega)).trans l1, (st_rk (by omega)).trans l2, (st_rk (by omega)).trans l3, (st_rk (by omega)).trans l4, l5, l6, l7⟩
theorem t_plan (hn : am_n S = 1) (hk : am_kd S 1 = (4, 8)) (z : zh S M) : ∃ S2, am_R 63 0 [some (am_r 1), none] [] S M = am_R 63 15 [some (am_r 1), none] [] S2 M ∧ ph 0 6 118 S S2 ∧ ly_plan S2 := by
  have hkn : am_kd (am_new S (4, 4) 6) (am_n S + 1) = (4, 4) := nw_ks rfl
  obtain ⟨S1, d1, e, f1, f2, f3, f4, f5, f6, f7, f8⟩ := i_plan (S := am_new S (4, 4) 6) (M := M) (r := am_n S + 1) (by omega) (by rw [nw_n]; omega) hkn (zh_m z (by rw [nw_n]; omega))
  obtain ⟨p, q, kk⟩ := ph_ex (f := 0) (by omega) e
  have zz : am_zr M (am_n S + 1) = M := zh_z z (by omega)
  have k1 : am_kd S1 1 = (4, 8) := p.2.2.2.1.trans hk
  rw [hn] at p kk
  rw [nw_n, hn] at f1 f2 f3 f4 f5 f6 f7 f8
  refine ⟨am_set S1 1 0 (am_n S + 1), ?_, ?_, ?_⟩
  · simp (disch := first | omega | (simp only [nw_n, st_n]; omega) | fail) only [b_Pe_init_0, b_Pe_init_8, b_Pe_init_12, zz, d1, k1, am_ck_T, am_ck_t, am_cif_t, am_cif_f, am_cif_T, am_cif_F, am_then_s, am_push_s, am_push_n, true_and, and_true, true_or, or_true, Int.cast_ofNat_Int, am_02, am_22, not_true_eq_false, not_false_eq_true]
  · rw [hn]; exact p
  · rw [hn]
    exact ⟨kk, ((q 2 (by omega)).2 2).trans f1, ((q 2 (by omega)).2 3).trans f2, ((q 2 (by omega)).2 4).trans f3, ((q 2 (by omega)).2 5).trans f4, f5, f6, f7, f8⟩
theorem t_reader (hn : am_n S = 6) (hk : am_kd S 1 = (4, 8)) (z : zh S M) : ∃ S2, am_R 63 15 [some (am_r 1), none] [] S M = am_R 63 26 [some (am_r 1), none] [] S2 (am_wr M 7 3 (-1)) ∧ ph 1 13 325 S S2 ∧ ly_reader S2 ∧ ly_draft S2 := by
  obtain ⟨S1, d1, e, g1, g2⟩ := i_reader (S := am_new S (4, 5) 7) (M := M) (by rw [nw_n]; omega) (nw_ks (by omega)) (zh_m z (by rw [nw_n]; omega))
  have d1' : am_call 32 [am_r (am_n S + 1)] (am_new S (4, 5) 7) M = some (none, S1, am_wr M 7 3 (-1)) := by rw [hn]; exact d1
  have e' : ex (am_new S (4, 5) 7) S1 6 318 (am_n S + 1) := by rw [hn]; exact e
  obtain ⟨p, q, kk⟩ := ph_ex (f := 1) (by omega) e'
  have zz : am_zr M (am_n S + 1) = M := zh_z z (by omega)
  have k1 : am_kd S1 1 = (4, 8) := p.2.2.2.1.trans hk
  rw [hn] at p
  have pp : pq S1 (am_set S1 1 1 (am_n S + 1)) := ⟨Nat.le_refl _, fun c c1 _ => q c c1⟩
  have n1 : am_n S1 = 13 := by have := e.1; rw [nw_n] at this; omega
  refine ⟨am_set S1 1 1 (am_n S + 1), ?_, ?_, ly_reader_q pp (by omega) g1, ly_draft_q pp (by omega) g2⟩
  · simp (disch := first | omega | (simp only [nw_n, st_n]; omega) | fail) only [b_Pe_init_15, b_Pe_init_19, b_Pe_init_23, zz, d1', k1, am_ck_T, am_ck_t, am_cif_t, am_cif_f, am_cif_T, am_cif_F, am_then_s, am_push_s, am_push_n, true_and, and_true, true_or, or_true, Int.cast_ofNat_Int, am_02, am_22, not_true_eq_false, not_false_eq_true]
  · rw [hn]; exact p
theorem t_life (hn : am_n S = 13) (hk : am_kd S 1 = (4, 8)) (hr : am_rf S 1 0 = 2) (z : zh S M) : ∃ S2, am_R 63 26 [some (am_r 1), none] [] S M = am_R 63 41 [some (am_r 1), none] [] S2 M ∧ ph 2 17 85 S S2 ∧ ly_life S2 14 := by
  obtain ⟨S1, d1, d2, d3, d4, d5, d6, d7⟩ := i_newlife (S := S) (M := M) (r1 := 2) (by omega) (by omega) z
  have zz : am_zr M (am_n S + 1) = M := zh_z z (by omega)
  have k1 : am_kd S1 1 = (4, 8) := (d5 1 (by omega)).1.trans hk
  have l := d6 rfl
  refine ⟨am_set S1 1 2 (am_n S + 1), ?_, ph_nl (by omega) (by omega) (by omega) d4 d5 (by omega), ?_⟩
  · simp (disch := first | omega | (simp only [nw_n, st_n]; omega) | fail) only [b_Pe_init_26, b_Pe_init_30, b_Pe_init_38, nw_k, nw_r, hk, hr, zz, d1, k1, am_ck_T, am_ck_t, am_cif_t, am_cif_f, am_cif_T, am_cif_F, am_then_s, am_push_s, am_push_n, true_and, and_true, true_or, or_true, Int.cast_ofNat_Int, am_02, am_22, not_true_eq_false, not_false_eq_true]
  · rw [hn] at l
    obtain ⟨l0, l1, l2, l3, l4, l5, l6, l7⟩ := l
    exact ⟨l0, (st_rk (by omega)).trans l1, (st_rk (by omega)).trans l2, (st_rk (by omega)).trans l3, (st_rk (by omega)).trans l4, l5, l6, l7⟩
theorem t_trial (hn : am_n S = 17) (hk : am_kd S 1 = (4, 8)) (hr : am_rf S 1 0 = 2) (z : zh S M) : ∃ S2, am_R 63 41 [some (am_r 1), none] [] S M = am_R 63 56 [some (am_r 1), none] [] S2 M ∧ ph 3 21 85 S S2 ∧ ly_life S2 18 := by
  obtain ⟨S1, d1, d2, d3, d4, d5, d6, d7⟩ := i_newlife (S := S) (M := M) (r1 := 2) (by omega) (by omega) z
  have zz : am_zr M (am_n S + 1) = M := zh_z z (by omega)
  have k1 : am_kd S1 1 = (4, 8) := (d5 1 (by omega)).1.trans hk
  have l := d6 rfl
  refine ⟨am_set S1 1 3 (am_n S + 1), ?_, ph_nl (by omega) (by omega) (by omega) d4 d5 (by omega), ?_⟩
  · simp (disch := first | omega | (simp only [nw_n, st_n]; omega) | fail) only [b_Pe_init_41, b_Pe_init_45, b_Pe_init_53, nw_k, nw_r, hk, hr, zz, d1, k1, am_ck_T, am_ck_t, am_cif_t, am_cif_f, am_cif_T, am_cif_F, am_then_s, am_push_s, am_push_n, true_and, and_true, true_or, or_true, Int.cast_ofNat_Int, am_02, am_22, not_true_eq_false, not_false_eq_true]
  · rw [hn] at l
    obtain ⟨l0, l1, l2, l3, l4, l5, l6, l7⟩ := l
    exact ⟨l0, (st_rk (by omega)).trans l1, (st_rk (by omega)).trans l2, (st_rk (by omega)).trans l3, (st_rk (by omega)).trans l4, l5, l6, l7⟩
theorem t_hist (hn : am_n S = 21) (hk : am_kd S 1 = (4, 8)) (hr : am_rf S 1 0 = 2) (z : zh S M) : ∃ S2, am_R 63 56 [some (am_r 1), none] [] S M = am_R 63 71 [some (am_r 1), none] [] S2 M ∧ ph 4 143 2603 S S2 ∧ ly_hist S2 ∧ ∀ a : Nat, a < 30 → ly_life S2 (24 + 4 * a) := by
  obtain ⟨S1, d1, d2, d3, d4, d5, d6, d7⟩ := i_hist (S := am_new S (4, 1) 3) (M := M) (by rw [nw_n]; omega) (nw_ks (by omega)) (zh_m z (by rw [nw_n]; omega))
  have d1' : am_call 4 [am_r (am_n S + 1), am_r 2] (am_new S (4, 1) 3) M = some (none, S1, M) := by rw [hn]; exact d1
  have zz : am_zr M (am_n S + 1) = M := zh_z z (by omega)
  have d5' : ∀ q, q ≤ am_n S → am_kd S1 q = am_kd S q ∧ ∀ j, am_rf S1 q j = am_rf S q j := fun q hq => ⟨(d5 q (by omega)).1.trans (nw_k (by omega)), fun j => ((d5 q (by omega)).2 j).trans (nw_r (by omega))⟩
  have k1 : am_kd S1 1 = (4, 8) := (d5' 1 (by omega)).1.trans hk
  rw [nw_s] at d3
  have pp : pq S1 (am_set S1 1 4 (am_n S + 1)) := ⟨Nat.le_refl _, fun c c1 _ => ⟨rfl, fun j => st_rk (by omega)⟩⟩
  refine ⟨am_set S1 1 4 (am_n S + 1), ?_, ph_nl (by omega) d2 (by omega) d4 d5' (by omega), ?_, fun a ha => ly_life_q pp (by omega) (by omega) (d7 a ha)⟩
  · simp (disch := first | omega | (simp only [nw_n, st_n]; omega) | fail) only [b_Pe_init_56, b_Pe_init_60, b_Pe_init_68, nw_k, nw_r, hk, hr, zz, d1', k1, am_ck_T, am_ck_t, am_cif_t, am_cif_f, am_cif_T, am_cif_F, am_then_s, am_push_s, am_push_n, true_and, and_true, true_or, or_true, Int.cast_ofNat_Int, am_02, am_22, not_true_eq_false, not_false_eq_true]
  · obtain ⟨g1, g2, g3, g4⟩ := d6
    exact ⟨g1, (st_rk (by omega)).trans g2, g3, fun i hi => (st_rk (by omega)).trans (g4 i hi)⟩
theorem t_walks (hn : am_n S = 143) (hk : am_kd S 1 = (4, 8)) (z : zh S M) : ∃ S2, am_R 63 71 [some (am_r 1), none] [] S M = am_R 63 82 [some (am_r 1), none] [] S2 M ∧ ph 5 145 9 S S2 ∧ ly_walks S2 := by
  have hkn : am_kd (am_new S (4, 7) 1) (am_n S + 1) = (4, 7) := nw_ks rfl
  obtain ⟨S1, d1, e, f0, f1⟩ := i_walks (S := am_new S (4, 7) 1) (M := M) (r := am_n S + 1) (by omega) (by rw [nw_n]; omega) hkn (zh_m z (by rw [nw_n]; omega))
  obtain ⟨p, q, kk⟩ := ph_ex (f := 5) (by omega) e
  have zz : am_zr M (am_n S + 1) = M := zh_z z (by omega)
  have k1 : am_kd S1 1 = (4, 8) := p.2.2.2.1.trans hk
  rw [hn] at p kk
  (try rw [nw_n] at f0)
  rw [hn] at f0
  (try rw [nw_n] at f1)
  rw [hn] at f1
  refine ⟨am_set S1 1 5 (am_n S + 1), ?_, ?_, ?_⟩
  · simp (disch := first | omega | (simp only [nw_n, st_n]; omega) | fail) only [b_Pe_init_71, b_Pe_init_75, b_Pe_init_79, nw_k, nw_r, hk, zz, d1, k1, am_ck_T, am_ck_t, am_cif_t, am_cif_f, am_cif_T, am_cif_F, am_then_s, am_push_s, am_push_n, true_and, and_true, true_or, or_true, Int.cast_ofNat_Int, am_02, am_22, not_true_eq_false, not_false_eq_true]
  · rw [hn]; exact p
  · rw [hn]
    rw [hn] at q
    exact ⟨kk, ((q 144 (by omega)).2 0).trans f0, f1⟩
theorem t_sight (hn : am_n S = 145) (hk : am_kd S 1 = (4, 8)) (hr : am_rf S 1 0 = 2) (z : zh S M) : ∃ S2, am_R 63 82 [some (am_r 1), none] [] S M = am_R 63 97 [some (am_r 1), none] [] S2 M ∧ ph 6 149 23 S S2 ∧ ly_sight S2 := by
  have hkn : am_kd (am_new S (4, 6) 5) (am_n S + 1) = (4, 6) := nw_ks rfl
  obtain ⟨S1, d1, e, f0, f1, f2, f3, f4, f5, f6⟩ := i_sight (S := am_new S (4, 6) 5) (M := M) (r := am_n S + 1) (r1 := 2) (by omega) (by rw [nw_n]; omega) (by omega) hkn (zh_m z (by rw [nw_n]; omega))
  obtain ⟨p, q, kk⟩ := ph_ex (f := 6) (by omega) e
  have zz : am_zr M (am_n S + 1) = M := zh_z z (by omega)
  have k1 : am_kd S1 1 = (4, 8) := p.2.2.2.1.trans hk
  rw [hn] at p kk
  (try rw [nw_n] at f0)
  rw [hn] at f0
  (try rw [nw_n] at f1)
  rw [hn] at f1
  (try rw [nw_n] at f2)
  rw [hn] at f2
  (try rw [nw_n] at f3)
  rw [hn] at f3
  (try rw [nw_n] at f4)
  rw [hn] at f4
  (try rw [nw_n] at f5)
  rw [hn] at f5
  (try rw [nw_n] at f6)
  rw [hn] at f6
  refine ⟨am_set S1 1 6 (am_n S + 1), ?_, ?_, ?_⟩
  · simp (disch := first | omega | (simp only [nw_n, st_n]; omega) | fail) only [b_Pe_init_82, b_Pe_init_86, b_Pe_init_94, nw_k, nw_r, hk, hr, zz, d1, k1, am_ck_T, am_ck_t, am_cif_t, am_cif_f, am_cif_T, am_cif_F, am_then_s, am_push_s, am_push_n, true_and, and_true, true_or, or_true, Int.cast_ofNat_Int, am_02, am_22, not_true_eq_false, not_false_eq_true]
  · rw [hn]; exact p
  · rw [hn]
    rw [hn] at q
    exact ⟨kk, ((q 146 (by omega)).2 0).trans f0, ((q 146 (by omega)).2 1).trans f1, ((q 146 (by omega)).2 2).trans f2, ((q 146 (by omega)).2 3).trans f3, f4, f5, f6⟩
theorem t_book (hn : am_n S = 149) (hk : am_kd S 1 = (4, 8)) (z : zh S M) : ∃ S2, am_R 63 97 [some (am_r 1), none] [] S M = am_R 63 108 [some (am_r 1), none] [] S2 M ∧ ph 7 152 43 S S2 ∧ ly_book S2 := by
  have hkn : am_kd (am_new S (4, 0) 3) (am_n S + 1) = (4, 0) := nw_ks rfl
  obtain ⟨S1, d1, e, f0, f1, f2, f3⟩ := i_book (S := am_new S (4, 0) 3) (M := M) (r := am_n S + 1) (by omega) (by rw [nw_n]; omega) hkn (zh_m z (by rw [nw_n]; omega))
  obtain ⟨p, q, kk⟩ := ph_ex (f := 7) (by omega) e
  have zz : am_zr M (am_n S + 1) = M := zh_z z (by omega)
  have k1 : am_kd S1 1 = (4, 8) := p.2.2.2.1.trans hk
  rw [hn] at p kk
  (try rw [nw_n] at f0)
  rw [hn] at f0
  (try rw [nw_n] at f1)
  rw [hn] at f1
  (try rw [nw_n] at f2)
  rw [hn] at f2
  (try rw [nw_n] at f3)
  rw [hn] at f3
  refine ⟨am_set S1 1 7 (am_n S + 1), ?_, ?_, ?_⟩
  · simp (disch := first | omega | (simp only [nw_n, st_n]; omega) | fail) only [b_Pe_init_97, b_Pe_init_101, b_Pe_init_105, nw_k, nw_r, hk, zz, d1, k1, am_ck_T, am_ck_t, am_cif_t, am_cif_f, am_cif_T, am_cif_F, am_then_s, am_push_s, am_push_n, true_and, and_true, true_or, or_true, Int.cast_ofNat_Int, am_02, am_22, not_true_eq_false, not_false_eq_true]
  · rw [hn]; exact p
  · rw [hn]
    rw [hn] at q
    exact ⟨kk, ((q 150 (by omega)).2 0).trans f0, ((q 150 (by omega)).2 1).trans f1, f2, f3⟩
theorem t_image (hn : am_n S = 152) (hk : am_kd S 1 = (4, 8)) (hr : am_rf S 1 0 = 2) (z : zh S M) : ∃ S2, am_R 63 108 [some (am_r 1), none] [] S M = some (none, S2, am_wr M 1 9 (-1)) ∧ ph 8 163 200 S S2 ∧ ly_image S2 ∧ ly_life S2 155 ∧ ly_life S2 160 := by
  have zz : ∀ q, am_n S < q → am_zr M q = M := fun q hq => zh_z z hq
  have na : am_n (am_set (am_new S (3, 2) 2) 1 8 (am_n S + 1)) = 153 := by rw [st_n, nw_n]; omega
  obtain ⟨S1, d1, d2, d3, d4, d5, d6, d7, d8⟩ := i_newimage (S := am_set (am_new S (3, 2) 2) 1 8 (am_n S + 1)) (M := M) (by omega) (zh_m z (by omega))
  rw [na] at d1 d2 d5 d6 d7 d8
  rw [st_s, nw_s] at d3
  have nb : am_n (am_set S1 153 0 154) = 158 := by rw [st_n]; omega
  obtain ⟨S2, u1, u2, u3, u4, u5, u6, u7, u8⟩ := i_newimage (S := am_set S1 153 0 154) (M := M) (by omega) (zh_m z (by omega))
  rw [nb] at u1 u2 u5 u6 u7 u8
  rw [st_s] at u3
  have ka : am_kd (am_new S (3, 2) 2) 1 = (4, 8) := (nw_k (by omega)).trans hk
  have ra : am_rf (am_set (am_new S (3, 2) 2) 1 8 (am_n S + 1)) 1 8 = 153 := by rw [st_rs]; omega
  have ra0 : am_rf (am_set (am_new S (3, 2) 2) 1 8 (am_n S + 1)) 1 0 = 2 := by rw [st_rj (by omega), nw_r (by omega)]; exact hr
  have kr : am_kd (am_new S (3, 2) 2) 153 = (3, 2) := nw_ks (by omega)
  have k1a : am_kd S1 1 = (4, 8) := (d5 1 (by omega)).1.trans ka
  have k1r : am_kd S1 153 = (3, 2) := (d5 153 (by omega)).1.trans kr
  have r1a : am_rf S1 1 8 = 153 := ((d5 1 (by omega)).2 8).trans ra
  have r1b : am_rf S1 1 0 = 2 := ((d5 1 (by omega)).2 0).trans ra0
  have k2a : am_kd S2 1 = (4, 8) := (u5 1 (by omega)).1.trans k1a
  have k2r : am_kd S2 153 = (3, 2) := (u5 153 (by omega)).1.trans k1r
  have e153 : am_n S + 1 = 153 := by omega
  have i2 : ∀ x : Int, x = 2 → am_R 63 118 [some (am_r 1), some (am_i x)] [] (am_set S2 153 1 159) M = some (none, am_set S2 153 1 159, am_wr M 1 9 (-1)) := by
    intro x hx
    rw [b_Pe_init_118]
    simp (disch := first | omega | (simp only [nw_n, st_n]; omega) | fail) only [b_Pe_init_146, b_Pe_init_151, st_k, k2a, am_ck_T, am_ck_t, am_cif_t, am_cif_f, am_cif_T, am_cif_F, am_then_s, am_push_s, am_push_n, true_and, and_true, true_or, or_true, Int.cast_ofNat_Int, am_02, am_22, not_true_eq_false, not_false_eq_true]
  have i1 : ∀ x : Int, x = 1 → am_R 63 118 [some (am_r 1), some (am_i x)] [] (am_set S1 153 0 154) M = some (none, am_set S2 153 1 159, am_wr M 1 9 (-1)) := by
    intro x hx
    subst hx
    have i2' := i2 (1 + 1) (by omega)
    have zb : am_zr M (158 + 1) = M := zz _ (by omega)
    have kc : am_kd (am_new (am_set S1 153 0 154) (4, 2) 3) 1 = (4, 8) := (nw_k (by omega)).trans k1a
    have rc : am_rf (am_new (am_set S1 153 0 154) (4, 2) 3) 1 0 = 2 := (nw_r (by omega)).trans ((st_rk (by omega)).trans r1b)
    have rd8 : am_rf (am_set S1 153 0 154) 1 8 = 153 := (st_rk (by omega)).trans r1a
    have kk6 : am_kd S2 (158 + 1) = (4, 2) := u6
    rw [b_Pe_init_118]
    simp (disch := first | omega | (simp only [nw_n, st_n]; omega) | fail) only [b_Pe_init_123, b_Pe_init_131, b_Pe_init_139, st_k, k1a, nb, zb, kc, rc, rd8, u1, k2r, kk6, i2', am_ck_T, am_ck_t, am_cif_t, am_cif_f, am_cif_T, am_cif_F, am_then_s, am_push_s, am_push_n, true_and, and_true, true_or, or_true, Int.cast_ofNat_Int, am_02, am_22, not_true_eq_false, not_false_eq_true]
    done
  have i0 : am_R 63 118 [some (am_r 1), some (am_i 0)] [] (am_set (am_new S (3, 2) 2) 1 8 (am_n S + 1)) M = some (none, am_set S2 153 1 159, am_wr M 1 9 (-1)) := by
    have i1' := i1 (0 + 1) (by omega)
    have zb : am_zr M (153 + 1) = M := zz _ (by omega)
    have kc : am_kd (am_new (am_set (am_new S (3, 2) 2) 1 8 (am_n S + 1)) (4, 2) 3) 1 = (4, 8) := (nw_k (by omega)).trans ka
    have rc : am_rf (am_new (am_set (am_new S (3, 2) 2) 1 8 (am_n S + 1)) (4, 2) 3) 1 0 = 2 := (nw_r (by omega)).trans ra0
    have kk6 : am_kd S1 (153 + 1) = (4, 2) := d6
    rw [b_Pe_init_118]
    simp (disch := first | omega | (simp only [nw_n, st_n]; omega) | fail) only [b_Pe_init_123, b_Pe_init_131, b_Pe_init_139, st_k, ka, na, zb, kc, rc, ra, d1, k1r, kk6, i1', am_ck_T, am_ck_t, am_cif_t, am_cif_f, am_cif_T, am_cif_F, am_then_s, am_push_s, am_push_n, true_and, and_true, true_or, or_true, Int.cast_ofNat_Int, am_02, am_22, not_true_eq_false, not_false_eq_true]
    done
  refine ⟨am_set S2 153 1 159, ?_, ⟨by rw [st_n]; omega, by rw [st_s]; omega, u4.trans d4, (k2a.trans hk.symm), ⟨by rw [st_n]; omega, fun q q1 q2 => ⟨?_, fun j => ?_⟩⟩, fun j hj => ?_, ?_⟩, ⟨k2r, ?_, ?_, ?_, ?_, u6, ?_⟩, ?_, ?_⟩
  · have zc : am_zr M (am_n S + 1) = M := zz _ (by omega)
    simp (disch := first | omega | (simp only [nw_n, st_n]; omega) | fail) only [b_Pe_init_108, b_Pe_init_113, b_Pe_init_116, zc, ka, i0, am_ck_T, am_ck_t, am_cif_t, am_cif_f, am_cif_T, am_cif_F, am_then_s, am_push_s, am_push_n, true_and, and_true, true_or, or_true, Int.cast_ofNat_Int, am_02, am_22, not_true_eq_false, not_false_eq_true]
  · exact (u5 q (by omega)).1.trans ((d5 q (by omega)).1.trans (nw_k (by omega)))
  · rw [st_rk (by omega), (u5 q (by omega)).2, st_rk (by omega), (d5 q (by omega)).2, st_rk (by omega)]; exact nw_r (by omega)
  · rw [st_rk (by omega), (u5 1 (by omega)).2, st_rk (by omega), (d5 1 (by omega)).2, st_rj hj]; exact nw_r (by omega)
  · rw [st_rk (by omega), (u5 1 (by omega)).2, st_rk (by omega), r1a]; omega
  · rw [st_rj (by omega), (u5 153 (by omega)).2, st_rs]
  · rw [st_rs]
  · exact (u5 154 (by omega)).1.trans d6
  · rw [st_rk (by omega), (u5 154 (by omega)).2, st_rk (by omega)]; exact d7
  · rw [st_rk (by omega)]; exact u7
  · obtain ⟨l0, l1, l2, l3, l4, l5, l6, l7⟩ := d8
    exact ⟨(u5 155 (by omega)).1.trans l0, (st_rk (by omega)).trans (((u5 155 (by omega)).2 0).trans ((st_rk (by omega)).trans l1)), (st_rk (by omega)).trans (((u5 155 (by omega)).2 1).trans ((st_rk (by omega)).trans l2)), (st_rk (by omega)).trans (((u5 155 (by omega)).2 2).trans ((st_rk (by omega)).trans l3)), (st_rk (by omega)).trans (((u5 155 (by omega)).2 3).trans ((st_rk (by omega)).trans l4)), (u5 156 (by omega)).1.trans l5, (u5 157 (by omega)).1.trans l6, (u5 158 (by omega)).1.trans l7⟩
  · obtain ⟨l0, l1, l2, l3, l4, l5, l6, l7⟩ := u8
    exact ⟨l0, (st_rk (by omega)).trans l1, (st_rk (by omega)).trans l2, (st_rk (by omega)).trans l3, (st_rk (by omega)).trans l4, l5, l6, l7⟩
end INIT2
