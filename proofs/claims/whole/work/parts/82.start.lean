/-! the reference's constructor; the start -/
section INIT3
variable {S : am_S} {M : am_M}
theorem mf_step (S : am_S) (f : Int) (kd : Nat × Nat) (c : Nat) (hn : 164 ≤ am_n S) : ∃ S1, S1 = am_set (am_new S kd c) 164 f (am_n S + 1) ∧ am_n S1 = am_n S + 1 ∧ am_sl S1 = am_sl S + c ∧ S1.1 = S.1 ∧ am_kd S1 (am_n S + 1) = kd ∧ am_rf S1 164 f = am_n S + 1 ∧ (∀ q, q ≤ am_n S → am_kd S1 q = am_kd S q) ∧ (∀ q j, q ≤ 163 → am_rf S1 q j = am_rf S q j) ∧ ∀ j, j ≠ f → am_rf S1 164 j = am_rf S 164 j :=
  ⟨_, rfl, rfl, rfl, rfl, nw_ks rfl, st_rs, fun q hq => nw_k (by omega), fun q j hq => (st_rk (by omega)).trans (nw_r (by omega)), fun j hj => (st_rj hj).trans (nw_r (by omega))⟩
theorem i_model (hn : am_n S = 164) (hk : am_kd S 164 = (4, 9)) (z : zh S M) : ∃ S1, am_call 104 [am_r 164] S M = some (none, S1, am_wr M 164 15 (-1)) ∧ am_n S1 = 176 ∧ am_sl S1 = am_sl S + 3274 ∧ S1.1 = S.1 ∧ (∀ q, q ≤ 163 → am_kd S1 q = am_kd S q ∧ ∀ j, am_rf S1 q j = am_rf S q j) ∧ ly_model S1 := by
  have zz : ∀ q, am_n S < q → am_zr M q = M := fun q hq => zh_z z hq
  have zz2 : ∀ q, am_n S < q → am_zr (am_wr M 164 15 (-1)) q = am_wr M 164 15 (-1) := fun q hq => zh_z (zh_w z (by omega)) hq
  obtain ⟨s1, e1, n1, c1, b1, k1, f1, t1, r1, j1⟩ := mf_step S 0 (0, 2788) 2788 (by omega)
  have hk1 : am_kd s1 164 = (4, 9) := (t1 164 (by omega)).trans hk
  have u1 : am_R 104 0 [some (am_r 164)] [] S M = am_R 104 13 [some (am_r 164)] [] s1 M := by
    have zq := zz (am_n S + 1) (by omega)
    have ka : am_kd (am_new S (0, 2788) 2788) 164 = (4, 9) := (nw_k (by omega)).trans hk
    rw [e1]
    simp (disch := first | omega | (simp only [nw_n, st_n]; omega) | fail) only [b_Mo_init_0, b_Mo_init_10, zq, ka, am_ck_T, am_ck_t, am_cif_t, am_cif_f, am_cif_T, am_cif_F, am_then_s, am_push_s, am_push_n, true_and, and_true, true_or, or_true, Int.cast_ofNat_Int, am_02, am_22, not_true_eq_false, not_false_eq_true]
  obtain ⟨s2, e2, n2, c2, b2, k2, f2, t2, r2, j2⟩ := mf_step s1 1 (1, 2) 2 (by omega)
  have hk2 : am_kd s2 164 = (4, 9) := (t2 164 (by omega)).trans hk1
  have u2 : am_R 104 13 [some (am_r 164)] [] s1 M = am_R 104 20 [some (am_r 164)] [] s2 M := by
    have zq := zz (am_n s1 + 1) (by omega)
    have ka : am_kd (am_new s1 (1, 2) 2) 164 = (4, 9) := (nw_k (by omega)).trans hk1
    rw [e2]
    simp (disch := first | omega | (simp only [nw_n, st_n]; omega) | fail) only [b_Mo_init_13, b_Mo_init_17, zq, ka, am_ck_T, am_ck_t, am_cif_t, am_cif_f, am_cif_T, am_cif_F, am_then_s, am_push_s, am_push_n, true_and, and_true, true_or, or_true, Int.cast_ofNat_Int, am_02, am_22, not_true_eq_false, not_false_eq_true]
  obtain ⟨s3, e3, n3, c3, b3, k3, f3, t3, r3, j3⟩ := mf_step s2 2 (0, 128) 128 (by omega)
  have hk3 : am_kd s3 164 = (4, 9) := (t3 164 (by omega)).trans hk2
  have u3 : am_R 104 20 [some (am_r 164)] [] s2 M = am_R 104 29 [some (am_r 164)] [] s3 M := by
    have zq := zz (am_n s2 + 1) (by omega)
    have ka : am_kd (am_new s2 (0, 128) 128) 164 = (4, 9) := (nw_k (by omega)).trans hk2
    rw [e3]
    simp (disch := first | omega | (simp only [nw_n, st_n]; omega) | fail) only [b_Mo_init_20, b_Mo_init_26, zq, ka, am_ck_T, am_ck_t, am_cif_t, am_cif_f, am_cif_T, am_cif_F, am_then_s, am_push_s, am_push_n, true_and, and_true, true_or, or_true, Int.cast_ofNat_Int, am_02, am_22, not_true_eq_false, not_false_eq_true]
  obtain ⟨s4, e4, n4, c4, b4, k4, f4, t4, r4, j4⟩ := mf_step s3 3 (0, 72) 72 (by omega)
  have hk4 : am_kd s4 164 = (4, 9) := (t4 164 (by omega)).trans hk3
  have u4 : am_R 104 29 [some (am_r 164)] [] s3 M = am_R 104 37 [some (am_r 164)] [] s4 M := by
    have zq := zz (am_n s3 + 1) (by omega)
    have ka : am_kd (am_new s3 (0, 72) 72) 164 = (4, 9) := (nw_k (by omega)).trans hk3
    rw [e4]
    simp (disch := first | omega | (simp only [nw_n, st_n]; omega) | fail) only [b_Mo_init_29, b_Mo_init_34, zq, ka, am_ck_T, am_ck_t, am_cif_t, am_cif_f, am_cif_T, am_cif_F, am_then_s, am_push_s, am_push_n, true_and, and_true, true_or, or_true, Int.cast_ofNat_Int, am_02, am_22, not_true_eq_false, not_false_eq_true]
  obtain ⟨s5, e5, n5, c5, b5, k5, f5, t5, r5, j5⟩ := mf_step s4 4 (0, 12) 12 (by omega)
  have hk5 : am_kd s5 164 = (4, 9) := (t5 164 (by omega)).trans hk4
  have u5 : am_R 104 37 [some (am_r 164)] [] s4 M = am_R 104 45 [some (am_r 164)] [] s5 M := by
    have zq := zz (am_n s4 + 1) (by omega)
    have ka : am_kd (am_new s4 (0, 12) 12) 164 = (4, 9) := (nw_k (by omega)).trans hk4
    rw [e5]
    simp (disch := first | omega | (simp only [nw_n, st_n]; omega) | fail) only [b_Mo_init_37, b_Mo_init_42, zq, ka, am_ck_T, am_ck_t, am_cif_t, am_cif_f, am_cif_T, am_cif_F, am_then_s, am_push_s, am_push_n, true_and, and_true, true_or, or_true, Int.cast_ofNat_Int, am_02, am_22, not_true_eq_false, not_false_eq_true]
  obtain ⟨s6, e6, n6, c6, b6, k6, f6, t6, r6, j6⟩ := mf_step s5 5 (0, 12) 12 (by omega)
  have hk6 : am_kd s6 164 = (4, 9) := (t6 164 (by omega)).trans hk5
  have u6 : am_R 104 45 [some (am_r 164)] [] s5 M = am_R 104 53 [some (am_r 164)] [] s6 M := by
    have zq := zz (am_n s5 + 1) (by omega)
    have ka : am_kd (am_new s5 (0, 12) 12) 164 = (4, 9) := (nw_k (by omega)).trans hk5
    rw [e6]
    simp (disch := first | omega | (simp only [nw_n, st_n]; omega) | fail) only [b_Mo_init_45, b_Mo_init_50, zq, ka, am_ck_T, am_ck_t, am_cif_t, am_cif_f, am_cif_T, am_cif_F, am_then_s, am_push_s, am_push_n, true_and, and_true, true_or, or_true, Int.cast_ofNat_Int, am_02, am_22, not_true_eq_false, not_false_eq_true]
  obtain ⟨s7, e7, n7, c7, b7, k7, f7, t7, r7, j7⟩ := mf_step s6 10 (0, 200) 200 (by omega)
  have hk7 : am_kd s7 164 = (4, 9) := (t7 164 (by omega)).trans hk6
  have u7 : am_R 104 53 [some (am_r 164)] [] s6 M = am_R 104 62 [some (am_r 164)] [] s7 M := by
    have zq := zz (am_n s6 + 1) (by omega)
    have ka : am_kd (am_new s6 (0, 200) 200) 164 = (4, 9) := (nw_k (by omega)).trans hk6
    rw [e7]
    simp (disch := first | omega | (simp only [nw_n, st_n]; omega) | fail) only [b_Mo_init_53, b_Mo_init_59, zq, ka, am_ck_T, am_ck_t, am_cif_t, am_cif_f, am_cif_T, am_cif_F, am_then_s, am_push_s, am_push_n, true_and, and_true, true_or, or_true, Int.cast_ofNat_Int, am_02, am_22, not_true_eq_false, not_false_eq_true]
  obtain ⟨s8, e8, n8, c8, b8, k8, f8, t8, r8, j8⟩ := mf_step s7 17 (0, 8) 8 (by omega)
  have hk8 : am_kd s8 164 = (4, 9) := (t8 164 (by omega)).trans hk7
  have u8 : am_R 104 67 [some (am_r 164)] [] s7 (am_wr M 164 15 (-1)) = am_R 104 75 [some (am_r 164)] [] s8 (am_wr M 164 15 (-1)) := by
    have zq := zz2 (am_n s7 + 1) (by omega)
    have ka : am_kd (am_new s7 (0, 8) 8) 164 = (4, 9) := (nw_k (by omega)).trans hk7
    rw [e8]
    simp (disch := first | omega | (simp only [nw_n, st_n]; omega) | fail) only [b_Mo_init_67, b_Mo_init_72, zq, ka, am_ck_T, am_ck_t, am_cif_t, am_cif_f, am_cif_T, am_cif_F, am_then_s, am_push_s, am_push_n, true_and, and_true, true_or, or_true, Int.cast_ofNat_Int, am_02, am_22, not_true_eq_false, not_false_eq_true]
  obtain ⟨s9, e9, n9, c9, b9, k9, f9, t9, r9, j9⟩ := mf_step s8 18 (0, 6) 6 (by omega)
  have hk9 : am_kd s9 164 = (4, 9) := (t9 164 (by omega)).trans hk8
  have u9 : am_R 104 75 [some (am_r 164)] [] s8 (am_wr M 164 15 (-1)) = am_R 104 83 [some (am_r 164)] [] s9 (am_wr M 164 15 (-1)) := by
    have zq := zz2 (am_n s8 + 1) (by omega)
    have ka : am_kd (am_new s8 (0, 6) 6) 164 = (4, 9) := (nw_k (by omega)).trans hk8
    rw [e9]
    simp (disch := first | omega | (simp only [nw_n, st_n]; omega) | fail) only [b_Mo_init_75, b_Mo_init_80, zq, ka, am_ck_T, am_ck_t, am_cif_t, am_cif_f, am_cif_T, am_cif_F, am_then_s, am_push_s, am_push_n, true_and, and_true, true_or, or_true, Int.cast_ofNat_Int, am_02, am_22, not_true_eq_false, not_false_eq_true]
  obtain ⟨s10, e10, n10, c10, b10, k10, f10, t10, r10, j10⟩ := mf_step s9 19 (0, 6) 6 (by omega)
  have hk10 : am_kd s10 164 = (4, 9) := (t10 164 (by omega)).trans hk9
  have u10 : am_R 104 83 [some (am_r 164)] [] s9 (am_wr M 164 15 (-1)) = am_R 104 91 [some (am_r 164)] [] s10 (am_wr M 164 15 (-1)) := by
    have zq := zz2 (am_n s9 + 1) (by omega)
    have ka : am_kd (am_new s9 (0, 6) 6) 164 = (4, 9) := (nw_k (by omega)).trans hk9
    rw [e10]
    simp (disch := first | omega | (simp only [nw_n, st_n]; omega) | fail) only [b_Mo_init_83, b_Mo_init_88, zq, ka, am_ck_T, am_ck_t, am_cif_t, am_cif_f, am_cif_T, am_cif_F, am_then_s, am_push_s, am_push_n, true_and, and_true, true_or, or_true, Int.cast_ofNat_Int, am_02, am_22, not_true_eq_false, not_false_eq_true]
  obtain ⟨s11, e11, n11, c11, b11, k11, f11, t11, r11, j11⟩ := mf_step s10 21 (0, 20) 20 (by omega)
  have hk11 : am_kd s11 164 = (4, 9) := (t11 164 (by omega)).trans hk10
  have u11 : am_R 104 91 [some (am_r 164)] [] s10 (am_wr M 164 15 (-1)) = am_R 104 99 [some (am_r 164)] [] s11 (am_wr M 164 15 (-1)) := by
    have zq := zz2 (am_n s10 + 1) (by omega)
    have ka : am_kd (am_new s10 (0, 20) 20) 164 = (4, 9) := (nw_k (by omega)).trans hk10
    rw [e11]
    simp (disch := first | omega | (simp only [nw_n, st_n]; omega) | fail) only [b_Mo_init_91, b_Mo_init_96, zq, ka, am_ck_T, am_ck_t, am_cif_t, am_cif_f, am_cif_T, am_cif_F, am_then_s, am_push_s, am_push_n, true_and, and_true, true_or, or_true, Int.cast_ofNat_Int, am_02, am_22, not_true_eq_false, not_false_eq_true]
  obtain ⟨s12, e12, n12, c12, b12, k12, f12, t12, r12, j12⟩ := mf_step s11 22 (0, 20) 20 (by omega)
  have hk12 : am_kd s12 164 = (4, 9) := (t12 164 (by omega)).trans hk11
  have u12 : am_R 104 99 [some (am_r 164)] [] s11 (am_wr M 164 15 (-1)) = am_R 104 107 [some (am_r 164)] [] s12 (am_wr M 164 15 (-1)) := by
    have zq := zz2 (am_n s11 + 1) (by omega)
    have ka : am_kd (am_new s11 (0, 20) 20) 164 = (4, 9) := (nw_k (by omega)).trans hk11
    rw [e12]
    simp (disch := first | omega | (simp only [nw_n, st_n]; omega) | fail) only [b_Mo_init_99, b_Mo_init_104, zq, ka, am_ck_T, am_ck_t, am_cif_t, am_cif_f, am_cif_T, am_cif_F, am_then_s, am_push_s, am_push_n, true_and, and_true, true_or, or_true, Int.cast_ofNat_Int, am_02, am_22, not_true_eq_false, not_false_eq_true]
  have u62 : am_R 104 62 [some (am_r 164)] [] s7 M = am_R 104 67 [some (am_r 164)] [] s7 (am_wr M 164 15 (-1)) := by
    simp (disch := first | omega | (simp only [nw_n, st_n]; omega) | fail) only [b_Mo_init_62, hk7, am_ck_T, am_ck_t, am_cif_t, am_cif_f, am_cif_T, am_cif_F, am_then_s, am_push_s, am_push_n, true_and, and_true, true_or, or_true, Int.cast_ofNat_Int, am_02, am_22, not_true_eq_false, not_false_eq_true]
  have u107 : am_R 104 107 [some (am_r 164)] [] s12 (am_wr M 164 15 (-1)) = some (none, s12, am_wr M 164 15 (-1)) := by
    simp (disch := first | omega | (simp only [nw_n, st_n]; omega) | fail) only [b_Mo_init_107, am_ck_T, am_ck_t, am_cif_t, am_cif_f, am_cif_T, am_cif_F, am_then_s, am_push_s, am_push_n, true_and, and_true, true_or, or_true, Int.cast_ofNat_Int, am_02, am_22, not_true_eq_false, not_false_eq_true]
  refine ⟨s12, ?_, by omega, by omega, b12.trans (b11.trans (b10.trans (b9.trans (b8.trans (b7.trans (b6.trans (b5.trans (b4.trans (b3.trans (b2.trans (b1))))))))))), fun q hq => ⟨?_, fun j => ?_⟩, hk12, ⟨?_, ?_, ?_, ?_, ?_, ?_, ?_, ?_, ?_, ?_, ?_, ?_⟩, ?_, ?_, ?_, ?_, ?_, ?_, ?_, ?_, ?_, ?_, ?_, ?_⟩
  · rw [c_Mo_init, u1, u2, u3, u4, u5, u6, u7, u62, u8, u9, u10, u11, u12, u107]
  · rw [t12 q (by omega), t11 q (by omega), t10 q (by omega), t9 q (by omega), t8 q (by omega), t7 q (by omega), t6 q (by omega), t5 q (by omega), t4 q (by omega), t3 q (by omega), t2 q (by omega), t1 q (by omega)]
  · rw [r12 q j hq, r11 q j hq, r10 q j hq, r9 q j hq, r8 q j hq, r7 q j hq, r6 q j hq, r5 q j hq, r4 q j hq, r3 q j hq, r2 q j hq, r1 q j hq]
  · rw [j12 0 (by omega), j11 0 (by omega), j10 0 (by omega), j9 0 (by omega), j8 0 (by omega), j7 0 (by omega), j6 0 (by omega), j5 0 (by omega), j4 0 (by omega), j3 0 (by omega), j2 0 (by omega), f1]; omega
  · rw [j12 1 (by omega), j11 1 (by omega), j10 1 (by omega), j9 1 (by omega), j8 1 (by omega), j7 1 (by omega), j6 1 (by omega), j5 1 (by omega), j4 1 (by omega), j3 1 (by omega), f2]; omega
  · rw [j12 2 (by omega), j11 2 (by omega), j10 2 (by omega), j9 2 (by omega), j8 2 (by omega), j7 2 (by omega), j6 2 (by omega), j5 2 (by omega), j4 2 (by omega), f3]; omega
  · rw [j12 3 (by omega), j11 3 (by omega), j10 3 (by omega), j9 3 (by omega), j8 3 (by omega), j7 3 (by omega), j6 3 (by omega), j5 3 (by omega), f4]; omega
  · rw [j12 4 (by omega), j11 4 (by omega), j10 4 (by omega), j9 4 (by omega), j8 4 (by omega), j7 4 (by omega), j6 4 (by omega), f5]; omega
  · rw [j12 5 (by omega), j11 5 (by omega), j10 5 (by omega), j9 5 (by omega), j8 5 (by omega), j7 5 (by omega), f6]; omega
  · rw [j12 10 (by omega), j11 10 (by omega), j10 10 (by omega), j9 10 (by omega), j8 10 (by omega), f7]; omega
  · rw [j12 17 (by omega), j11 17 (by omega), j10 17 (by omega), j9 17 (by omega), f8]; omega
  · rw [j12 18 (by omega), j11 18 (by omega), j10 18 (by omega), f9]; omega
  · rw [j12 19 (by omega), j11 19 (by omega), f10]; omega
  · rw [j12 21 (by omega), f11]; omega
  · rw [f12]; omega
  · rw [t12 _ (by omega), t11 _ (by omega), t10 _ (by omega), t9 _ (by omega), t8 _ (by omega), t7 _ (by omega), t6 _ (by omega), t5 _ (by omega), t4 _ (by omega), t3 _ (by omega), t2 _ (by omega)]; have := k1; rw [show am_n S + 1 = 165 by omega] at this; exact this
  · rw [t12 _ (by omega), t11 _ (by omega), t10 _ (by omega), t9 _ (by omega), t8 _ (by omega), t7 _ (by omega), t6 _ (by omega), t5 _ (by omega), t4 _ (by omega), t3 _ (by omega)]; have := k2; rw [show am_n s1 + 1 = 166 by omega] at this; exact this
  · rw [t12 _ (by omega), t11 _ (by omega), t10 _ (by omega), t9 _ (by omega), t8 _ (by omega), t7 _ (by omega), t6 _ (by omega), t5 _ (by omega), t4 _ (by omega)]; have := k3; rw [show am_n s2 + 1 = 167 by omega] at this; exact this
  · rw [t12 _ (by omega), t11 _ (by omega), t10 _ (by omega), t9 _ (by omega), t8 _ (by omega), t7 _ (by omega), t6 _ (by omega), t5 _ (by omega)]; have := k4; rw [show am_n s3 + 1 = 168 by omega] at this; exact this
  · rw [t12 _ (by omega), t11 _ (by omega), t10 _ (by omega), t9 _ (by omega), t8 _ (by omega), t7 _ (by omega), t6 _ (by omega)]; have := k5; rw [show am_n s4 + 1 = 169 by omega] at this; exact this
  · rw [t12 _ (by omega), t11 _ (by omega), t10 _ (by omega), t9 _ (by omega), t8 _ (by omega), t7 _ (by omega)]; have := k6; rw [show am_n s5 + 1 = 170 by omega] at this; exact this
  · rw [t12 _ (by omega), t11 _ (by omega), t10 _ (by omega), t9 _ (by omega), t8 _ (by omega)]; have := k7; rw [show am_n s6 + 1 = 171 by omega] at this; exact this
  · rw [t12 _ (by omega), t11 _ (by omega), t10 _ (by omega), t9 _ (by omega)]; have := k8; rw [show am_n s7 + 1 = 172 by omega] at this; exact this
  · rw [t12 _ (by omega), t11 _ (by omega), t10 _ (by omega)]; have := k9; rw [show am_n s8 + 1 = 173 by omega] at this; exact this
  · rw [t12 _ (by omega), t11 _ (by omega)]; have := k10; rw [show am_n s9 + 1 = 174 by omega] at this; exact this
  · rw [t12 _ (by omega)]; have := k11; rw [show am_n s10 + 1 = 175 by omega] at this; exact this
  · have := k12; rw [show am_n s11 + 1 = 176 by omega] at this; exact this
theorem ly_hist_q {S1 : am_S} (h : pq S S1) (hn : 143 ≤ am_n S) (g : ly_hist S) : ly_hist S1 := by
  obtain ⟨g0, g1, g2, g3⟩ := g
  exact ⟨(h.2 22 (by omega) (by omega)).1.trans g0, ((h.2 22 (by omega) (by omega)).2 0).trans g1, (h.2 23 (by omega) (by omega)).1.trans g2, fun i hi => ((h.2 23 (by omega) (by omega)).2 _).trans (g3 i hi)⟩
def lyc (S : am_S) : Prop := ly_top S ∧ ly_plan S ∧ ly_draft S ∧ ly_reader S ∧ (∀ b, lf b → ly_life S b) ∧ ly_hist S ∧ ly_walks S ∧ ly_sight S ∧ ly_book S ∧ ly_image S
theorem i_top (hn : am_n S = 1) (hk : am_kd S 1 = (4, 8)) (z : zh S M) : ∃ S1, am_call 63 [am_r 1] S M = some (none, S1, am_wr (am_wr M 7 3 (-1)) 1 9 (-1)) ∧ am_n S1 = 163 ∧ am_sl S1 ≤ am_sl S + 10000 ∧ S1.1 = S.1 ∧ lyc S1 := by
  obtain ⟨s1, a1, ⟨n1, c1, b1, k1, p1, r1, f1⟩, g1⟩ := t_plan hn hk z
  have hk1 := k1.trans hk
  have z1 : zh s1 M := zh_m z (by omega)
  obtain ⟨s2, a2, ⟨n2, c2, b2, k2, p2, r2, f2⟩, g2, g2'⟩ := t_reader n1 hk1 z1
  have hk2 := k2.trans hk1
  have z2 : zh s2 (am_wr M 7 3 (-1)) := zh_w (zh_m z (by omega)) (by omega)
  have q1 : am_rf s1 1 0 = 2 := by rw [f1]; omega
  have q2 : am_rf s2 1 0 = 2 := (r2 0 (by omega)).trans q1
  obtain ⟨s3, a3, ⟨n3, c3, b3, k3, p3, r3, f3⟩, g3⟩ := t_life n2 hk2 q2 z2
  have hk3 := k3.trans hk2
  have q3 := (r3 0 (by omega)).trans q2
  obtain ⟨s4, a4, ⟨n4, c4, b4, k4, p4, r4, f4⟩, g4⟩ := t_trial n3 hk3 q3 (zh_m z2 (by omega))
  have hk4 := k4.trans hk3
  have q4 := (r4 0 (by omega)).trans q3
  obtain ⟨s5, a5, ⟨n5, c5, b5, k5, p5, r5, f5⟩, g5, g5'⟩ := t_hist n4 hk4 q4 (zh_m z2 (by omega))
  have hk5 := k5.trans hk4
  have q5 := (r5 0 (by omega)).trans q4
  obtain ⟨s6, a6, ⟨n6, c6, b6, k6, p6, r6, f6⟩, g6⟩ := t_walks n5 hk5 (zh_m z2 (by omega))
  have hk6 := k6.trans hk5
  have q6 := (r6 0 (by omega)).trans q5
  obtain ⟨s7, a7, ⟨n7, c7, b7, k7, p7, r7, f7⟩, g7⟩ := t_sight n6 hk6 q6 (zh_m z2 (by omega))
  have hk7 := k7.trans hk6
  have q7 := (r7 0 (by omega)).trans q6
  obtain ⟨s8, a8, ⟨n8, c8, b8, k8, p8, r8, f8⟩, g8⟩ := t_book n7 hk7 (zh_m z2 (by omega))
  have hk8 := k8.trans hk7
  have q8 := (r8 0 (by omega)).trans q7
  obtain ⟨s9, a9, ⟨n9, c9, b9, k9, p9, r9, f9⟩, g9, g9', g9''⟩ := t_image n8 hk8 q8 (zh_m z2 (by omega))
  have t8 := p9
  have t7 := pq_tr p8 t8
  have t6 := pq_tr p7 t7
  have t5 := pq_tr p6 t6
  have t4 := pq_tr p5 t5
  have t3 := pq_tr p4 t4
  have t2 := pq_tr p3 t3
  have t1 := pq_tr p2 t2
  refine ⟨s9, ?_, n9, by omega, b9.trans (b8.trans (b7.trans (b6.trans (b5.trans (b4.trans (b3.trans (b2.trans b1))))))), ?_, ly_plan_q t1 (by omega) g1, ly_draft_q t2 (by omega) g2', ly_reader_q t2 (by omega) g2, ?_, ly_hist_q t5 (by omega) g5, ly_walks_q t6 (by omega) g6, ly_sight_q t7 (by omega) g7, ly_book_q t8 (by omega) g8, g9⟩
  · rw [c_Pe_init, a1, a2, a3, a4, a5, a6, a7, a8, a9]
  · refine ⟨k9.trans hk8, ?_, ?_, ?_, ?_, ?_, ?_, ?_, ?_, ?_⟩
    · exact (r9 0 (by omega)).trans q8
    · rw [r9 1 (by omega), r8 1 (by omega), r7 1 (by omega), r6 1 (by omega), r5 1 (by omega), r4 1 (by omega), r3 1 (by omega), f2]; omega
    · rw [r9 2 (by omega), r8 2 (by omega), r7 2 (by omega), r6 2 (by omega), r5 2 (by omega), r4 2 (by omega), f3]; omega
    · rw [r9 3 (by omega), r8 3 (by omega), r7 3 (by omega), r6 3 (by omega), r5 3 (by omega), f4]; omega
    · rw [r9 4 (by omega), r8 4 (by omega), r7 4 (by omega), r6 4 (by omega), f5]; omega
    · rw [r9 5 (by omega), r8 5 (by omega), r7 5 (by omega), f6]; omega
    · rw [r9 6 (by omega), r8 6 (by omega), f7]; omega
    · rw [r9 7 (by omega), f8]; omega
    · rw [f9]; omega
  · intro b hb
    unfold lf at hb
    rcases hb with rfl | rfl | ⟨h1, h2, h3⟩ | rfl | rfl
    · exact ly_life_q t3 (by omega) (by omega) g3
    · exact ly_life_q t4 (by omega) (by omega) g4
    · have := g5' ((b - 24) / 4) (by omega)
      rw [show 24 + 4 * ((b - 24) / 4) = b by omega] at this
      exact ly_life_q t5 (by omega) (by omega) this
    · exact g9'
    · exact g9''
/-- the state at first -/
def vX0 : vX := (vD0.1, vR0 vD0, [], (none, none), [], [], [], -1, 0)
theorem okX_0 : okX 0 vX0 := by
  refine ⟨okD0.1, okR_0 okD0 (by omega), fun q hq => absurd hq (by show ¬ q ∈ ([] : List vR); exact List.not_mem_nil), by show (0 : Nat) ≤ 30; omega, fun q hq => (by have hq' : (none : Option (vR × Int)) = some q := hq; cases hq'), fun q hq => (by have hq' : (none : Option (vR × Int)) = some q := hq; cases hq'), ⟨by show (0 : Nat) ≤ 6; omega, fun q hq => absurd hq (by show ¬ q ∈ ([] : List (Int × Int)); exact List.not_mem_nil)⟩, ⟨by show (0 : Nat) ≤ 20; omega, fun q hq => absurd hq (by show ¬ q ∈ ([] : List (Int × Int)); exact List.not_mem_nil)⟩, ⟨by show (0 : Nat) ≤ 200; omega, fun q hq => absurd hq (by show ¬ q ∈ ([] : List Int); exact List.not_mem_nil)⟩, ⟨by show (-1 : Int) ≤ -1; omega, by show (-1 : Int) ≤ 200; omega⟩, by show (0 : Int) ≤ 0; omega, by show (0 : Int) ≤ 2147483647; omega⟩
def M_0 : am_M := am_wr (am_wr (am_wr (fun _ _ => 0) 7 3 (-1)) 1 9 (-1)) 164 15 (-1)
theorem M_0k {k : Nat} {j : Int} (h1 : k ≠ 7) (h2 : k ≠ 1) (h3 : k ≠ 164) : M_0 k j = 0 := by
  unfold M_0
  rw [am_wr_k h3, am_wr_k h2, am_wr_k h1]
theorem M_0j {k : Nat} {j : Int} (h1 : j ≠ 3) (h2 : j ≠ 9) (h3 : j ≠ 15) : M_0 k j = 0 := by
  unfold M_0
  rw [am_wr_i h3, am_wr_i h2, am_wr_i h1]
theorem CX_0 : CX vX0 M_0 := by
  refine ⟨⟨M_0k (by omega) (by omega) (by omega), M_0k (by omega) (by omega) (by omega), fun l l1 l2 => absurd l2 (by show ¬ l < 0; omega), fun l k l1 l2 => absurd l2 (by show ¬ l < 0; omega)⟩, ⟨fun p q p1 p2 => absurd p2 (by show ¬ p < 0; omega), fun p p1 p2 => absurd p2 (by show ¬ p < 0; omega), fun l l1 l2 => absurd l2 (by show ¬ l < 0; omega), M_0k (by omega) (by omega) (by omega), M_0k (by omega) (by omega) (by omega), M_0k (by omega) (by omega) (by omega)⟩, ⟨0, by omega, M_0k (by omega) (by omega) (by omega), M_0k (by omega) (by omega) (by omega), fun k q hq => nil_no hq⟩, M_0k (by omega) (by omega) (by omega), M_0k (by omega) (by omega) (by omega), ⟨M_0k (by omega) (by omega) (by omega), fun k q hq => nil_no hq⟩, ⟨M_0k (by omega) (by omega) (by omega), fun k q hq => nil_no hq⟩, ⟨M_0j (by omega) (by omega) (by omega), fun k q hq => nil_no hq⟩, ?_, M_0j (by omega) (by omega) (by omega)⟩
  show M_0 1 9 = -1
  unfold M_0
  rw [am_wr_k (by omega), am_wr_s]
theorem MX_0 : MX vX0 M_0 := by
  refine ⟨⟨M_0j (by omega) (by omega) (by omega), M_0j (by omega) (by omega) (by omega), fun l l1 l2 => absurd l2 (by show ¬ l < 0; omega), fun l k l1 l2 => absurd l2 (by show ¬ l < 0; omega)⟩, ⟨fun p q p1 p2 => absurd p2 (by show ¬ p < 0; omega), fun p p1 p2 => absurd p2 (by show ¬ p < 0; omega), fun l l1 l2 => absurd l2 (by show ¬ l < 0; omega), M_0k (by omega) (by omega) (by omega), M_0k (by omega) (by omega) (by omega), M_0k (by omega) (by omega) (by omega)⟩, ⟨M_0j (by omega) (by omega) (by omega), fun k q hq => nil_no hq⟩, M_0k (by omega) (by omega) (by omega), M_0k (by omega) (by omega) (by omega), ⟨M_0j (by omega) (by omega) (by omega), fun k q hq => nil_no hq⟩, ⟨M_0j (by omega) (by omega) (by omega), fun k q hq => nil_no hq⟩, ⟨M_0j (by omega) (by omega) (by omega), fun k q hq => nil_no hq⟩, am_wr_s, M_0k (by omega) (by omega) (by omega)⟩
/-- the law's first steps -/
theorem l_start (L : Nat) (xs : Int → Int) : ∃ S, am_R 179 0 [some am_q, none, none, none] [] (lw_S0 L xs) (fun _ _ => 0) = am_R 179 18 [some am_q, some (am_r 1), some (am_r 164), some (am_i 0)] [] S M_0 ∧ ly S ∧ am_n S ≤ 600000 ∧ am_sl S ≤ 7302250 ∧ am_sn S = L ∧ ∀ j, am_sx S j = xs j := by
  have n0 : am_n (lw_S0 L xs) = 0 := rfl
  have c0 : am_sl (lw_S0 L xs) = 0 := rfl
  have z0 : zh (lw_S0 L xs) (fun _ _ => 0) := fun _ _ _ => rfl
  have zz : am_zr (fun _ _ => 0) (am_n (lw_S0 L xs) + 1) = (fun _ _ => 0) := zh_z z0 (by omega)
  obtain ⟨S1, a1, a2, a3, a4, a5⟩ := i_top (S := am_new (lw_S0 L xs) (4, 8) 11) (M := fun _ _ => 0) rfl (nw_ks rfl) (zh_m z0 (by rw [nw_n]; omega))
  have z1 : zh S1 (am_wr (am_wr (fun _ _ => 0) 7 3 (-1)) 1 9 (-1)) := zh_w (zh_w (zh_m z0 (by omega)) (by omega)) (by omega)
  have zz1 : am_zr (am_wr (am_wr (fun _ _ => 0) 7 3 (-1)) 1 9 (-1)) (am_n S1 + 1) = am_wr (am_wr (fun _ _ => 0) 7 3 (-1)) 1 9 (-1) := zh_z z1 (by omega)
  obtain ⟨S2, b1, b2, b3, b4, b5, b6⟩ := i_model (S := am_new S1 (4, 9) 24) (M := am_wr (am_wr (fun _ _ => 0) 7 3 (-1)) 1 9 (-1)) (by rw [nw_n]; omega) (nw_ks (by omega)) (zh_m z1 (by rw [nw_n]; omega))
  have a1' : am_call 63 [am_r (am_n (lw_S0 L xs) + 1)] (am_new (lw_S0 L xs) (4, 8) 11) (fun _ _ => 0) = some (none, S1, am_wr (am_wr (fun _ _ => 0) 7 3 (-1)) 1 9 (-1)) := a1
  have b1' : am_call 104 [am_r (am_n S1 + 1)] (am_new S1 (4, 9) 24) (am_wr (am_wr (fun _ _ => 0) 7 3 (-1)) 1 9 (-1)) = some (none, S2, M_0) := by rw [a2]; exact b1
  have b5' : ∀ q, q ≤ 163 → am_kd S2 q = am_kd S1 q ∧ ∀ j, am_rf S2 q j = am_rf S1 q j := fun q hq => ⟨(b5 q hq).1.trans (nw_k (by omega)), fun j => ((b5 q hq).2 j).trans (nw_r (by omega))⟩
  have pp : pq S1 S2 := ⟨by omega, fun q _ q2 => b5' q (by omega)⟩
  rw [nw_s] at a3 b3
  obtain ⟨⟨u0, u1, u2, u3, u4, u5, u6, u7, u8, u9⟩, g1, g2, g3, g4, g5, g6, g7, g8, g9⟩ := a5
  have k1 := (b5' 1 (by omega)).1
  have r1 := (b5' 1 (by omega)).2
  have e1 : S2.1 = (L, xs) := b4.trans (a4.trans rfl)
  refine ⟨S2, ?_, ⟨⟨k1.trans u0, (r1 0).trans u1, (r1 1).trans u2, (r1 2).trans u3, (r1 3).trans u4, (r1 4).trans u5, (r1 5).trans u6, (r1 6).trans u7, (r1 7).trans u8, (r1 8).trans u9⟩, ly_plan_q pp (by omega) g1, ly_draft_q pp (by omega) g2, ly_reader_q pp (by omega) g3, fun b hb => ly_life_q pp (by unfold lf at hb; omega) (by unfold lf at hb; omega) (g4 b hb), ly_hist_q pp (by omega) g5, ly_walks_q pp (by omega) g6, ly_sight_q pp (by omega) g7, ly_book_q pp (by omega) g8, ly_image_q pp (by omega) g9, b6⟩, by omega, by omega, by show S2.1.1 = L; rw [e1], fun j => by show S2.1.2 j = xs j; rw [e1]⟩
  have e0 : am_n (lw_S0 L xs) + 1 = 1 := rfl
  have e164 : am_n S1 + 1 = 164 := by omega
  have w1 : am_R 179 15 [some am_q, some (am_r (am_n (lw_S0 L xs) + 1)), none, none] [am_r (am_n S1 + 1)] S2 M_0 = am_R 179 18 [some am_q, some (am_r 1), some (am_r 164), some (am_i 0)] [] S2 M_0 := by
    rw [e0, e164]
    simp (disch := omega) only [b_La_law_15, am_ck_T, am_ck_t, am_cif_t, am_cif_f, am_cif_T, am_cif_F, am_then_s, am_push_s, am_push_n, true_and, and_true, true_or, or_true, Int.cast_ofNat_Int, am_02, am_22, not_true_eq_false, not_false_eq_true]
  simp (disch := first | omega | (simp only [nw_n, st_n]; omega) | fail) only [b_La_law_0, b_La_law_7, zz, a1', zz1, b1', w1, am_ck_T, am_ck_t, am_cif_t, am_cif_f, am_cif_T, am_cif_F, am_then_s, am_push_s, am_push_n, true_and, and_true, true_or, or_true, Int.cast_ofNat_Int, am_02, am_22, not_true_eq_false, not_false_eq_true]
end INIT3
