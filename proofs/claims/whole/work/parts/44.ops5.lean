/-! images: keep, goBack -/
section OPS5
variable {S : am_S} {M M1 : am_M} {X : vX} {B : Int} {P : vP}
/-- the image i of the state -/
def xIm (X : vX) (i : Int) : Option (vR × Int) := if i = 0 then xI X else xJ X
/-- the state with image i laid anew, and nothing that can be undone -/
def vkp (X : vX) (i : Int) : vX := (xP X, xR X, [], (if i = 0 then some (xR X, xD X) else xI X, if i = 0 then xJ X else some (xR X, xD X)), X.2.2.2.2)
def vgb (X : vX) (R : vR) (d : Int) : vX := (xP X, R, [], X.2.2.2.1, xS X, xB X, xT X, xF X, d)
theorem okX_kp (ok : okX B X) (i : Int) : okX B (vkp X i) := by
  obtain ⟨a1, a2, a3, a4, a5, a6, a7, a8, a9, a10, a11⟩ := ok
  have q : okI (xP X) B (some (xR X, xD X)) := fun q hq => by cases hq; exact ⟨a2, a11⟩
  unfold vkp
  by_cases hi : i = 0
  · rw [if_pos hi, if_pos hi]
    exact ⟨a1, a2, fun q hq => absurd hq (List.not_mem_nil), Nat.zero_le _, q, a6, a7, a8, a9, a10, a11⟩
  · rw [if_neg hi, if_neg hi]
    exact ⟨a1, a2, fun q hq => absurd hq (List.not_mem_nil), Nat.zero_le _, a5, q, a7, a8, a9, a10, a11⟩
theorem okX_gb (ok : okX B X) {R : vR} {d : Int} (h : okR (xP X) B R) (hd : 0 ≤ d ∧ d ≤ 2147483647) : okX B (vgb X R d) := by
  obtain ⟨a1, a2, a3, a4, a5, a6, a7, a8, a9, a10, a11⟩ := ok
  exact ⟨a1, h, fun q hq => absurd hq (List.not_mem_nil), Nat.zero_le _, a5, a6, a7, a8, a9, a10, hd⟩
theorem p_keep (hS : ly S) {i : Int} (i1 : am_Ri i) : Pr S 93 176 [am_i i] := by
  intro B X h0 h1 ok
  obtain ⟨tp0, tp1, tp2, tp3, tp4, tp5, tp6, tp7, tp8, tp9⟩ := hS.1
  obtain ⟨hi0, hi1, hi2, hi3⟩ := hS.2.2.2.2.2.1
  obtain ⟨im0, im1, im2, im3, im4, im5, im6⟩ := hS.2.2.2.2.2.2.2.2.2.1
  obtain ⟨mo0, ⟨mr0, mr1, mr2, mr3, mr4, mr5, mr6, mr7, mr8, mr9, mr10, mr11⟩, mk0, mk1, mk2, mk3, mk4, mk5, mk6, mk7, mk8, mk9, mk10, mk11⟩ := hS.2.2.2.2.2.2.2.2.2.2
  have hP := ok.1
  have hR := ok.2.1
  have lf14 : lf 14 := by unfold lf; omega
  have li0 := (hS.2.2.2.2.1 14 lf14).1
  by_cases hi : 0 ≤ i ∧ i < 2
  · refine ⟨1, vkp X i, ⟨by omega, by omega⟩, okX_B (okX_kp ok i) (by omega), fun M c => ?_, fun M c => ?_⟩
    · have e1 := k_isImage (S := S) (M := M) i1
      rw [bo_t hi] at e1
      obtain ⟨nx, n1, n2, n3, n4⟩ := c.2.2.1
      obtain ⟨a1, a2, a3, a4, a5, a6, a7, a8, a9, a10⟩ := c
      obtain ⟨ci, hci, hc2⟩ : ∃ ci : Nat, (ci = 154 ∧ i = 0 ∨ ci = 159 ∧ i = 1) ∧ (am_rf S 153 i = ci ∧ am_kd S ci = (4, 2) ∧ am_rf S ci 0 = ci + 1) := by
        by_cases h : i = 0
        · exact ⟨154, Or.inl ⟨rfl, h⟩, by rw [h]; exact ⟨im1, im3, im4⟩⟩
        · obtain rfl : i = 1 := by omega
          exact ⟨159, Or.inr ⟨rfl, rfl⟩, im2, im5, im6⟩
      obtain ⟨q1, q2, q3⟩ := hc2
      have lfc : lf (ci + 1) := by unfold lf; omega
      have lc0 := (hS.2.2.2.2.1 (ci + 1) lfc).1
      obtain ⟨M1, d1, d2, d3⟩ := k_copy (S := S) (b := ci + 1) hS lfc lf14 hP (by omega) a2
      have e2 : M1 1 10 = xD X := (d3 1 (by omega) 10).trans a10
      have fa : ∀ k, (k < ci ∨ ci + 4 < k) → ¬ k = 22 → ∀ j, (am_wr (am_wr (am_wr M1 ci 1 (xD X)) ci 2 1) 22 2 0) k j = M k j := fun k hk hk2 j => (am_wr_k hk2).trans ((am_wr_k (by omega)).trans ((am_wr_k (by omega)).trans (d3 k (by omega) j)))
      have cim : cI (xP X) (some (xR X, xD X)) ci (am_wr (am_wr (am_wr M1 ci 1 (xD X)) ci 2 1) 22 2 0) := ⟨(am_wr_k (by omega)).trans am_wr_s, (am_wr_k (by omega)).trans ((am_wr_i (by omega)).trans am_wr_s), cR_fr (fun k _ _ j => (am_wr_k (by omega)).trans ((am_wr_k (by omega)).trans (am_wr_k (by omega)))) d2⟩
      refine ⟨am_wr (am_wr (am_wr M1 ci 1 (xD X)) ci 2 1) 22 2 0, ?_, ?_, ?_⟩
      · simp (disch := omega) only [c_Pe_keep, b_Pe_keep_0, b_Pe_keep_5, b_Pe_keep_8, b_Pe_keep_11, b_Pe_keep_27, b_Pe_keep_57, c_Hi_clear, b_Hi_clear_0, tp0, tp1, tp2, tp3, tp4, tp5, tp6, tp7, tp8, tp9, hi0, hi1, hi2, im0, q1, q2, q3, lc0, li0, e1, d1, e2, implies_true, am_ck_T, am_ck_t, am_cif_t, am_cif_f, am_cif_T, am_cif_F, am_then_s, am_push_s, am_push_n, true_and, and_true, true_or, or_true, Int.cast_ofNat_Int, am_02, am_22, not_true_eq_false, not_false_eq_true]
      · unfold vkp
        have cp1 : cP (xP X) (am_wr (am_wr (am_wr M1 ci 1 (xD X)) ci 2 1) 22 2 0) := ⟨(fa 2 (by omega) (by omega) 0).trans a1.1, (fa 2 (by omega) (by omega) 1).trans a1.2.1, fun l u w => ⟨(fa 5 (by omega) (by omega) l).trans (a1.2.2.1 l u w).1, (fa 4 (by omega) (by omega) l).trans (a1.2.2.1 l u w).2⟩, fun l k u w s t => (fa 6 (by omega) (by omega) _).trans (a1.2.2.2 l k u w s t)⟩
        have ch1 : cH (xP X) [] (am_wr (am_wr (am_wr M1 ci 1 (xD X)) ci 2 1) 22 2 0) := ⟨nx, n1, (am_wr_i (by omega)).trans ((am_wr_k (by omega)).trans ((am_wr_k (by omega)).trans ((d3 22 (by omega) 1).trans n2))), am_wr_s, fun k q hq => by rw [List.getElem?_nil] at hq; cases hq⟩
        rcases hci with ⟨rfl, rfl⟩ | ⟨rfl, rfl⟩
        · exact ⟨cp1, cR_fr (fun k _ _ => fa k (by omega) (by omega)) a2, ch1, cim, cI_fr (fun k _ _ => fa k (by omega) (by omega)) a5, cS_fr (fun k _ _ => fa k (by omega) (by omega)) a6, cB_fr (fun k _ _ => fa k (by omega) (by omega)) a7, cT_fr (fa 7 (by omega) (by omega)) (fa 13 (by omega) (by omega)) a8, (fa 1 (by omega) (by omega) 9).trans a9, (fa 1 (by omega) (by omega) 10).trans a10⟩
        · exact ⟨cp1, cR_fr (fun k _ _ => fa k (by omega) (by omega)) a2, ch1, cI_fr (fun k _ _ => fa k (by omega) (by omega)) a4, cim, cS_fr (fun k _ _ => fa k (by omega) (by omega)) a6, cB_fr (fun k _ _ => fa k (by omega) (by omega)) a7, cT_fr (fa 7 (by omega) (by omega)) (fa 13 (by omega) (by omega)) a8, (fa 1 (by omega) (by omega) 9).trans a9, (fa 1 (by omega) (by omega) 10).trans a10⟩
      · exact fun k hk j => fa k (by omega) (by omega) j
    · have e0 := m_in (S := S) (M := M) (v := i) (lo := 0) (hi := 1) ⟨by omega, by omega⟩ ⟨by omega, by omega⟩ ⟨by omega, by omega⟩
      rw [bo_t (by omega)] at e0
      obtain ⟨a1, a2, a3, a4, a5, a6, a7, a8, a9, a10⟩ := c
      obtain ⟨M1, d1, d2, d3⟩ := m_copy (M := M) (S := S) hS (x := 0) (y := 164 + 82 * i) (by omega) (by omega) (by omega)
      have fa : ∀ k, k ≠ 165 → k ≠ 166 → ∀ j, ¬ (k = 164 ∧ j = 16) → (am_wr (am_wr M1 166 i 1) 164 16 0) k j = M k j := by
        intro k k1 k2 j hj
        by_cases h : k = 164
        · subst h
          rw [am_wr_i (by omega), am_wr_k (by omega)]; exact d3.1 164 (by omega) j
        · rw [am_wr_k h, am_wr_k k2]; exact d3.1 k (by omega) j
      have fb : ∀ j, (j < 164 + 82 * i ∨ 164 + 82 * i + 82 ≤ j) → (am_wr (am_wr M1 166 i 1) 164 16 0) 165 j = M 165 j := fun j hj => (am_wr_k (by omega)).trans ((am_wr_k (by omega)).trans (d3.2 j hj))
      have fc : ∀ j, j ≠ i → (am_wr (am_wr M1 166 i 1) 164 16 0) 166 j = M 166 j := fun j hj => (am_wr_k (by omega)).trans ((am_wr_i hj).trans (d3.1 166 (by omega) j))
      have fd : ∀ j, (am_wr (am_wr M1 166 i 1) 164 16 0) 165 j = M1 165 j := fun j => (am_wr_k (by omega)).trans (am_wr_k (by omega))
      have mi : mI (xP X) (some (xR X, xD X)) i (am_wr (am_wr M1 166 i 1) 164 16 0) := ⟨(am_wr_k (by omega)).trans am_wr_s, (fd _).trans ((d2 81 (by omega) (by omega)).trans (by rw [Int.zero_add]; exact a10)), mR_fr hP (fun j _ _ => fd j) (mR_copy hP d2 a2)⟩
      refine ⟨am_wr (am_wr M1 166 i 1) 164 16 0, ?_, ?_, ?_⟩
      · simp (disch := omega) only [c_Mo_keep, b_Mo_keep_0, b_Mo_keep_7, b_Mo_keep_10, b_Mo_keep_13, b_Mo_keep_26, mo0, mr0, mr1, mr2, mr3, mr4, mr5, mr6, mr7, mr8, mr9, mr10, mr11, mk0, mk1, mk2, mk3, mk4, mk5, mk6, mk7, mk8, mk9, mk10, mk11, e0, d1, am_ck_T, am_ck_t, am_cif_t, am_cif_f, am_cif_T, am_cif_F, am_then_s, am_push_s, am_push_n, true_and, and_true, true_or, or_true, Int.cast_ofNat_Int, am_02, am_22, not_true_eq_false, not_false_eq_true]
      · unfold vkp
        have mp1 : mP (xP X) (am_wr (am_wr M1 166 i 1) 164 16 0) := ⟨(fa 164 (by omega) (by omega) 6 (by omega)).trans a1.1, (fa 164 (by omega) (by omega) 8 (by omega)).trans a1.2.1, fun l u v => ⟨(fa 169 (by omega) (by omega) l (by omega)).trans (a1.2.2.1 l u v).1, (fa 170 (by omega) (by omega) l (by omega)).trans (a1.2.2.1 l u v).2⟩, fun l k u v w z => (fa 168 (by omega) (by omega) _ (by omega)).trans (a1.2.2.2 l k u v w z)⟩
        have mr1 : mR (xP X) (xR X) 0 (am_wr (am_wr M1 166 i 1) 164 16 0) := mR_fr hP (fun j _ _ => fb j (by omega)) a2
        have mh1 : mH (xP X) [] (am_wr (am_wr M1 166 i 1) 164 16 0) := ⟨am_wr_s, fun k q hq => by rw [List.getElem?_nil] at hq; cases hq⟩
        have ms1 : mS (xS X) (am_wr (am_wr M1 166 i 1) 164 16 0) := ⟨(fa 164 (by omega) (by omega) 20 (by omega)).trans a6.1, fun k q hq => ⟨(fa 173 (by omega) (by omega) _ (by omega)).trans (a6.2 k q hq).1, (fa 174 (by omega) (by omega) _ (by omega)).trans (a6.2 k q hq).2⟩⟩
        have mb1 : mB (xB X) (am_wr (am_wr M1 166 i 1) 164 16 0) := ⟨(fa 164 (by omega) (by omega) 23 (by omega)).trans a7.1, fun k q hq => ⟨(fa 175 (by omega) (by omega) _ (by omega)).trans (a7.2 k q hq).1, (fa 176 (by omega) (by omega) _ (by omega)).trans (a7.2 k q hq).2⟩⟩
        have mt1 : mT (xT X) (am_wr (am_wr M1 166 i 1) 164 16 0) := ⟨(fa 164 (by omega) (by omega) 11 (by omega)).trans a8.1, fun k q hq => (fa 171 (by omega) (by omega) _ (by omega)).trans (a8.2 k q hq)⟩
        have mg : ∀ (I : Option (vR × Int)) (j : Int), j ≠ i → 0 ≤ j → j ≤ 1 → mI (xP X) I j M → mI (xP X) I j (am_wr (am_wr M1 166 i 1) 164 16 0) := by
          intro I j hj j1 j2 h
          cases I with
          | none => exact (fc j hj).trans h
          | some q => exact ⟨(fc j hj).trans h.1, (fb _ (by omega)).trans h.2.1, mR_fr hP (fun t _ _ => fb t (by omega)) h.2.2⟩
        by_cases hz : i = 0
        · rw [if_pos hz, if_pos hz]
          refine ⟨mp1, mr1, mh1, ?_, mg _ 1 (by omega) (by omega) (by omega) a5, ms1, mb1, mt1, (fa 164 (by omega) (by omega) 15 (by omega)).trans a9, (fb 81 (by omega)).trans a10⟩
          subst hz; exact mi
        · rw [if_neg hz, if_neg hz]
          refine ⟨mp1, mr1, mh1, mg _ 0 (by omega) (by omega) (by omega) a4, ?_, ms1, mb1, mt1, (fa 164 (by omega) (by omega) 15 (by omega)).trans a9, (fb 81 (by omega)).trans a10⟩
          obtain rfl : i = 1 := by omega
          exact mi
      · exact fun k hk j => fa k (by omega) (by omega) j (by omega)
  · refine ⟨-1000000001, X, ⟨by omega, by omega⟩, okX_B ok (by omega), CC_id (fun M c => ?_), MM_id (fun M c => ?_)⟩
    · have e1 := k_isImage (S := S) (M := M) i1
      rw [bo_f hi] at e1
      simp (disch := omega) only [c_Pe_keep, b_Pe_keep_0, b_Pe_keep_5, b_Pe_keep_8, b_Pe_keep_11, b_Pe_keep_27, b_Pe_keep_57, tp0, tp1, tp2, tp3, tp4, tp5, tp6, tp7, tp8, tp9, e1, am_ck_T, am_ck_t, am_cif_t, am_cif_f, am_cif_T, am_cif_F, am_then_s, am_push_s, am_push_n, true_and, and_true, true_or, or_true, Int.cast_ofNat_Int, am_02, am_22, not_true_eq_false, not_false_eq_true]
    · have e0 := m_in (S := S) (M := M) (v := i) (lo := 0) (hi := 1) ⟨by omega, by omega⟩ ⟨by omega, by omega⟩ ⟨by omega, by omega⟩
      rw [bo_f (by omega)] at e0
      simp (disch := omega) only [c_Mo_keep, b_Mo_keep_0, b_Mo_keep_7, b_Mo_keep_10, b_Mo_keep_13, b_Mo_keep_26, mo0, mr0, mr1, mr2, mr3, mr4, mr5, mr6, mr7, mr8, mr9, mr10, mr11, mk0, mk1, mk2, mk3, mk4, mk5, mk6, mk7, mk8, mk9, mk10, mk11, e0, am_ck_T, am_ck_t, am_cif_t, am_cif_f, am_cif_T, am_cif_F, am_then_s, am_push_s, am_push_n, true_and, and_true, true_or, or_true, Int.cast_ofNat_Int, am_02, am_22, not_true_eq_false, not_false_eq_true]
theorem p_goBack (hS : ly S) {i : Int} (i1 : am_Ri i) : Pr S 94 177 [am_i i] := by
  intro B X h0 h1 ok
  obtain ⟨tp0, tp1, tp2, tp3, tp4, tp5, tp6, tp7, tp8, tp9⟩ := hS.1
  obtain ⟨hi0, hi1, hi2, hi3⟩ := hS.2.2.2.2.2.1
  obtain ⟨im0, im1, im2, im3, im4, im5, im6⟩ := hS.2.2.2.2.2.2.2.2.2.1
  obtain ⟨mo0, ⟨mr0, mr1, mr2, mr3, mr4, mr5, mr6, mr7, mr8, mr9, mr10, mr11⟩, mk0, mk1, mk2, mk3, mk4, mk5, mk6, mk7, mk8, mk9, mk10, mk11⟩ := hS.2.2.2.2.2.2.2.2.2.2
  have hP := ok.1
  have hR := ok.2.1
  have lf14 : lf 14 := by unfold lf; omega
  have li0 := (hS.2.2.2.2.1 14 lf14).1
  by_cases hi : 0 ≤ i ∧ i < 2
  · obtain ⟨ci, hci, q1, q2, q3⟩ : ∃ ci : Nat, (ci = 154 ∧ i = 0 ∨ ci = 159 ∧ i = 1) ∧ (am_rf S 153 i = ci ∧ am_kd S ci = (4, 2) ∧ am_rf S ci 0 = ci + 1) := by
      by_cases h : i = 0
      · exact ⟨154, Or.inl ⟨rfl, h⟩, by rw [h]; exact ⟨im1, im3, im4⟩⟩
      · obtain rfl : i = 1 := by omega
        exact ⟨159, Or.inr ⟨rfl, rfl⟩, im2, im5, im6⟩
    have gc : ∀ M, CX X M → cI (xP X) (xIm X i) ci M := by
      intro M c
      unfold xIm
      rcases hci with ⟨rfl, rfl⟩ | ⟨rfl, rfl⟩
      · exact c.2.2.2.1
      · exact c.2.2.2.2.1
    have gm : ∀ M, MX X M → mI (xP X) (xIm X i) i M := by
      intro M c
      unfold xIm
      rcases hci with ⟨rfl, rfl⟩ | ⟨rfl, rfl⟩
      · exact c.2.2.2.1
      · exact c.2.2.2.2.1
    have go : okI (xP X) B (xIm X i) := by
      unfold xIm
      rcases hci with ⟨rfl, rfl⟩ | ⟨rfl, rfl⟩
      · exact ok.2.2.2.2.1
      · exact ok.2.2.2.2.2.1
    have lfc : lf (ci + 1) := by unfold lf; omega
    have lc0 := (hS.2.2.2.2.1 (ci + 1) lfc).1
    cases hI : xIm X i with
    | none =>
      rw [hI] at gc gm
      refine ⟨-1000000003, X, ⟨by omega, by omega⟩, okX_B ok (by omega), CC_id (fun M c => ?_), MM_id (fun M c => ?_)⟩
      · have e1 := k_isImage (S := S) (M := M) i1
        rw [bo_t hi] at e1
        have e2 : M ci 2 = 0 := gc M c
        simp (disch := omega) only [c_Pe_goBack, b_Pe_goBack_0, b_Pe_goBack_5, b_Pe_goBack_8, b_Pe_goBack_11, b_Pe_goBack_23, b_Pe_goBack_26, b_Pe_goBack_42, b_Pe_goBack_62, tp0, tp1, tp2, tp3, tp4, tp5, tp6, tp7, tp8, tp9, im0, q1, q2, e1, e2, am_ck_T, am_ck_t, am_cif_t, am_cif_f, am_cif_T, am_cif_F, am_then_s, am_push_s, am_push_n, true_and, and_true, true_or, or_true, Int.cast_ofNat_Int, am_02, am_22, not_true_eq_false, not_false_eq_true]
      · have e0 := m_in (S := S) (M := M) (v := i) (lo := 0) (hi := 1) ⟨by omega, by omega⟩ ⟨by omega, by omega⟩ ⟨by omega, by omega⟩
        rw [bo_t (by omega)] at e0
        have e2 : M 166 i = 0 := gm M c
        simp (disch := omega) only [c_Mo_goBack, b_Mo_goBack_0, b_Mo_goBack_7, b_Mo_goBack_10, b_Mo_goBack_13, b_Mo_goBack_22, b_Mo_goBack_25, b_Mo_goBack_38, mo0, mr0, mr1, mr2, mr3, mr4, mr5, mr6, mr7, mr8, mr9, mr10, mr11, mk0, mk1, mk2, mk3, mk4, mk5, mk6, mk7, mk8, mk9, mk10, mk11, e0, e2, am_ck_T, am_ck_t, am_cif_t, am_cif_f, am_cif_T, am_cif_F, am_then_s, am_push_s, am_push_n, true_and, and_true, true_or, or_true, Int.cast_ofNat_Int, am_02, am_22, not_true_eq_false, not_false_eq_true]
    | some q =>
      rw [hI] at gc gm
      have okq := go q hI
      refine ⟨1, vgb X q.1 q.2, ⟨by omega, by omega⟩, okX_B (okX_gb ok okq.1 okq.2) (by omega), fun M c => ?_, fun M c => ?_⟩
      · have e1 := k_isImage (S := S) (M := M) i1
        rw [bo_t hi] at e1
        obtain ⟨e2, e3, e4⟩ : M ci 2 = 1 ∧ M ci 1 = q.2 ∧ cR (xP X) q.1 (ci + 1) M := gc M c
        obtain ⟨M1, d1, d2, d3⟩ := k_copy (S := S) (b := 14) hS lf14 lfc hP (by omega) e4
        have e5 : M1 ci 1 = q.2 := (d3 ci (by omega) 1).trans e3
        obtain ⟨nx, n1, n2, n3, n4⟩ := c.2.2.1
        obtain ⟨a1, a2, a3, a4, a5, a6, a7, a8, a9, a10⟩ := c
        have fa : ∀ k, (k < 14 ∨ 17 < k) → k ≠ 22 → k ≠ 1 → ∀ j, (am_wr (am_wr M1 1 10 q.2) 22 2 0) k j = M k j := fun k hk h2 h3 j => (am_wr_k h2).trans ((am_wr_k h3).trans (d3 k hk j))
        refine ⟨am_wr (am_wr M1 1 10 q.2) 22 2 0, ?_, ⟨?_, cR_fr (fun k _ _ j => (am_wr_k (by omega)).trans (am_wr_k (by omega))) d2, ?_, cI_fr (fun k _ _ => fa k (by omega) (by omega) (by omega)) a4, cI_fr (fun k _ _ => fa k (by omega) (by omega) (by omega)) a5, cS_fr (fun k _ _ => fa k (by omega) (by omega) (by omega)) a6, cB_fr (fun k _ _ => fa k (by omega) (by omega) (by omega)) a7, cT_fr (fa 7 (by omega) (by omega) (by omega)) (fa 13 (by omega) (by omega) (by omega)) a8, ?_, ?_⟩, ?_⟩
        · simp (disch := omega) only [c_Pe_goBack, b_Pe_goBack_0, b_Pe_goBack_5, b_Pe_goBack_8, b_Pe_goBack_11, b_Pe_goBack_23, b_Pe_goBack_26, b_Pe_goBack_42, b_Pe_goBack_62, c_Hi_clear, b_Hi_clear_0, tp0, tp1, tp2, tp3, tp4, tp5, tp6, tp7, tp8, tp9, hi0, hi1, hi2, im0, q1, q2, q3, lc0, li0, e1, e2, d1, e5, implies_true, am_ck_T, am_ck_t, am_cif_t, am_cif_f, am_cif_T, am_cif_F, am_then_s, am_push_s, am_push_n, true_and, and_true, true_or, or_true, Int.cast_ofNat_Int, am_02, am_22, not_true_eq_false, not_false_eq_true]
        · exact ⟨(fa 2 (by omega) (by omega) (by omega) 0).trans a1.1, (fa 2 (by omega) (by omega) (by omega) 1).trans a1.2.1, fun l u w => ⟨(fa 5 (by omega) (by omega) (by omega) l).trans (a1.2.2.1 l u w).1, (fa 4 (by omega) (by omega) (by omega) l).trans (a1.2.2.1 l u w).2⟩, fun l k u w s t => (fa 6 (by omega) (by omega) (by omega) _).trans (a1.2.2.2 l k u w s t)⟩
        · show cH (xP X) [] _
          exact ⟨nx, n1, (am_wr_i (by omega)).trans ((am_wr_k (by omega)).trans ((d3 22 (by omega) 1).trans n2)), am_wr_s, fun k q hq => by rw [List.getElem?_nil] at hq; cases hq⟩
        · exact (am_wr_k (by omega)).trans ((am_wr_i (by omega)).trans ((d3 1 (by omega) 9).trans a9))
        · exact (am_wr_k (by omega)).trans am_wr_s
        · exact fr_tr (fr_mono d3 (by omega) (by omega)) (fr_tr (fr_wr (by omega)) (fr_wr (by omega)))
      · have e0 := m_in (S := S) (M := M) (v := i) (lo := 0) (hi := 1) ⟨by omega, by omega⟩ ⟨by omega, by omega⟩ ⟨by omega, by omega⟩
        rw [bo_t (by omega)] at e0
        obtain ⟨e2, e3, e4⟩ : M 166 i = 1 ∧ M 165 (164 + 82 * i + 81) = q.2 ∧ mR (xP X) q.1 (164 + 82 * i) M := gm M c
        obtain ⟨M1, d1, d2, d3⟩ := m_copy (M := M) (S := S) hS (x := 164 + 82 * i) (y := 0) (by omega) (by omega) (by omega)
        have ms : M1 165 81 = q.2 := by
          have := d2 81 (by omega) (by omega)
          rw [Int.zero_add] at this
          exact this.trans e3
        have fb : ∀ k j, k ≠ 164 → (am_wr M1 164 16 0) k j = M1 k j := fun k j hk => am_wr_k hk
        have c1 : MX (xP X, q.1, [], X.2.2.2.1, xS X, xB X, xT X, xF X, xD X) (am_wr (am_wr M1 164 16 0) 165 81 (xD X)) := by
          refine MX_mid hP c (fun k hk j hj => ?_) (fun j j1 j2 => ?_) (mR_fr hP (fun j _ _ => (am_wr_i (by omega)).trans (fb 165 j (by omega))) (mR_copy hP d2 e4)) ⟨(am_wr_k (by omega)).trans am_wr_s, fun k q hq => by rw [List.getElem?_nil] at hq; cases hq⟩
          · rw [am_wr_k hk]
            by_cases h164 : k = 164
            · subst h164; rw [am_wr_i (by omega)]; exact d3.1 164 (by omega) j
            · rw [am_wr_k h164]; exact d3.1 k (by omega) j
          · by_cases hj : j = 81
            · rw [hj, am_wr_s]; exact c.2.2.2.2.2.2.2.2.2.symm
            · rw [am_wr_i hj, fb 165 j (by omega)]; exact d3.2 j (by omega)
        have c2 := MX_seed (X := (xP X, q.1, [], X.2.2.2.1, xS X, xB X, xT X, xF X, xD X)) hP c1 q.2
        have ee : am_wr (am_wr (am_wr M1 164 16 0) 165 81 (xD X)) 165 81 q.2 = am_wr M1 164 16 0 := by
          funext k j
          by_cases hk : k = 165
          · subst hk
            by_cases hj : j = 81
            · rw [hj, am_wr_s, fb 165 81 (by omega), ms]
            · rw [am_wr_i hj, am_wr_i hj]
          · rw [am_wr_k hk, am_wr_k hk]
        rw [ee] at c2
        refine ⟨am_wr M1 164 16 0, ?_, c2, fr_tr (fr_mono d3.1 (by omega) (by omega)) (fr_wr (by omega))⟩
        simp (disch := omega) only [c_Mo_goBack, b_Mo_goBack_0, b_Mo_goBack_7, b_Mo_goBack_10, b_Mo_goBack_13, b_Mo_goBack_22, b_Mo_goBack_25, b_Mo_goBack_38, mo0, mr0, mr1, mr2, mr3, mr4, mr5, mr6, mr7, mr8, mr9, mr10, mr11, mk0, mk1, mk2, mk3, mk4, mk5, mk6, mk7, mk8, mk9, mk10, mk11, e0, e2, d1, am_ck_T, am_ck_t, am_cif_t, am_cif_f, am_cif_T, am_cif_F, am_then_s, am_push_s, am_push_n, true_and, and_true, true_or, or_true, Int.cast_ofNat_Int, am_02, am_22, not_true_eq_false, not_false_eq_true]
  · refine ⟨-1000000001, X, ⟨by omega, by omega⟩, okX_B ok (by omega), CC_id (fun M c => ?_), MM_id (fun M c => ?_)⟩
    · have e1 := k_isImage (S := S) (M := M) i1
      rw [bo_f hi] at e1
      simp (disch := omega) only [c_Pe_goBack, b_Pe_goBack_0, b_Pe_goBack_5, b_Pe_goBack_8, b_Pe_goBack_11, b_Pe_goBack_23, b_Pe_goBack_26, b_Pe_goBack_42, b_Pe_goBack_62, tp0, tp1, tp2, tp3, tp4, tp5, tp6, tp7, tp8, tp9, e1, am_ck_T, am_ck_t, am_cif_t, am_cif_f, am_cif_T, am_cif_F, am_then_s, am_push_s, am_push_n, true_and, and_true, true_or, or_true, Int.cast_ofNat_Int, am_02, am_22, not_true_eq_false, not_false_eq_true]
    · have e0 := m_in (S := S) (M := M) (v := i) (lo := 0) (hi := 1) ⟨by omega, by omega⟩ ⟨by omega, by omega⟩ ⟨by omega, by omega⟩
      rw [bo_f (by omega)] at e0
      simp (disch := omega) only [c_Mo_goBack, b_Mo_goBack_0, b_Mo_goBack_7, b_Mo_goBack_10, b_Mo_goBack_13, b_Mo_goBack_22, b_Mo_goBack_25, b_Mo_goBack_38, mo0, mr0, mr1, mr2, mr3, mr4, mr5, mr6, mr7, mr8, mr9, mr10, mr11, mk0, mk1, mk2, mk3, mk4, mk5, mk6, mk7, mk8, mk9, mk10, mk11, e0, am_ck_T, am_ck_t, am_cif_t, am_cif_f, am_cif_T, am_cif_F, am_then_s, am_push_s, am_push_n, true_and, and_true, true_or, or_true, Int.cast_ofNat_Int, am_02, am_22, not_true_eq_false, not_false_eq_true]
end OPS5
