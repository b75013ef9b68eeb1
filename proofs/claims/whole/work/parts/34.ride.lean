/-! rides, sleepers -/
/-- one nearer, if they can be -/
def vbn (R : vR) (p q : Int) : vR := if vnr R p q < 9 then vSn R p q (vnr R p q + 1) else R
/-- a ride from where p may board l, n stops at most -/
noncomputable def vride (P : vP) (R : vR) (p l n : Int) : vR := vSr (vSg R p (vsp P R l (vfa P R p l (min n (vsz P l - 1 - vbp P R l (vgt R p))).toNat (vbp P R l (vgt R p))))) (vrd R + 1)
/-- asleep to the end of l -/
noncomputable def vsleep (R : vR) (p l : Int) : vR := am_cif (vlv R (ven R l)) (vbn (vSr (vSg R p (ven R l)) (vrd R + 1)) p (ven R l)) (vSr (vSg R p (ven R l)) (vrd R + 1))
theorem vfa_rng (P : vP) (R : vR) (p l : Int) : ∀ (n : Nat) (k : Int), k ≤ vfa P R p l n k ∧ vfa P R p l n k ≤ k + n := by
  intro n
  induction n with
  | zero => intro k; unfold vfa; omega
  | succ n ih =>
    intro k
    unfold vfa
    by_cases h : vmg P R p l (k + 1)
    · rw [am_cif_t h]; have := ih (k + 1); omega
    · rw [am_cif_f h]; omega
theorem okR_bn {P : vP} {R : vR} {B : Int} (hR : okR P B R) {p q : Int} (h1 : 0 ≤ p) (h2 : p < vnp P) (h3 : 0 ≤ q) (h4 : q < vnp P) : okR P B (vbn R p q) := by
  unfold vbn
  have n1 := hR.1 p q h1 h2 h3 h4
  by_cases h : vnr R p q < 9
  · rw [if_pos h]
    refine okR_Sn hR (fun e => ?_) (by omega)
    subst e
    have := (hR.2.1 p h1 h2).1
    omega
  · rw [if_neg h]; exact hR
theorem okR_ride {P : vP} {R : vR} {B : Int} (hP : okP P) (hR : okR P B R) {p l n : Int} (h1 : 0 ≤ l) (h2 : l < vnl P) (hb : vbp P R l (vgt R p) ≠ -1) : okR P (B + 1) (vride P R p l n) := by
  have s1 := hP.2.2.2.2.1 l h1 h2
  have r1 := vbp_rng R (vgt R p) (show 0 ≤ vsz P l by omega)
  have r2 := vfa_rng P R p l (min n (vsz P l - 1 - vbp P R l (vgt R p))).toNat (vbp P R l (vgt R p))
  have sr := vsp_rng hP hR h1 h2 (show 0 ≤ vfa P R p l (min n (vsz P l - 1 - vbp P R l (vgt R p))).toNat (vbp P R l (vgt R p)) by omega) (by omega)
  have b1 := hR.2.2.2.2.2.2
  exact okR_Sr (okR_Sg hR sr) (by omega)
theorem okR_sleep {P : vP} {R : vR} {B : Int} (hR : okR P B R) {p l : Int} (h1 : 0 ≤ l) (h2 : l < vnl P) (h3 : 0 ≤ p) (h4 : p < vnp P) : okR P (B + 1) (vsleep R p l) := by
  have e1 := hR.2.2.1 l h1 h2
  have b1 := hR.2.2.2.2.2.2
  have o1 : okR P (B + 1) (vSr (vSg R p (ven R l)) (vrd R + 1)) := okR_Sr (okR_Sg hR e1) (by omega)
  unfold vsleep
  by_cases h : vlv R (ven R l)
  · rw [am_cif_t h]; exact okR_bn o1 h3 h4 e1.1 e1.2
  · rw [am_cif_f h]; exact o1
section RIDE
variable {S : am_S} {M : am_M} {P : vP} {R : vR} {B : Int} {b : Nat} {x : Int}
theorem k_bn (hS : ly S) (hb : lf b) (hP : okP P) (hR : okR P B R) (cr : cR P R b M) {p q : Int} (h1 : 0 ≤ p) (h2 : p < vnp P) (h3 : 0 ≤ q) (h4 : q < vnp P) : ∃ M1, am_call 24 [am_r b, am_i p, am_i q] S M = some (some (am_i (bo (vnr R p q < 9))), S, M1) ∧ cR P (vbn R p q) b M1 ∧ fr b (b + 3) M M1 := by
  obtain ⟨li0, li1, li2, li3, li4, li5, li6, li7⟩ := hS.2.2.2.2.1 b hb
  have hP1 := hP.1
  have hP2 := hP.2.1
  have hP3 := hP.2.2.1
  have hP4 := hP.2.2.2.1
  have e0 := k_near hS hb hP cr h1 h2 h3 h4
  have n1 := hR.1 p q h1 h2 h3 h4
  unfold vbn
  by_cases h : vnr R p q < 9
  · refine ⟨am_wr (am_wr M (b + 1) (p * 8 + q) (vnr R p q + 1)) (b + 1) (q * 8 + p) (vnr R p q + 1), ?_, ?_, fr_tr (fr_wr (by omega)) (fr_wr (by omega))⟩
    · rw [bo_t h]
      simp (disch := omega) only [c_Li_bringNearer, b_Li_bringNearer_0, b_Li_bringNearer_6, b_Li_bringNearer_13, b_Li_bringNearer_15, li0, li1, li2, li3, li4, li5, li6, li7, e0, am_ck_T, am_ck_t, am_cif_t, am_cif_f, am_cif_T, am_cif_F, am_then_s, am_push_s, am_push_n, true_and, and_true, true_or, or_true, Int.cast_ofNat_Int, am_02, am_22, not_true_eq_false, not_false_eq_true]
    · rw [if_pos h]; exact cR_Sn hP cr _ h1 h2 h3 h4
  · refine ⟨M, ?_, by rw [if_neg h]; exact cr, fr_rf⟩
    rw [bo_f h]
    simp (disch := omega) only [c_Li_bringNearer, b_Li_bringNearer_0, b_Li_bringNearer_6, b_Li_bringNearer_13, b_Li_bringNearer_15, li0, li1, li2, li3, li4, li5, li6, li7, e0, am_ck_T, am_ck_t, am_cif_t, am_cif_f, am_cif_T, am_cif_F, am_then_s, am_push_s, am_push_n, true_and, and_true, true_or, or_true, Int.cast_ofNat_Int, am_02, am_22, not_true_eq_false, not_false_eq_true]
theorem am_wr_id {M : am_M} {k : Nat} {i : Int} : am_wr M k i (M k i) = M := by
  funext k' j
  unfold am_wr
  by_cases h : k' = k ∧ j = i
  · rw [if_pos h, h.1, h.2]
  · rw [if_neg h]
theorem m_nearer (hS : ly S) (hP : okP P) (hR : okR P B R) (mr : mR P R x M) (hx : 0 ≤ x ∧ x ≤ 2706) {p q : Int} (h1 : 0 ≤ p) (h2 : p < vnp P) (h3 : 0 ≤ q) (h4 : q < vnp P) : ∃ M1, am_call 124 [am_r 164, am_i x, am_i p, am_i q] S M = some (some (am_i (bo (vnr R p q < 9))), S, M1) ∧ mR P (vbn R p q) x M1 ∧ fx x M M1 := by
  obtain ⟨mo0, ⟨mr0, mr1, mr2, mr3, mr4, mr5, mr6, mr7, mr8, mr9, mr10, mr11⟩, mk0, mk1, mk2, mk3, mk4, mk5, mk6, mk7, mk8, mk9, mk10, mk11⟩ := hS.2.2.2.2.2.2.2.2.2.2
  have hP1 := hP.1
  have hP2 := hP.2.1
  have hP3 := hP.2.2.1
  have hP4 := hP.2.2.2.1
  have e0 := m_near hS hP mr hx h1 h2 h3 h4
  have n1 := hR.1 p q h1 h2 h3 h4
  have a1 := mr.1 p q h1 h2 h3 h4
  have a2 := mr.1 q p h3 h4 h1 h2
  unfold vbn
  by_cases h : vnr R p q < 9
  · have hne : ¬ p = q := fun e => by subst e; have := (hR.2.1 p h1 h2).1; omega
    have o1 : ∀ M' : am_M, am_call 106 [am_i 1] S M' = some (some (am_i 1), S, M') := fun M' => m_one (Or.inr rfl)
    have a3 : am_wr M 165 (x + 8 * p + q) (vnr R p q + 1) 165 (x + 8 * q + p) = vnr R p q := by rw [am_wr_i (by omega), a2, ← n1.2.2]
    refine ⟨am_wr (am_wr M 165 (x + 8 * p + q) (vnr R p q + 1)) 165 (x + 8 * q + p) (vnr R p q + 1), ?_, ?_, fx_tr (fx_wr (by omega)) (fx_wr (by omega))⟩
    · rw [bo_t h]
      simp (disch := omega) only [c_Mo_nearer, b_Mo_nearer_0, b_Mo_nearer_5, b_Mo_nearer_12, b_Mo_nearer_17, b_Mo_nearer_21, b_Mo_nearer_22, b_Mo_nearer_43, b_Mo_nearer_64, mo0, mr0, mr1, mr2, mr3, mr4, mr5, mr6, mr7, mr8, mr9, mr10, mr11, mk0, mk1, mk2, mk3, mk4, mk5, mk6, mk7, mk8, mk9, mk10, mk11, e0, o1, a1, a3, am_ck_T, am_ck_t, am_cif_t, am_cif_f, am_cif_T, am_cif_F, am_then_s, am_push_s, am_push_n, true_and, and_true, true_or, or_true, Int.cast_ofNat_Int, am_02, am_22, not_true_eq_false, not_false_eq_true]
    · rw [if_pos h]; exact mR_Sn hP mr _ h1 h2 h3 h4
  · have o0 : ∀ M' : am_M, am_call 106 [am_i 0] S M' = some (some (am_i 0), S, M') := fun M' => m_one (Or.inl rfl)
    refine ⟨M, ?_, by rw [if_neg h]; exact mr, fx_rf⟩
    rw [bo_f h]
    by_cases e : p = q
    · simp (disch := omega) only [c_Mo_nearer, b_Mo_nearer_0, b_Mo_nearer_5, b_Mo_nearer_12, b_Mo_nearer_17, b_Mo_nearer_21, b_Mo_nearer_22, b_Mo_nearer_43, b_Mo_nearer_64, mo0, mr0, mr1, mr2, mr3, mr4, mr5, mr6, mr7, mr8, mr9, mr10, mr11, mk0, mk1, mk2, mk3, mk4, mk5, mk6, mk7, mk8, mk9, mk10, mk11, o0, Int.add_zero, am_wr_id, am_ck_T, am_ck_t, am_cif_t, am_cif_f, am_cif_T, am_cif_F, am_then_s, am_push_s, am_push_n, true_and, and_true, true_or, or_true, Int.cast_ofNat_Int, am_02, am_22, not_true_eq_false, not_false_eq_true]
    · simp (disch := omega) only [c_Mo_nearer, b_Mo_nearer_0, b_Mo_nearer_5, b_Mo_nearer_12, b_Mo_nearer_17, b_Mo_nearer_21, b_Mo_nearer_22, b_Mo_nearer_43, b_Mo_nearer_64, mo0, mr0, mr1, mr2, mr3, mr4, mr5, mr6, mr7, mr8, mr9, mr10, mr11, mk0, mk1, mk2, mk3, mk4, mk5, mk6, mk7, mk8, mk9, mk10, mk11, e0, o0, Int.add_zero, am_wr_id, am_ck_T, am_ck_t, am_cif_t, am_cif_f, am_cif_T, am_cif_F, am_then_s, am_push_s, am_push_n, true_and, and_true, true_or, or_true, Int.cast_ofNat_Int, am_02, am_22, not_true_eq_false, not_false_eq_true]
theorem k_carry (hS : ly S) (hb : lf b) (hP : okP P) (hR : okR P B R) (cp : cP P M) (cr : cR P R b M) {p l n : Int} (h1 : 0 ≤ l) (h2 : l < vnl P) (h3 : 0 ≤ p) (h4 : p < vnp P) (h5 : 1 ≤ n) (h6 : n ≤ 5) (hB : vbp P R l (vgt R p) ≠ -1) : ∃ M1, am_call 22 [am_r b, am_i p, am_i l, am_i n] S M = some (none, S, M1) ∧ cR P (vride P R p l n) b M1 ∧ fr b (b + 3) M M1 := by
  have hP1 := hP.1
  have hP2 := hP.2.1
  have hP3 := hP.2.2.1
  have hP4 := hP.2.2.2.1
  have g1 := hR.2.1 p h3 h4
  have e0 := k_board hS hb hP hR cp cr h1 h2 g1.2.1 g1.2.2
  have e1 := (cp.2.2.1 l h1 h2).1
  have e2 := cr.2.1 p h3 h4
  have e5 := cr.2.2.2.2.1
  have s1 := hP.2.2.2.2.1 l h1 h2
  have r1 := vbp_rng R (vgt R p) (show 0 ≤ vsz P l by omega)
  unfold vride
  generalize hfm : vbp P R l (vgt R p) = fm at *
  have key : ∀ (t : Nat) (k : Int), fm ≤ k → k ≤ vsz P l - 1 → t = (min (n - (k - fm)) (vsz P l - 1 - k)).toNat → k - fm ≤ n → am_R 22 24 [some (am_r b), some (am_i p), some (am_i l), some (am_i n), some (am_i fm), some (am_i k)] [] S M = am_R 22 68 [some (am_r b), some (am_i p), some (am_i l), some (am_i n), some (am_i fm), some (am_i (vfa P R p l t k))] [] S M := by
    obtain ⟨li0, li1, li2, li3, li4, li5, li6, li7⟩ := hS.2.2.2.2.1 b hb
    obtain ⟨pl0, pl1, pl2, pl3, pl4, pl5, pl6, pl7, pl8⟩ := hS.2.1
    intro t
    induction t with
    | zero =>
      intro k k1 k2 hn k3
      unfold vfa
      rw [b_Li_carry_24]
      by_cases hz : n ≤ k - fm
      · simp (disch := omega) only [am_ck_T, am_ck_t, am_cif_t, am_cif_f, am_cif_T, am_cif_F, am_then_s, am_push_s, am_push_n, true_and, and_true, true_or, or_true, Int.cast_ofNat_Int, am_02, am_22, not_true_eq_false, not_false_eq_true]
      · simp (disch := omega) only [b_Li_carry_33, li0, li1, li2, li3, li4, li5, li6, li7, pl0, pl1, pl2, pl3, pl4, pl5, pl6, pl7, pl8, e1, am_ck_T, am_ck_t, am_cif_t, am_cif_f, am_cif_T, am_cif_F, am_then_s, am_push_s, am_push_n, true_and, and_true, true_or, or_true, Int.cast_ofNat_Int, am_02, am_22, not_true_eq_false, not_false_eq_true]
    | succ t ih =>
      intro k k1 k2 hn k3
      have mg := k_mayGoOn hS hb hP hR cp cr h1 h2 h3 h4 (show 0 ≤ k + 1 by omega) (show k + 1 < vsz P l by omega)
      unfold vfa
      rw [b_Li_carry_24]
      by_cases hg : vmg P R p l (k + 1)
      · have ih1 := ih (k + 1) (by omega) (by omega) (by omega) (by omega)
        simp (disch := omega) only [b_Li_carry_33, b_Li_carry_49, b_Li_carry_59, b_Li_carry_62, li0, li1, li2, li3, li4, li5, li6, li7, pl0, pl1, pl2, pl3, pl4, pl5, pl6, pl7, pl8, e1, mg, bo_t hg, am_cif_t hg, ih1, am_ck_T, am_ck_t, am_cif_t, am_cif_f, am_cif_T, am_cif_F, am_then_s, am_push_s, am_push_n, true_and, and_true, true_or, or_true, Int.cast_ofNat_Int, am_02, am_22, not_true_eq_false, not_false_eq_true]
      · simp (disch := omega) only [b_Li_carry_33, b_Li_carry_49, b_Li_carry_59, li0, li1, li2, li3, li4, li5, li6, li7, pl0, pl1, pl2, pl3, pl4, pl5, pl6, pl7, pl8, e1, mg, bo_f hg, am_cif_f hg, am_ck_T, am_ck_t, am_cif_t, am_cif_f, am_cif_T, am_cif_F, am_then_s, am_push_s, am_push_n, true_and, and_true, true_or, or_true, Int.cast_ofNat_Int, am_02, am_22, not_true_eq_false, not_false_eq_true]
  obtain ⟨li0, li1, li2, li3, li4, li5, li6, li7⟩ := hS.2.2.2.2.1 b hb
  obtain ⟨pl0, pl1, pl2, pl3, pl4, pl5, pl6, pl7, pl8⟩ := hS.2.1
  have k0 := key (min n (vsz P l - 1 - fm)).toNat fm (by omega) (by omega) (by omega) (by omega)
  have r2 := vfa_rng P R p l (min n (vsz P l - 1 - fm)).toNat fm
  generalize hto : vfa P R p l (min n (vsz P l - 1 - fm)).toNat fm = to at *
  have st := k_stop hS hb hP cp cr h1 h2 (show 0 ≤ to by omega) (show to < vsz P l by omega)
  have a5 : am_wr M (b + 2) p (vsp P R l to) b 5 = vrd R := by rw [am_wr_k (by omega)]; exact e5
  refine ⟨am_wr (am_wr M (b + 2) p (vsp P R l to)) b 5 (vrd R + 1), ?_, ?_, fr_tr (fr_wr (by omega)) (fr_wr (by omega))⟩
  · simp (disch := omega) only [c_Li_carry, b_Li_carry_0, b_Li_carry_11, b_Li_carry_20, k0, b_Li_carry_68, b_Li_carry_80, li0, li1, li2, li3, li4, li5, li6, li7, pl0, pl1, pl2, pl3, pl4, pl5, pl6, pl7, pl8, e0, e2, st, a5, am_ck_T, am_ck_t, am_cif_t, am_cif_f, am_cif_T, am_cif_F, am_then_s, am_push_s, am_push_n, true_and, and_true, true_or, or_true, Int.cast_ofNat_Int, am_02, am_22, not_true_eq_false, not_false_eq_true]
  · exact cR_Sr (cR_Sg cr p _) _
theorem m_ride (hS : ly S) (hP : okP P) (hR : okR P B R) (mp : mP P M) (mr : mR P R x M) (hx : 0 ≤ x ∧ x ≤ 2706) {p l n : Int} (h1 : 0 ≤ l) (h2 : l < vnl P) (h3 : 0 ≤ p) (h4 : p < vnp P) (h5 : 1 ≤ n) (h6 : n ≤ 5) (hB : vbp P R l (vgt R p) ≠ -1) : ∃ M1, am_call 137 [am_r 164, am_i x, am_i p, am_i l, am_i n] S M = some (none, S, M1) ∧ mR P (vride P R p l n) x M1 ∧ fx x M M1 := by
  obtain ⟨mo0, ⟨mr0, mr1, mr2, mr3, mr4, mr5, mr6, mr7, mr8, mr9, mr10, mr11⟩, mk0, mk1, mk2, mk3, mk4, mk5, mk6, mk7, mk8, mk9, mk10, mk11⟩ := hS.2.2.2.2.2.2.2.2.2.2
  have hP1 := hP.1
  have hP2 := hP.2.1
  have hP3 := hP.2.2.1
  have hP4 := hP.2.2.2.1
  have g1 := hR.2.1 p h3 h4
  have s1 := hP.2.2.2.2.1 l h1 h2
  have e0 := m_where hS hP hR mp mr hx h1 h2 g1.2.1 g1.2.2
  have e2 := mr.2.1 p h3 h4
  have e5 := mr.2.2.2.2.1
  have r1 := vbp_rng R (vgt R p) (show 0 ≤ vsz P l by omega)
  have eb : vpl P R l (vgt R p) = vbp P R l (vgt R p) := by
    unfold vbp at hB ⊢
    by_cases hk : vpl P R l (vgt R p) = vsz P l - 1
    · rw [if_pos hk] at hB; exact absurd rfl hB
    · rw [if_neg hk]
  rw [eb] at e0
  unfold vride
  generalize hfm : vbp P R l (vgt R p) = fm at *
  have fa := m_far hS hP hR mp mr hx (p := p) (fm := fm) (mo := n) h1 h2 h3 h4 (by omega) (by omega) (by omega) (by omega)
  have r2 := vfa_rng P R p l (min n (vsz P l - 1 - fm)).toNat fm
  generalize hto : vfa P R p l (min n (vsz P l - 1 - fm)).toNat fm = to at *
  have st := m_stop hS hP mp mr hx h1 h2 (show 0 ≤ to by omega) (show to < vsz P l by omega)
  have a5 : am_wr M 165 (x + 64 + p) (vsp P R l to) 165 (x + 80) = vrd R := by rw [am_wr_i (by omega)]; exact e5
  refine ⟨am_wr (am_wr M 165 (x + 64 + p) (vsp P R l to)) 165 (x + 80) (vrd R + 1), ?_, mR_Sr hP (mR_Sg hP mr _ (by omega)) _, fx_tr (fx_wr (by omega)) (fx_wr (by omega))⟩
  simp (disch := omega) only [c_Mo_rideIn, b_Mo_rideIn_0, b_Mo_rideIn_21, b_Mo_rideIn_26, b_Mo_rideIn_46, mo0, mr0, mr1, mr2, mr3, mr4, mr5, mr6, mr7, mr8, mr9, mr10, mr11, mk0, mk1, mk2, mk3, mk4, mk5, mk6, mk7, mk8, mk9, mk10, mk11, e0, e2, fa, st, a5, am_ck_T, am_ck_t, am_cif_t, am_cif_f, am_cif_T, am_cif_F, am_then_s, am_push_s, am_push_n, true_and, and_true, true_or, or_true, Int.cast_ofNat_Int, am_02, am_22, not_true_eq_false, not_false_eq_true]
theorem k_sleep (hS : ly S) (hb : lf b) (hP : okP P) (hR : okR P B R) (cr : cR P R b M) {p l : Int} (h1 : 0 ≤ l) (h2 : l < vnl P) (h3 : 0 ≤ p) (h4 : p < vnp P) : ∃ M1, am_call 23 [am_r b, am_i p, am_i l] S M = some (none, S, M1) ∧ cR P (vsleep R p l) b M1 ∧ fr b (b + 3) M M1 := by
  obtain ⟨li0, li1, li2, li3, li4, li5, li6, li7⟩ := hS.2.2.2.2.1 b hb
  have hP1 := hP.1
  have hP2 := hP.2.1
  have hP3 := hP.2.2.1
  have hP4 := hP.2.2.2.1
  have en := hR.2.2.1 l h1 h2
  have e3 := cr.2.2.1 l h1 h2
  have e5 := cr.2.2.2.2.1
  have b1 := hR.2.2.2.2.2.2
  have cr1 := cR_Sr (cR_Sg cr p (ven R l)) (vrd R + 1)
  have o1 : okR P (B + 1) (vSr (vSg R p (ven R l)) (vrd R + 1)) := okR_Sr (okR_Sg hR en) (by omega)
  have lv := k_lives hS hb cr1 (ven R l)
  have lv' : vlv (vSr (vSg R p (ven R l)) (vrd R + 1)) (ven R l) = vlv R (ven R l) := rfl
  rw [lv'] at lv
  have a5 : am_wr M (b + 2) p (ven R l) b 5 = vrd R := by rw [am_wr_k (by omega)]; exact e5
  have a3 : am_wr (am_wr M (b + 2) p (ven R l)) b 5 (vrd R + 1) (b + 3) l = ven R l := by rw [am_wr_k (by omega), am_wr_k (by omega)]; exact e3
  obtain ⟨M1, c1, c2, c3⟩ := k_bn hS hb hP o1 cr1 h3 h4 en.1 en.2
  have rb := bo_R (vnr (vSr (vSg R p (ven R l)) (vrd R + 1)) p (ven R l) < 9)
  unfold vsleep
  by_cases h : vlv R (ven R l)
  · rw [am_cif_t h]
    refine ⟨M1, ?_, c2, fr_tr (fr_tr (fr_wr (by omega)) (fr_wr (by omega))) c3⟩
    simp (disch := omega) only [c_Li_carryAsleep, b_Li_carryAsleep_0, b_Li_carryAsleep_32, b_Li_carryAsleep_35, b_Li_carryAsleep_46, b_Li_carryAsleep_47, li0, li1, li2, li3, li4, li5, li6, li7, e3, a5, a3, lv, bo_t h, c1, am_ck_T, am_ck_t, am_cif_t, am_cif_f, am_cif_T, am_cif_F, am_then_s, am_push_s, am_push_n, true_and, and_true, true_or, or_true, Int.cast_ofNat_Int, am_02, am_22, not_true_eq_false, not_false_eq_true]
  · rw [am_cif_f h]
    refine ⟨_, ?_, cr1, fr_tr (fr_wr (by omega)) (fr_wr (by omega))⟩
    simp (disch := omega) only [c_Li_carryAsleep, b_Li_carryAsleep_0, b_Li_carryAsleep_32, b_Li_carryAsleep_35, b_Li_carryAsleep_46, b_Li_carryAsleep_47, li0, li1, li2, li3, li4, li5, li6, li7, e3, a5, a3, lv, bo_f h, am_ck_T, am_ck_t, am_cif_t, am_cif_f, am_cif_T, am_cif_F, am_then_s, am_push_s, am_push_n, true_and, and_true, true_or, or_true, Int.cast_ofNat_Int, am_02, am_22, not_true_eq_false, not_false_eq_true]
theorem m_sleep (hS : ly S) (hP : okP P) (hR : okR P B R) (mr : mR P R x M) (hx : 0 ≤ x ∧ x ≤ 2706) {p l : Int} (h1 : 0 ≤ l) (h2 : l < vnl P) (h3 : 0 ≤ p) (h4 : p < vnp P) : ∃ M1, am_call 138 [am_r 164, am_i x, am_i p, am_i l] S M = some (none, S, M1) ∧ mR P (vsleep R p l) x M1 ∧ fx x M M1 := by
  obtain ⟨mo0, ⟨mr0, mr1, mr2, mr3, mr4, mr5, mr6, mr7, mr8, mr9, mr10, mr11⟩, mk0, mk1, mk2, mk3, mk4, mk5, mk6, mk7, mk8, mk9, mk10, mk11⟩ := hS.2.2.2.2.2.2.2.2.2.2
  have hP1 := hP.1
  have hP2 := hP.2.1
  have hP3 := hP.2.2.1
  have hP4 := hP.2.2.2.1
  have en := hR.2.2.1 l h1 h2
  have e3 := mr.2.2.1 l h1 h2
  have e5 := mr.2.2.2.2.1
  have b1 := hR.2.2.2.2.2.2
  have mr1 := mR_Sr hP (mR_Sg hP mr (p := p) (ven R l) (by omega)) (vrd R + 1)
  have o1 : okR P (B + 1) (vSr (vSg R p (ven R l)) (vrd R + 1)) := okR_Sr (okR_Sg hR en) (by omega)
  have lv := m_isDead hS mr1 hx (ven R l)
  have lv' : vlv (vSr (vSg R p (ven R l)) (vrd R + 1)) (ven R l) = vlv R (ven R l) := rfl
  rw [lv'] at lv
  have a5 : am_wr M 165 (x + 64 + p) (ven R l) 165 (x + 80) = vrd R := by rw [am_wr_i (by omega)]; exact e5
  obtain ⟨M1, c1, c2, c3⟩ := m_nearer hS hP o1 mr1 hx h3 h4 en.1 en.2
  unfold vsleep
  by_cases h : vlv R (ven R l)
  · rw [am_cif_t h]
    refine ⟨M1, ?_, c2, fx_tr (fx_tr (fx_wr (by omega)) (fx_wr (by omega))) c3⟩
    simp (disch := omega) only [c_Mo_sleepIn, b_Mo_sleepIn_0, b_Mo_sleepIn_46, b_Mo_sleepIn_49, b_Mo_sleepIn_57, b_Mo_sleepIn_59, mo0, mr0, mr1, mr2, mr3, mr4, mr5, mr6, mr7, mr8, mr9, mr10, mr11, mk0, mk1, mk2, mk3, mk4, mk5, mk6, mk7, mk8, mk9, mk10, mk11, e3, a5, lv, bo_f (fun q : ¬ vlv R (ven R l) => q h), c1, am_ck_T, am_ck_t, am_cif_t, am_cif_f, am_cif_T, am_cif_F, am_then_s, am_push_s, am_push_n, true_and, and_true, true_or, or_true, Int.cast_ofNat_Int, am_02, am_22, not_true_eq_false, not_false_eq_true]
  · rw [am_cif_f h]
    refine ⟨_, ?_, mr1, fx_tr (fx_wr (by omega)) (fx_wr (by omega))⟩
    simp (disch := omega) only [c_Mo_sleepIn, b_Mo_sleepIn_0, b_Mo_sleepIn_46, b_Mo_sleepIn_49, b_Mo_sleepIn_57, b_Mo_sleepIn_59, mo0, mr0, mr1, mr2, mr3, mr4, mr5, mr6, mr7, mr8, mr9, mr10, mr11, mk0, mk1, mk2, mk3, mk4, mk5, mk6, mk7, mk8, mk9, mk10, mk11, e3, a5, lv, bo_t h, am_ck_T, am_ck_t, am_cif_t, am_cif_f, am_cif_T, am_cif_F, am_then_s, am_push_s, am_push_n, true_and, and_true, true_or, or_true, Int.cast_ofNat_Int, am_02, am_22, not_true_eq_false, not_false_eq_true]
end RIDE
