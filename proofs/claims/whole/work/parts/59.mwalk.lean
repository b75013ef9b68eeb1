/-! the reference's walks -/
/-- far behind r rounds, where those of Z have been found in the next one -/
def fq (E : Int → Int → Prop) (Q : Int → Prop) (r : Nat) (Z : Int → Prop) (M : am_M) : Prop := ∀ h, 0 ≤ h → h < 8 → (vN E Q r h → ∃ n : Nat, n ≤ r ∧ M 172 h = (n : Int) ∧ vN E Q n h ∧ ∀ m, m < n → ¬ vN E Q m h) ∧ (¬ vN E Q r h → Z h → M 172 h = (r : Int) + 1) ∧ (¬ vN E Q r h → ¬ Z h → M 172 h = 99999999)
/-- the fewest, in far -/
def mF (E : Int → Int → Prop) (Q : Int → Prop) (M : am_M) : Prop := ∀ h, 0 ≤ h → h < 8 → ∀ r, vdi E Q h r → (r = -1 → M 172 h = 99999999) ∧ (r ≠ -1 → M 172 h = r)
section MWALK
variable {S : am_S} {M : am_M} {P : vP} {R : vR} {B : Int} {x : Int} {E : Int → Int → Prop} {Q Z Z' : Int → Prop} {r : Nat}
theorem fq_c (h : fq E Q r Z M) (e : ∀ k, 0 ≤ k → k < 8 → (Z k ↔ Z' k)) : fq E Q r Z' M := fun k k1 k2 => ⟨(h k k1 k2).1, fun a b => (h k k1 k2).2.1 a ((e k k1 k2).mpr b), fun a b => (h k k1 k2).2.2 a (fun z => b ((e k k1 k2).mp z))⟩
theorem fq_rng (h : fq E Q r Z M) (hr : r ≤ 8) {k : Int} (k1 : 0 ≤ k) (k2 : k < 8) : 0 ≤ M 172 k ∧ M 172 k ≤ 99999999 := by
  obtain ⟨a1, a2, a3⟩ := h k k1 k2
  by_cases hv : vN E Q r k
  · obtain ⟨n, n1, n2, _⟩ := a1 hv; omega
  · by_cases hz : Z k
    · have := a2 hv hz; omega
    · have := a3 hv hz; omega
theorem fq_iff (h : fq E Q r Z M) (hr : r ≤ 8) {k : Int} (k1 : 0 ≤ k) (k2 : k < 8) : M 172 k = (r : Int) ↔ (vN E Q r k ∧ ∀ m, m < r → ¬ vN E Q m k) := by
  obtain ⟨a1, a2, a3⟩ := h k k1 k2
  constructor
  · intro e
    by_cases hv : vN E Q r k
    · obtain ⟨n, n1, n2, n3, n4⟩ := a1 hv
      obtain rfl : n = r := by omega
      exact ⟨n3, n4⟩
    · by_cases hz : Z k
      · have := a2 hv hz; omega
      · have := a3 hv hz; omega
  · rintro ⟨e1, e2⟩
    obtain ⟨n, n1, n2, n3, n4⟩ := a1 e1
    have : ¬ n < r := fun z => e2 n z n3
    omega
theorem fq_set (h : fq E Q r Z M) (hr : r ≤ 8) {t : Int} : fq E Q r (fun k => Z k ∨ k = t) (am_wr M 172 t (if M 172 t ≤ (r : Int) + 1 then M 172 t else (r : Int) + 1)) := by
  intro k k1 k2
  obtain ⟨a1, a2, a3⟩ := h k k1 k2
  by_cases hk : k = t
  · subst hk
    rw [am_wr_s]
    refine ⟨fun z => ?_, fun z _ => ?_, fun z w => absurd (Or.inr rfl) w⟩
    · obtain ⟨n, n1, n2, n3⟩ := a1 z
      exact ⟨n, n1, by rw [if_pos (by omega)]; exact n2, n3⟩
    · by_cases hz : Z k
      · have e := a2 z hz
        rw [if_pos (by omega)]; exact e
      · have e := a3 z hz
        rw [if_neg (by omega)]
  · rw [am_wr_i hk]
    exact ⟨a1, fun z w => a2 z (w.elim id (fun y => absurd y hk)), fun z w => a3 z (fun y => w (Or.inl y))⟩
theorem fq_next (h : fq E Q r Z M) (hz : ∀ k, 0 ≤ k → k < 8 → (Z k ↔ ∃ g, (vN E Q r g ∧ ∀ m, m < r → ¬ vN E Q m g) ∧ E g k)) : fq E Q (r + 1) (fun _ => False) M := by
  intro k k1 k2
  obtain ⟨a1, a2, a3⟩ := h k k1 k2
  by_cases hv : vN E Q r k
  · obtain ⟨n, n1, n2, n3⟩ := a1 hv
    exact ⟨fun _ => ⟨n, by omega, n2, n3⟩, fun z => absurd (Or.inl hv) z, fun z => absurd (Or.inl hv) z⟩
  · by_cases hZ : Z k
    · have e := a2 hv hZ
      obtain ⟨g, g1, g2⟩ := (hz k k1 k2).mp hZ
      have v1 : vN E Q (r + 1) k := Or.inr ⟨g, g1.1, g2⟩
      refine ⟨fun _ => ⟨r + 1, by omega, by rw [e]; omega, v1, fun m m1 z => hv (vN_mo (by omega) z)⟩, fun z => absurd v1 z, fun z => absurd v1 z⟩
    · have e := a3 hv hZ
      have nv : ¬ vN E Q (r + 1) k := by
        rintro (z | ⟨g, g1, g2⟩)
        · exact hv z
        · refine hZ ((hz k k1 k2).mpr ⟨g, ⟨g1, fun m m1 z => hv (vN_mo (m := m + 1) (by omega) (Or.inr ⟨g, z, g2⟩))⟩, g2⟩)
      exact ⟨fun z => absurd z nv, fun _ z => z.elim, fun _ _ => e⟩
theorem m_goOn (hS : ly S) (hP : okP P) (hR : okR P B R) (mp : mP P M) (mr : mR P R x M) (hx : 0 ≤ x ∧ x ≤ 2706) {p l g : Int} (h1 : 0 ≤ l) (h2 : l < vnl P) (h3 : 0 ≤ p) (h4 : p < vnp P) (h5 : 0 ≤ g) (h6 : g < vnp P) (hb : vbp P R l g ≠ -1) (hr : r ≤ 8) (h : fq E Q r Z M) : ∃ M1, am_call 151 [am_r 164, am_i x, am_i p, am_i l, am_i g, am_i (r : Int)] S M = some (none, S, M1) ∧ fq E Q r (fun k => Z k ∨ ve P R p l g k) M1 ∧ fr 172 172 M M1 := by
  obtain ⟨mo0, ⟨mr0, mr1, mr2, mr3, mr4, mr5, mr6, mr7, mr8, mr9, mr10, mr11⟩, mk0, mk1, mk2, mk3, mk4, mk5, mk6, mk7, mk8, mk9, mk10, mk11⟩ := hS.2.2.2.2.2.2.2.2.2.2
  have hP1 := hP.1
  have hP2 := hP.2.1
  have hP3 := hP.2.2.1
  have hP4 := hP.2.2.2.1
  have s1 := hP.2.2.2.2.1 l h1 h2
  have rb := vbp_rng R g (show 0 ≤ vsz P l by omega)
  have bp : vpl P R l g = vbp P R l g := by
    unfold vbp at hb ⊢
    by_cases hk : vpl P R l g = vsz P l - 1
    · rw [if_pos hk] at hb; exact absurd rfl hb
    · rw [if_neg hk]
  have e1 := m_where hS hP hR mp mr hx h1 h2 h5 h6
  rw [bp] at e1
  have e2 := m_far hS hP hR mp mr hx h1 h2 h3 h4 (show 0 ≤ vbp P R l g by omega) (show vbp P R l g < vsz P l by omega) (show (0 : Int) ≤ 5 by omega) (show (5 : Int) ≤ 5 by omega)
  have eb := fun k => ve_bp (p := p) (g := g) (h := k) hP hR h1 h2
  have rf := vfa_rng P R p l (min 5 (vsz P l - 1 - vbp P R l g)).toNat (vbp P R l g)
  generalize vfa P R p l (min 5 (vsz P l - 1 - vbp P R l g)).toNat (vbp P R l g) = to at e2 eb rf
  have loop : ∀ (n : Nat) (k : Int) (M : am_M) (o9 : Option am_V), k + n = to + 1 → vbp P R l g < k → mP P M → mR P R x M → fq E Q r (fun t => Z t ∨ ∃ m, vbp P R l g < m ∧ m < k ∧ vsp P R l m = t) M → ∃ M1, am_R 151 28 [some (am_r 164), some (am_i x), some (am_i p), some (am_i l), some (am_i g), some (am_i (r : Int)), some (am_i (vbp P R l g)), some (am_i to), some (am_i k), o9] [] S M = some (none, S, M1) ∧ fq E Q r (fun k => Z k ∨ ve P R p l g k) M1 ∧ fr 172 172 M M1 := by
    intro n
    induction n with
    | zero =>
      intro k M o9 k1 k2 mp mr hz
      refine ⟨M, ?_, fq_c hz (fun t _ _ => ?_), fr_rf⟩
      · rw [b_Mo_goOn_28]
        simp (disch := omega) only [b_Mo_goOn_86, am_ck_T, am_ck_t, am_cif_t, am_cif_f, am_cif_T, am_cif_F, am_then_s, am_push_s, am_push_n, true_and, and_true, true_or, or_true, Int.cast_ofNat_Int, am_02, am_22, not_true_eq_false, not_false_eq_true]
      · rw [eb t]
        exact ⟨fun z => z.elim Or.inl (fun ⟨m, m1, m2, m3⟩ => Or.inr ⟨hb, m, m1, by omega, m3⟩), fun z => z.elim Or.inl (fun ⟨_, m, m1, m2, m3⟩ => Or.inr ⟨m, m1, by omega, m3⟩)⟩
    | succ n ih =>
      intro k M o9 k1 k2 mp mr hz
      have st := m_stop hS hP mp mr hx h1 h2 (show 0 ≤ k by omega) (show k < vsz P l by omega)
      have sr := vsp_rng hP hR h1 h2 (show 0 ≤ k by omega) (show k < vsz P l by omega)
      have fr0 := fq_rng hz hr sr.1 (show vsp P R l k < 8 by omega)
      have hz2 := fq_set hz hr (t := vsp P R l k)
      have f0 : fr 172 172 M (am_wr M 172 (vsp P R l k) (if M 172 (vsp P R l k) ≤ (r : Int) + 1 then M 172 (vsp P R l k) else (r : Int) + 1)) := fr_wr (by omega)
      obtain ⟨M1, d1, d2, d3⟩ := ih (k + 1) _ (some (am_i (vsp P R l k))) (by omega) (by omega) (mP_fr (fun c hc j => f0 c (by omega) j) mp) (mR_fr hP (fun j _ _ => f0 165 (by omega) j) mr) (fq_c hz2 (fun t _ _ => by
        constructor
        · rintro ((z | ⟨m, m1, m2, m3⟩) | z)
          · exact Or.inl z
          · exact Or.inr ⟨m, m1, by omega, m3⟩
          · exact Or.inr ⟨k, k2, by omega, z.symm⟩
        · rintro (z | ⟨m, m1, m2, m3⟩)
          · exact Or.inl (Or.inl z)
          · by_cases hm : m = k
            · rw [hm] at m3; exact Or.inr m3.symm
            · exact Or.inl (Or.inr ⟨m, m1, by omega, m3⟩)))
      refine ⟨M1, ?_, d2, fr_tr f0 d3⟩
      rw [b_Mo_goOn_28]
      by_cases hc : M 172 (vsp P R l k) ≤ (r : Int) + 1
      · rw [if_pos hc] at d1
        simp (disch := omega) only [b_Mo_goOn_35, b_Mo_goOn_43, b_Mo_goOn_72, b_Mo_goOn_79, mo0, mr0, mr1, mr2, mr3, mr4, mr5, mr6, mr7, mr8, mr9, mr10, mr11, mk0, mk1, mk2, mk3, mk4, mk5, mk6, mk7, mk8, mk9, mk10, mk11, st, d1, am_ck_T, am_ck_t, am_cif_t, am_cif_f, am_cif_T, am_cif_F, am_then_s, am_push_s, am_push_n, true_and, and_true, true_or, or_true, Int.cast_ofNat_Int, am_02, am_22, not_true_eq_false, not_false_eq_true]
      · rw [if_neg hc] at d1
        simp (disch := omega) only [b_Mo_goOn_35, b_Mo_goOn_43, b_Mo_goOn_65, b_Mo_goOn_79, mo0, mr0, mr1, mr2, mr3, mr4, mr5, mr6, mr7, mr8, mr9, mr10, mr11, mk0, mk1, mk2, mk3, mk4, mk5, mk6, mk7, mk8, mk9, mk10, mk11, st, d1, am_ck_T, am_ck_t, am_cif_t, am_cif_f, am_cif_T, am_cif_F, am_then_s, am_push_s, am_push_n, true_and, and_true, true_or, or_true, Int.cast_ofNat_Int, am_02, am_22, not_true_eq_false, not_false_eq_true]
  obtain ⟨M1, d1, d2, d3⟩ := loop (to + 1 - (vbp P R l g + 1)).toNat (vbp P R l g + 1) M none (by omega) (by omega) mp mr (fq_c h (fun t _ _ => ⟨Or.inl, fun z => z.elim id (fun ⟨m, m1, m2, _⟩ => by omega)⟩))
  refine ⟨M1, ?_, d2, d3⟩
  simp (disch := omega) only [c_Mo_goOn, b_Mo_goOn_0, b_Mo_goOn_8, b_Mo_goOn_20, mo0, mr0, mr1, mr2, mr3, mr4, mr5, mr6, mr7, mr8, mr9, mr10, mr11, mk0, mk1, mk2, mk3, mk4, mk5, mk6, mk7, mk8, mk9, mk10, mk11, e1, e2, d1, am_ck_T, am_ck_t, am_cif_t, am_cif_f, am_cif_T, am_cif_F, am_then_s, am_push_s, am_push_n, true_and, and_true, true_or, or_true, Int.cast_ofNat_Int, am_02, am_22, not_true_eq_false, not_false_eq_true]
theorem m_layWays (hS : ly S) (hP : okP P) (hR : okR P B R) (mp : mP P M) (mr : mR P R x M) (hx : 0 ≤ x ∧ x ≤ 2706) {p fm by_ w : Int} (h3 : 0 ≤ p) (h4 : p < vnp P) (h5 : 0 ≤ fm) (h6 : fm < vnp P) (hw : ∀ l, 0 ≤ l → l < vnl P → (am_and (am_shr by_ l) 1 = 1 ↔ l ≠ w)) : ∃ M1, am_call 150 [am_r 164, am_i x, am_i p, am_i fm, am_i by_] S M = some (none, S, M1) ∧ mF (vE P R p w) (fun k => k = fm) M1 ∧ fr 172 172 M M1 := by
  obtain ⟨mo0, ⟨mr0, mr1, mr2, mr3, mr4, mr5, mr6, mr7, mr8, mr9, mr10, mr11⟩, mk0, mk1, mk2, mk3, mk4, mk5, mk6, mk7, mk8, mk9, mk10, mk11⟩ := hS.2.2.2.2.2.2.2.2.2.2
  have hP1 := hP.1
  have hP2 := hP.2.1
  have hP3 := hP.2.2.1
  have hP4 := hP.2.2.2.1
  have z : ∀ (n : Nat) (i : Int) (M : am_M), 0 ≤ i → i + n = 8 → (∀ j, 0 ≤ j → j < i → M 172 j = if j = fm then 0 else 99999999) → ∃ M1, am_R 150 3 [some (am_r 164), some (am_i x), some (am_i p), some (am_i fm), some (am_i by_), some (am_i i), none, none] [] S M = am_R 150 35 [some (am_r 164), some (am_i x), some (am_i p), some (am_i fm), some (am_i by_), some (am_i 8), none, none] [] S M1 ∧ (∀ j, 0 ≤ j → j < 8 → M1 172 j = if j = fm then 0 else 99999999) ∧ fr 172 172 M M1 := by
    intro n
    induction n with
    | zero =>
      intro i M i1 i2 h
      obtain rfl : i = 8 := by omega
      refine ⟨M, ?_, h, fr_rf⟩
      rw [b_Mo_layWays_3]
      simp (disch := omega) only [am_ck_T, am_ck_t, am_cif_t, am_cif_f, am_cif_T, am_cif_F, am_then_s, am_push_s, am_push_n, true_and, and_true, true_or, or_true, Int.cast_ofNat_Int, am_02, am_22, not_true_eq_false, not_false_eq_true]
    | succ n ih =>
      intro i M i1 i2 h
      obtain ⟨M1, d1, d2, d3⟩ := ih (i + 1) (am_wr M 172 i (if i = fm then 0 else 99999999)) (by omega) (by omega) (fun j j1 j2 => by
        by_cases hj : j = i
        · rw [hj, am_wr_s]
        · rw [am_wr_i hj]; exact h j j1 (by omega))
      refine ⟨M1, ?_, d2, fr_tr (fr_wr (by omega)) d3⟩
      rw [b_Mo_layWays_3]
      by_cases hc : i = fm
      · rw [if_pos hc] at d1
        simp (disch := omega) only [b_Mo_layWays_10, b_Mo_layWays_22, b_Mo_layWays_28, mo0, mr0, mr1, mr2, mr3, mr4, mr5, mr6, mr7, mr8, mr9, mr10, mr11, mk0, mk1, mk2, mk3, mk4, mk5, mk6, mk7, mk8, mk9, mk10, mk11, d1, am_ck_T, am_ck_t, am_cif_t, am_cif_f, am_cif_T, am_cif_F, am_then_s, am_push_s, am_push_n, true_and, and_true, true_or, or_true, Int.cast_ofNat_Int, am_02, am_22, not_true_eq_false, not_false_eq_true]
      · rw [if_neg hc] at d1
        simp (disch := omega) only [b_Mo_layWays_10, b_Mo_layWays_26, b_Mo_layWays_28, mo0, mr0, mr1, mr2, mr3, mr4, mr5, mr6, mr7, mr8, mr9, mr10, mr11, mk0, mk1, mk2, mk3, mk4, mk5, mk6, mk7, mk8, mk9, mk10, mk11, d1, am_ck_T, am_ck_t, am_cif_t, am_cif_f, am_cif_T, am_cif_F, am_then_s, am_push_s, am_push_n, true_and, and_true, true_or, or_true, Int.cast_ofNat_Int, am_02, am_22, not_true_eq_false, not_false_eq_true]
  have lloop : ∀ (r : Nat) (g : Int) (Z : Int → Prop), r ≤ 8 → 0 ≤ g → g < vnp P → ∀ (n : Nat) (l : Int) (M : am_M), 0 ≤ l → l + n = vnl P → mP P M → mR P R x M → (vN (vE P R p w) (fun k => k = fm) r g ∧ ∀ m, m < r → ¬ vN (vE P R p w) (fun k => k = fm) m g) → fq (vE P R p w) (fun k => k = fm) r (fun k => Z k ∨ ∃ i, 0 ≤ i ∧ i < l ∧ i ≠ w ∧ ve P R p i g k) M → ∃ M1, am_R 150 62 [some (am_r 164), some (am_i x), some (am_i p), some (am_i fm), some (am_i by_), some (am_i (r : Int)), some (am_i g), some (am_i l)] [] S M = am_R 150 123 [some (am_r 164), some (am_i x), some (am_i p), some (am_i fm), some (am_i by_), some (am_i (r : Int)), some (am_i g), some (am_i (vnl P))] [] S M1 ∧ fq (vE P R p w) (fun k => k = fm) r (fun k => Z k ∨ vE P R p w g k) M1 ∧ fr 172 172 M M1 := by
    intro r g Z hr g1 g2 n
    induction n with
    | zero =>
      intro l M l1 l2 mp mr hD hz
      obtain rfl : l = vnl P := by omega
      have c2 := mp.2.1
      refine ⟨M, ?_, hz, fr_rf⟩
      rw [b_Mo_layWays_62]
      simp (disch := omega) only [mo0, mr0, mr1, mr2, mr3, mr4, mr5, mr6, mr7, mr8, mr9, mr10, mr11, mk0, mk1, mk2, mk3, mk4, mk5, mk6, mk7, mk8, mk9, mk10, mk11, c2, am_ck_T, am_ck_t, am_cif_t, am_cif_f, am_cif_T, am_cif_F, am_then_s, am_push_s, am_push_n, true_and, and_true, true_or, or_true, Int.cast_ofNat_Int, am_02, am_22, not_true_eq_false, not_false_eq_true]
    | succ n ih =>
      intro l M l1 l2 mp mr hD hz
      have c2 := mp.2.1
      have fg := (fq_iff hz hr g1 (by omega)).mpr hD
      have e1 := m_has (S := S) (M := M) by_ l
      have e2 := m_canBoard hS hP hR mp mr hx l1 (show l < vnl P by omega) g1 g2
      have eb := fun k => ve_bp (p := p) (g := g) (h := k) hP hR l1 (show l < vnl P by omega)
      by_cases hl : l = w
      · rw [bo_f (fun z => (hw l l1 (by omega)).mp z hl)] at e1
        obtain ⟨M1, d1, d2, d3⟩ := ih (l + 1) M (by omega) (by omega) mp mr hD (fq_c hz (fun t _ _ => ⟨fun z => z.elim Or.inl (fun ⟨i, z1, z2, z3⟩ => Or.inr ⟨i, z1, by omega, z3⟩), fun z => z.elim Or.inl (fun ⟨i, z1, z2, z3⟩ => Or.inr ⟨i, z1, by have := z3.1; omega, z3⟩)⟩))
        refine ⟨M1, ?_, d2, d3⟩
        rw [b_Mo_layWays_62]
        simp (disch := omega) only [b_Mo_layWays_71, b_Mo_layWays_83, b_Mo_layWays_90, b_Mo_layWays_117, mo0, mr0, mr1, mr2, mr3, mr4, mr5, mr6, mr7, mr8, mr9, mr10, mr11, mk0, mk1, mk2, mk3, mk4, mk5, mk6, mk7, mk8, mk9, mk10, mk11, c2, fg, e1, d1, am_ck_T, am_ck_t, am_cif_t, am_cif_f, am_cif_T, am_cif_F, am_then_s, am_push_s, am_push_n, true_and, and_true, true_or, or_true, Int.cast_ofNat_Int, am_02, am_22, not_true_eq_false, not_false_eq_true]
      · rw [bo_t ((hw l l1 (by omega)).mpr hl)] at e1
        by_cases hb : vbp P R l g = -1
        · rw [bo_f (fun z => z hb)] at e2
          obtain ⟨M1, d1, d2, d3⟩ := ih (l + 1) M (by omega) (by omega) mp mr hD (fq_c hz (fun t _ _ => ⟨fun z => z.elim Or.inl (fun ⟨i, z1, z2, z3⟩ => Or.inr ⟨i, z1, by omega, z3⟩), fun z => z.elim Or.inl (fun ⟨i, z1, z2, z3, z4⟩ => Or.inr ⟨i, z1, by
            by_cases hi : i = l
            · rw [hi] at z4; exact absurd hb ((eb t).mp z4).1
            · omega, z3, z4⟩)⟩))
          refine ⟨M1, ?_, d2, d3⟩
          rw [b_Mo_layWays_62]
          simp (disch := omega) only [b_Mo_layWays_71, b_Mo_layWays_83, b_Mo_layWays_90, b_Mo_layWays_93, b_Mo_layWays_102, b_Mo_layWays_117, mo0, mr0, mr1, mr2, mr3, mr4, mr5, mr6, mr7, mr8, mr9, mr10, mr11, mk0, mk1, mk2, mk3, mk4, mk5, mk6, mk7, mk8, mk9, mk10, mk11, c2, fg, e1, e2, d1, am_ck_T, am_ck_t, am_cif_t, am_cif_f, am_cif_T, am_cif_F, am_then_s, am_push_s, am_push_n, true_and, and_true, true_or, or_true, Int.cast_ofNat_Int, am_02, am_22, not_true_eq_false, not_false_eq_true]
        · rw [bo_t hb] at e2
          obtain ⟨M0, f1, f2, f3⟩ := m_goOn hS hP hR mp mr hx l1 (show l < vnl P by omega) h3 h4 g1 g2 hb hr hz
          obtain ⟨M1, d1, d2, d3⟩ := ih (l + 1) M0 (by omega) (by omega) (mP_fr (fun c hc j => f3 c (by omega) j) mp) (mR_fr hP (fun j _ _ => f3 165 (by omega) j) mr) hD (fq_c f2 (fun t _ _ => by
            constructor
            · rintro ((z | ⟨i, z1, z2, z3⟩) | z)
              · exact Or.inl z
              · exact Or.inr ⟨i, z1, by omega, z3⟩
              · exact Or.inr ⟨l, l1, by omega, hl, z⟩
            · rintro (z | ⟨i, z1, z2, z3, z4⟩)
              · exact Or.inl (Or.inl z)
              · by_cases hi : i = l
                · rw [hi] at z4; exact Or.inr z4
                · exact Or.inl (Or.inr ⟨i, z1, by omega, z3, z4⟩)))
          refine ⟨M1, ?_, d2, fr_tr f3 d3⟩
          rw [b_Mo_layWays_62]
          simp (disch := omega) only [b_Mo_layWays_71, b_Mo_layWays_83, b_Mo_layWays_90, b_Mo_layWays_93, b_Mo_layWays_102, b_Mo_layWays_105, b_Mo_layWays_117, mo0, mr0, mr1, mr2, mr3, mr4, mr5, mr6, mr7, mr8, mr9, mr10, mr11, mk0, mk1, mk2, mk3, mk4, mk5, mk6, mk7, mk8, mk9, mk10, mk11, c2, fg, e1, e2, f1, d1, am_ck_T, am_ck_t, am_cif_t, am_cif_f, am_cif_T, am_cif_F, am_then_s, am_push_s, am_push_n, true_and, and_true, true_or, or_true, Int.cast_ofNat_Int, am_02, am_22, not_true_eq_false, not_false_eq_true]
  have gloop : ∀ (r : Nat), r < 8 → ∀ (n : Nat) (g : Int) (M : am_M) (o7 : Option am_V), 0 ≤ g → g + n = vnp P → mP P M → mR P R x M → fq (vE P R p w) (fun k => k = fm) r (fun k => ∃ t, t < g ∧ (vN (vE P R p w) (fun k => k = fm) r t ∧ ∀ m, m < r → ¬ vN (vE P R p w) (fun k => k = fm) m t) ∧ vE P R p w t k) M → ∃ M1 o8, am_R 150 50 [some (am_r 164), some (am_i x), some (am_i p), some (am_i fm), some (am_i by_), some (am_i (r : Int)), some (am_i g), o7] [] S M = am_R 150 38 [some (am_r 164), some (am_i x), some (am_i p), some (am_i fm), some (am_i by_), some (am_i ((r : Int) + 1)), some (am_i (vnp P)), o8] [] S M1 ∧ fq (vE P R p w) (fun k => k = fm) (r + 1) (fun _ => False) M1 ∧ fr 172 172 M M1 := by
    intro r hr n
    induction n with
    | zero =>
      intro g M o7 g1 g2 mp mr hz
      obtain rfl : g = vnp P := by omega
      have c1 := mp.1
      refine ⟨M, o7, ?_, fq_next hz (fun k k1 k2 => ?_), fr_rf⟩
      · rw [b_Mo_layWays_50]
        simp (disch := omega) only [b_Mo_layWays_129, mo0, mr0, mr1, mr2, mr3, mr4, mr5, mr6, mr7, mr8, mr9, mr10, mr11, mk0, mk1, mk2, mk3, mk4, mk5, mk6, mk7, mk8, mk9, mk10, mk11, c1, am_ck_T, am_ck_t, am_cif_t, am_cif_f, am_cif_T, am_cif_F, am_then_s, am_push_s, am_push_n, true_and, and_true, true_or, or_true, Int.cast_ofNat_Int, am_02, am_22, not_true_eq_false, not_false_eq_true]
      · constructor
        · rintro ⟨t, _, t2⟩; exact ⟨t, t2⟩
        · rintro ⟨t, t2, t3⟩
          obtain ⟨l, l1, l2, l3, l4⟩ := t3
          have := (ve_rng hP hR l1 l2 l4).1
          exact ⟨t, by omega, t2, ⟨l, l1, l2, l3, l4⟩⟩
    | succ n ih =>
      intro g M o7 g1 g2 mp mr hz
      have c1 := mp.1
      have c2 := mp.2.1
      have hfi := fq_iff hz (show r ≤ 8 by omega) g1 (show g < 8 by omega)
      have rg := fq_rng hz (show r ≤ 8 by omega) g1 (show g < 8 by omega)
      by_cases hD : vN (vE P R p w) (fun k => k = fm) r g ∧ ∀ m, m < r → ¬ vN (vE P R p w) (fun k => k = fm) m g
      · obtain ⟨M0, f1, f2, f3⟩ := lloop r g _ (by omega) g1 (by omega) (vnl P).toNat 0 M (by omega) (by omega) mp mr hD (fq_c hz (fun t _ _ => ⟨Or.inl, fun z => z.elim id (fun ⟨i, z1, z2, _⟩ => by omega)⟩))
        obtain ⟨M1, o8, d1, d2, d3⟩ := ih (g + 1) M0 (some (am_i (vnl P))) (by omega) (by omega) (mP_fr (fun c hc j => f3 c (by omega) j) mp) (mR_fr hP (fun j _ _ => f3 165 (by omega) j) mr) (fq_c f2 (fun t _ _ => by
          constructor
          · rintro (⟨i, z1, z2⟩ | z)
            · exact ⟨i, by omega, z2⟩
            · exact ⟨g, by omega, hD, z⟩
          · rintro ⟨i, z1, z2, z3⟩
            by_cases hi : i = g
            · rw [hi] at z3; exact Or.inr z3
            · exact Or.inl ⟨i, by omega, z2, z3⟩))
        refine ⟨M1, o8, ?_, d2, fr_tr f3 d3⟩
        rw [b_Mo_layWays_50]
        simp (disch := omega) only [b_Mo_layWays_59, f1, b_Mo_layWays_123, mo0, mr0, mr1, mr2, mr3, mr4, mr5, mr6, mr7, mr8, mr9, mr10, mr11, mk0, mk1, mk2, mk3, mk4, mk5, mk6, mk7, mk8, mk9, mk10, mk11, c1, d1, am_ck_T, am_ck_t, am_cif_t, am_cif_f, am_cif_T, am_cif_F, am_then_s, am_push_s, am_push_n, true_and, and_true, true_or, or_true, Int.cast_ofNat_Int, am_02, am_22, not_true_eq_false, not_false_eq_true]
      · obtain ⟨M1, o8, d1, d2, d3⟩ := ih (g + 1) M (some (am_i 0)) (by omega) (by omega) mp mr (fq_c hz (fun t _ _ => by
          constructor
          · rintro ⟨i, z1, z2⟩
            exact ⟨i, by omega, z2⟩
          · rintro ⟨i, z1, z2, z3⟩
            by_cases hi : i = g
            · rw [hi] at z2; exact absurd z2 hD
            · exact ⟨i, by omega, z2, z3⟩))
        refine ⟨M1, o8, ?_, d2, d3⟩
        have ne : ¬ M 172 g = (r : Int) := fun z => hD (hfi.mp z)
        rw [b_Mo_layWays_50]
        by_cases hl0 : vnl P = 0
        · simp (disch := omega) only [b_Mo_layWays_59, b_Mo_layWays_62, b_Mo_layWays_123, mo0, mr0, mr1, mr2, mr3, mr4, mr5, mr6, mr7, mr8, mr9, mr10, mr11, mk0, mk1, mk2, mk3, mk4, mk5, mk6, mk7, mk8, mk9, mk10, mk11, c1, c2, d1, am_ck_T, am_ck_t, am_cif_t, am_cif_f, am_cif_T, am_cif_F, am_then_s, am_push_s, am_push_n, true_and, and_true, true_or, or_true, Int.cast_ofNat_Int, am_02, am_22, not_true_eq_false, not_false_eq_true]
        · simp (disch := omega) only [b_Mo_layWays_59, b_Mo_layWays_62, b_Mo_layWays_71, b_Mo_layWays_123, mo0, mr0, mr1, mr2, mr3, mr4, mr5, mr6, mr7, mr8, mr9, mr10, mr11, mk0, mk1, mk2, mk3, mk4, mk5, mk6, mk7, mk8, mk9, mk10, mk11, c1, c2, d1, am_ck_T, am_ck_t, am_cif_t, am_cif_f, am_cif_T, am_cif_F, am_then_s, am_push_s, am_push_n, true_and, and_true, true_or, or_true, Int.cast_ofNat_Int, am_02, am_22, not_true_eq_false, not_false_eq_true]
  have rloop : ∀ (n : Nat) (r : Nat) (M : am_M) (o6 o7 : Option am_V), (r : Int) + n = vnp P → mP P M → mR P R x M → fq (vE P R p w) (fun k => k = fm) r (fun _ => False) M → ∃ M1, am_R 150 38 [some (am_r 164), some (am_i x), some (am_i p), some (am_i fm), some (am_i by_), some (am_i (r : Int)), o6, o7] [] S M = some (none, S, M1) ∧ fq (vE P R p w) (fun k => k = fm) (vnp P).toNat (fun _ => False) M1 ∧ fr 172 172 M M1 := by
    intro n
    induction n with
    | zero =>
      intro r M o6 o7 hr mp mr hz
      obtain rfl : r = (vnp P).toNat := by omega
      have c1 := mp.1
      refine ⟨M, ?_, hz, fr_rf⟩
      rw [b_Mo_layWays_38]
      simp (disch := omega) only [b_Mo_layWays_135, mo0, mr0, mr1, mr2, mr3, mr4, mr5, mr6, mr7, mr8, mr9, mr10, mr11, mk0, mk1, mk2, mk3, mk4, mk5, mk6, mk7, mk8, mk9, mk10, mk11, c1, am_ck_T, am_ck_t, am_cif_t, am_cif_f, am_cif_T, am_cif_F, am_then_s, am_push_s, am_push_n, true_and, and_true, true_or, or_true, Int.cast_ofNat_Int, am_02, am_22, not_true_eq_false, not_false_eq_true]
    | succ n ih =>
      intro r M o6 o7 hr mp mr hz
      have c1 := mp.1
      obtain ⟨M0, o8, f1, f2, f3⟩ := gloop r (by omega) (vnp P).toNat 0 M o7 (by omega) (by omega) mp mr (fq_c hz (fun t _ _ => ⟨fun z => z.elim, fun ⟨i, z1, _, l, l1, l2, _, l4⟩ => by have := (ve_rng hP hR l1 l2 l4).1; omega⟩))
      obtain ⟨M1, d1, d2, d3⟩ := ih (r + 1) M0 (some (am_i (vnp P))) o8 (by omega) (mP_fr (fun c hc j => f3 c (by omega) j) mp) (mR_fr hP (fun j _ _ => f3 165 (by omega) j) mr) f2
      rw [Int.natCast_add, Int.natCast_one] at d1
      refine ⟨M1, ?_, d2, fr_tr f3 d3⟩
      rw [b_Mo_layWays_38]
      simp (disch := omega) only [b_Mo_layWays_47, mo0, mr0, mr1, mr2, mr3, mr4, mr5, mr6, mr7, mr8, mr9, mr10, mr11, mk0, mk1, mk2, mk3, mk4, mk5, mk6, mk7, mk8, mk9, mk10, mk11, c1, f1, d1, am_ck_T, am_ck_t, am_cif_t, am_cif_f, am_cif_T, am_cif_F, am_then_s, am_push_s, am_push_n, true_and, and_true, true_or, or_true, Int.cast_ofNat_Int, am_02, am_22, not_true_eq_false, not_false_eq_true]
  obtain ⟨M0, f1, f2, f3⟩ := z 8 0 M (by omega) (by omega) (fun j j1 j2 => absurd j2 (by omega))
  have hz0 : fq (vE P R p w) (fun k => k = fm) 0 (fun _ => False) M0 := by
    intro k k1 k2
    have e := f2 k k1 k2
    refine ⟨fun z => ?_, fun _ z => z.elim, fun z _ => ?_⟩
    · have z' : k = fm := z
      rw [if_pos z'] at e
      exact ⟨0, by omega, e, z, fun m hm => absurd hm (by omega)⟩
    · have z' : ¬ k = fm := z
      rw [if_neg z'] at e
      exact e
  obtain ⟨M1, d1, d2, d3⟩ := rloop (vnp P).toNat 0 M0 none none (by omega) (mP_fr (fun c hc j => f3 c (by omega) j) mp) (mR_fr hP (fun j _ _ => f3 165 (by omega) j) mr) hz0
  have d1' : am_R 150 38 [some (am_r 164), some (am_i x), some (am_i p), some (am_i fm), some (am_i by_), some (am_i 0), none, none] [] S M0 = _ := d1
  refine ⟨M1, ?_, fun h k1 k2 r hr => ?_, fr_tr f3 d3⟩
  · simp (disch := omega) only [c_Mo_layWays, b_Mo_layWays_0, f1, b_Mo_layWays_35, d1', am_ck_T, am_ck_t, am_cif_t, am_cif_f, am_cif_T, am_cif_F, am_then_s, am_push_s, am_push_n, true_and, and_true, true_or, or_true, Int.cast_ofNat_Int, am_02, am_22, not_true_eq_false, not_false_eq_true]
  · obtain ⟨a1, a2, a3⟩ := d2 h k1 k2
    rcases hr with ⟨n, n1, n2, n3⟩ | ⟨n1, n2⟩
    · refine ⟨fun z => absurd z (by omega), fun _ => ?_⟩
      have st := vN_stab (np := (vnp P).toNat) h5 (by omega) (vE_rng hP hR) n h n2
      obtain ⟨m, m1, m2, m3, m4⟩ := a1 (vN_mo (by omega) st)
      have q1 : ¬ m < n := fun z => n3 m z m3
      have q2 : ¬ n < m := fun z => m4 n z n2
      omega
    · exact ⟨fun _ => a3 (n2 _) (fun z => z), fun z => absurd n1 z⟩
end MWALK
