/-! sums; rows copied -/
def vsum (f : Int → Int) : Nat → Int → Int
  | 0, _ => 0
  | n + 1, i => f i + vsum f n (i + 1)
theorem vsum_end (f : Int → Int) : ∀ (n : Nat) (i : Int), vsum f (n + 1) i = vsum f n i + f (i + n) := by
  intro n
  induction n with
  | zero => intro i; simp [vsum]
  | succ n ih =>
    intro i
    have h := ih (i + 1)
    have e : i + 1 + (n : Int) = i + ((n + 1 : Nat) : Int) := by omega
    rw [e] at h
    show f i + vsum f (n + 1) (i + 1) = (f i + vsum f n (i + 1)) + f (i + ((n + 1 : Nat) : Int))
    rw [h]; omega
theorem vsum_congr {f g : Int → Int} : ∀ (n : Nat) (i : Int), (∀ j, i ≤ j → j < i + n → f j = g j) → vsum f n i = vsum g n i := by
  intro n
  induction n with
  | zero => intro i _; rfl
  | succ n ih =>
    intro i h
    show f i + vsum f n (i + 1) = g i + vsum g n (i + 1)
    rw [h i (by omega) (by omega), ih (i + 1) (fun j h1 h2 => h j (by omega) (by omega))]
theorem vsum_add {f g : Int → Int} : ∀ (n : Nat) (i : Int), vsum (fun j => f j + g j) n i = vsum f n i + vsum g n i := by
  intro n
  induction n with
  | zero => intro i; rfl
  | succ n ih =>
    intro i
    show (f i + g i) + vsum (fun j => f j + g j) n (i + 1) = (f i + vsum f n (i + 1)) + (g i + vsum g n (i + 1))
    rw [ih]; omega
theorem vsum_rng {f : Int → Int} {K : Int} (hK : 0 ≤ K) : ∀ (n : Nat) (i : Int), (∀ j, i ≤ j → j < i + n → 0 ≤ f j ∧ f j ≤ K) → 0 ≤ vsum f n i ∧ vsum f n i ≤ n * K := by
  intro n
  induction n with
  | zero => intro i _; show (0 : Int) ≤ 0 ∧ (0 : Int) ≤ ((0 : Nat) : Int) * K; omega
  | succ n ih =>
    intro i h
    have h1 := h i (by omega) (by omega)
    have h2 := ih (i + 1) (fun j a c => h j (by omega) (by omega))
    show 0 ≤ f i + vsum f n (i + 1) ∧ f i + vsum f n (i + 1) ≤ ((n + 1 : Nat) : Int) * K
    have e : ((n + 1 : Nat) : Int) * K = (n : Int) * K + K := by
      rw [show ((n + 1 : Nat) : Int) = (n : Int) + 1 by omega, Int.add_mul, Int.one_mul]
    omega
/-- how near all are together -/
def vtg (P : vP) (R : vR) : Int := vsum (fun p => vsum (vnr R p) p.toNat 0) (vnp P).toNat 0
theorem vsum_tri {f : Int → Int → Int} : ∀ (n : Nat), (∀ a c : Int, 0 ≤ a → a < (n : Int) → 0 ≤ c → c < (n : Int) → f a c = f c a) → vsum (fun p => vsum (f p) (((n : Int) - (p + 1)).toNat) (p + 1)) n 0 = vsum (fun p => vsum (f p) p.toNat 0) n 0 := by
  intro n
  induction n with
  | zero => intro _; rfl
  | succ n ih =>
    intro h
    rw [vsum_end, vsum_end]
    have e1 : vsum (fun p => vsum (f p) ((((n + 1 : Nat) : Int) - (p + 1)).toNat) (p + 1)) n 0 = vsum (fun p => vsum (f p) (((n : Int) - (p + 1)).toNat) (p + 1) + f p n) n 0 := by
      refine vsum_congr n 0 (fun p h1 h2 => ?_)
      show vsum (f p) ((((n + 1 : Nat) : Int) - (p + 1)).toNat) (p + 1) = vsum (f p) (((n : Int) - (p + 1)).toNat) (p + 1) + f p n
      rw [show (((n + 1 : Nat) : Int) - (p + 1)).toNat = ((n : Int) - (p + 1)).toNat + 1 by omega, vsum_end, show p + 1 + ((((n : Int) - (p + 1)).toNat : Nat) : Int) = (n : Int) by omega]
    have e2 : vsum (f n) ((((n + 1 : Nat) : Int) - ((n : Int) + 1)).toNat) ((n : Int) + 1) = 0 := by
      rw [show (((n + 1 : Nat) : Int) - ((n : Int) + 1)).toNat = 0 by omega]; rfl
    have e3 : vsum (fun p => f p n) n 0 = vsum (f n) n 0 := vsum_congr n 0 (fun p h1 h2 => h p n (by omega) (by omega) (by omega) (by omega))
    rw [e1, vsum_add, ih (fun a c h1 h2 h3 h4 => h a c h1 (by omega) h3 (by omega)), e3]
    show _ + _ + vsum (f (0 + (n : Int))) ((((n + 1 : Nat) : Int) - (0 + (n : Int) + 1)).toNat) (0 + (n : Int) + 1) = _ + vsum (f (0 + (n : Int))) (0 + (n : Int)).toNat 0
    rw [Int.zero_add, e2, Int.toNat_natCast]
    omega
theorem vtg_rng {P : vP} {R : vR} {B : Int} (hP : okP P) (hR : okR P B R) : 0 ≤ vtg P R ∧ vtg P R ≤ 576 := by
  have hP1 := hP.1
  have hP2 := hP.2.1
  have hP3 := hP.2.2.1
  have hP4 := hP.2.2.2.1
  have h1 : ∀ p, 0 ≤ p → p < 0 + ((vnp P).toNat : Int) → 0 ≤ vsum (vnr R p) p.toNat 0 ∧ vsum (vnr R p) p.toNat 0 ≤ 72 := by
    intro p a c
    have := vsum_rng (f := vnr R p) (K := 9) (by omega) p.toNat 0 (fun j d e => by have := hR.1 p j a (by omega) (by omega) (by omega); omega)
    omega
  have := vsum_rng (f := fun p => vsum (vnr R p) p.toNat 0) (K := 72) (by omega) (vnp P).toNat 0 h1
  unfold vtg
  omega
section COPY
variable {S : am_S} {M : am_M} {P : vP} {R : vR} {B : Int} {b : Nat} {x : Int}
theorem k_together (hS : ly S) (hb : lf b) (hP : okP P) (cp : cP P M) (cr : cR P R b M) : am_call 14 [am_r b] S M = some (some (am_i (vtg P R)), S, M) := by
  obtain ⟨li0, li1, li2, li3, li4, li5, li6, li7⟩ := hS.2.2.2.2.1 b hb
  obtain ⟨pl0, pl1, pl2, pl3, pl4, pl5, pl6, pl7, pl8⟩ := hS.2.1
  have hP1 := hP.1
  have hP2 := hP.2.1
  have hP3 := hP.2.2.1
  have hP4 := hP.2.2.2.1
  have c1 := cp.1
  have inn : ∀ (p : Int), 0 ≤ p → p < vnp P → ∀ (n : Nat) (q s : Int), 0 ≤ q → q + n = p → am_R 14 17 [some (am_r b), some (am_i s), some (am_i p), some (am_i q)] [] S M = am_R 14 4 [some (am_r b), some (am_i (s + vsum (vnr R p) n q)), some (am_i (p + 1)), some (am_i p)] [] S M := by
    intro p hp hp2 n
    induction n with
    | zero =>
      intro q s hq hn
      obtain rfl : q = p := by omega
      rw [b_Li_together_17]
      simp (disch := omega) only [b_Li_together_37, vsum, Int.add_zero, am_ck_T, am_ck_t, am_cif_t, am_cif_f, am_cif_T, am_cif_F, am_then_s, am_push_s, am_push_n, true_and, and_true, true_or, or_true, Int.cast_ofNat_Int, am_02, am_22, not_true_eq_false, not_false_eq_true]
    | succ n ih =>
      intro q s hq hn
      have e0 := k_near hS hb hP cr hp hp2 hq (show q < vnp P by omega)
      have ih1 := ih (q + 1) (s + vnr R p q) (by omega) (by omega)
      rw [b_Li_together_17]
      simp (disch := omega) only [b_Li_together_22, b_Li_together_29, li0, li1, li2, li3, li4, li5, li6, li7, pl0, pl1, pl2, pl3, pl4, pl5, pl6, pl7, pl8, e0, ih1, vsum, Int.add_assoc, am_ck_T, am_ck_t, am_cif_t, am_cif_f, am_cif_T, am_cif_F, am_then_s, am_push_s, am_push_n, true_and, and_true, true_or, or_true, Int.cast_ofNat_Int, am_02, am_22, not_true_eq_false, not_false_eq_true]
  have out : ∀ (n : Nat) (p s : Int) (o : Option am_V), 0 ≤ p → p + n = vnp P → am_R 14 4 [some (am_r b), some (am_i s), some (am_i p), o] [] S M = some (some (am_i (s + vsum (fun p => vsum (vnr R p) p.toNat 0) n p)), S, M) := by
    intro n
    induction n with
    | zero =>
      intro p s o hp hn
      rw [b_Li_together_4]
      simp (disch := omega) only [b_Li_together_43, li0, li1, li2, li3, li4, li5, li6, li7, pl0, pl1, pl2, pl3, pl4, pl5, pl6, pl7, pl8, c1, vsum, Int.add_zero, am_ck_T, am_ck_t, am_cif_t, am_cif_f, am_cif_T, am_cif_F, am_then_s, am_push_s, am_push_n, true_and, and_true, true_or, or_true, Int.cast_ofNat_Int, am_02, am_22, not_true_eq_false, not_false_eq_true]
    | succ n ih =>
      intro p s o hp hn
      have i1 := inn p hp (by omega) p.toNat 0 s (by omega) (by omega)
      have ih1 := ih (p + 1) (s + vsum (vnr R p) p.toNat 0) (some (am_i p)) (by omega) (by omega)
      rw [b_Li_together_4]
      simp (disch := omega) only [b_Li_together_15, li0, li1, li2, li3, li4, li5, li6, li7, pl0, pl1, pl2, pl3, pl4, pl5, pl6, pl7, pl8, c1, i1, ih1, vsum, Int.add_assoc, am_ck_T, am_ck_t, am_cif_t, am_cif_f, am_cif_T, am_cif_F, am_then_s, am_push_s, am_push_n, true_and, and_true, true_or, or_true, Int.cast_ofNat_Int, am_02, am_22, not_true_eq_false, not_false_eq_true]
  rw [c_Li_together, b_Li_together_0, out (vnp P).toNat 0 0 none (by omega) (by omega), Int.zero_add]
  rfl
theorem m_allNear (hS : ly S) (hP : okP P) (hR : okR P B R) (mp : mP P M) (mr : mR P R 0 M) : am_call 130 [am_r 164] S M = some (some (am_i (vtg P R)), S, M) := by
  obtain ⟨mo0, ⟨mr0, mr1, mr2, mr3, mr4, mr5, mr6, mr7, mr8, mr9, mr10, mr11⟩, mk0, mk1, mk2, mk3, mk4, mk5, mk6, mk7, mk8, mk9, mk10, mk11⟩ := hS.2.2.2.2.2.2.2.2.2.2
  have hP1 := hP.1
  have hP2 := hP.2.1
  have hP3 := hP.2.2.1
  have hP4 := hP.2.2.2.1
  have c1 := mp.1
  have inn : ∀ (p : Int), 0 ≤ p → p < vnp P → ∀ (n : Nat) (q s : Int), p < q → q + n = vnp P → am_R 130 16 [some (am_r 164), some (am_i s), some (am_i p), some (am_i q)] [] S M = am_R 130 4 [some (am_r 164), some (am_i (s + vsum (vnr R p) n q)), some (am_i (p + 1)), some (am_i (vnp P))] [] S M := by
    intro p hp hp2 n
    induction n with
    | zero =>
      intro q s hq hn
      obtain rfl : q = vnp P := by omega
      rw [b_Mo_allNear_16]
      simp (disch := omega) only [b_Mo_allNear_40, mo0, mr0, mr1, mr2, mr3, mr4, mr5, mr6, mr7, mr8, mr9, mr10, mr11, mk0, mk1, mk2, mk3, mk4, mk5, mk6, mk7, mk8, mk9, mk10, mk11, c1, vsum, Int.add_zero, am_ck_T, am_ck_t, am_cif_t, am_cif_f, am_cif_T, am_cif_F, am_then_s, am_push_s, am_push_n, true_and, and_true, true_or, or_true, Int.cast_ofNat_Int, am_02, am_22, not_true_eq_false, not_false_eq_true]
    | succ n ih =>
      intro q s hq hn
      have e0 := m_near hS hP mr (by omega) hp hp2 (show 0 ≤ q by omega) (show q < vnp P by omega)
      have ih1 := ih (q + 1) (s + vnr R p q) (by omega) (by omega)
      rw [b_Mo_allNear_16]
      simp (disch := omega) only [b_Mo_allNear_24, b_Mo_allNear_32, mo0, mr0, mr1, mr2, mr3, mr4, mr5, mr6, mr7, mr8, mr9, mr10, mr11, mk0, mk1, mk2, mk3, mk4, mk5, mk6, mk7, mk8, mk9, mk10, mk11, c1, e0, ih1, vsum, Int.add_assoc, am_ck_T, am_ck_t, am_cif_t, am_cif_f, am_cif_T, am_cif_F, am_then_s, am_push_s, am_push_n, true_and, and_true, true_or, or_true, Int.cast_ofNat_Int, am_02, am_22, not_true_eq_false, not_false_eq_true]
  have out : ∀ (n : Nat) (p s : Int) (o : Option am_V), 0 ≤ p → p + n = vnp P → am_R 130 4 [some (am_r 164), some (am_i s), some (am_i p), o] [] S M = some (some (am_i (s + vsum (fun p => vsum (vnr R p) ((vnp P - (p + 1)).toNat) (p + 1)) n p)), S, M) := by
    intro n
    induction n with
    | zero =>
      intro p s o hp hn
      rw [b_Mo_allNear_4]
      simp (disch := omega) only [b_Mo_allNear_46, mo0, mr0, mr1, mr2, mr3, mr4, mr5, mr6, mr7, mr8, mr9, mr10, mr11, mk0, mk1, mk2, mk3, mk4, mk5, mk6, mk7, mk8, mk9, mk10, mk11, c1, vsum, Int.add_zero, am_ck_T, am_ck_t, am_cif_t, am_cif_f, am_cif_T, am_cif_F, am_then_s, am_push_s, am_push_n, true_and, and_true, true_or, or_true, Int.cast_ofNat_Int, am_02, am_22, not_true_eq_false, not_false_eq_true]
    | succ n ih =>
      intro p s o hp hn
      have i1 := inn p hp (by omega) (vnp P - (p + 1)).toNat (p + 1) s (by omega) (by omega)
      have ih1 := ih (p + 1) (s + vsum (vnr R p) ((vnp P - (p + 1)).toNat) (p + 1)) (some (am_i (vnp P))) (by omega) (by omega)
      rw [b_Mo_allNear_4]
      simp (disch := omega) only [b_Mo_allNear_12, mo0, mr0, mr1, mr2, mr3, mr4, mr5, mr6, mr7, mr8, mr9, mr10, mr11, mk0, mk1, mk2, mk3, mk4, mk5, mk6, mk7, mk8, mk9, mk10, mk11, c1, i1, ih1, vsum, Int.add_assoc, am_ck_T, am_ck_t, am_cif_t, am_cif_f, am_cif_T, am_cif_F, am_then_s, am_push_s, am_push_n, true_and, and_true, true_or, or_true, Int.cast_ofNat_Int, am_02, am_22, not_true_eq_false, not_false_eq_true]
  rw [c_Mo_allNear, b_Mo_allNear_0, out (vnp P).toNat 0 0 none (by omega) (by omega), Int.zero_add]
  have t := vsum_tri (f := vnr R) (vnp P).toNat (fun a c h1 h2 h3 h4 => (hR.1 a c h1 (by omega) h3 (by omega)).2.2)
  rw [show (((vnp P).toNat : Nat) : Int) = vnp P by omega] at t
  rw [t]
  rfl
theorem am_cp_in {M : am_M} {a d : Nat} {sp dp n j : Int} (h : dp ≤ j ∧ j < dp + n) : am_cp M a sp d dp n d j = M a (sp + (j - dp)) := by unfold am_cp; exact if_pos ⟨rfl, h⟩
theorem am_cp_k {M : am_M} {a d k : Nat} {sp dp n j : Int} (h : k ≠ d) : am_cp M a sp d dp n k j = M k j := by unfold am_cp; exact if_neg (fun q => h q.1)
/-- this Life becomes that one -/
theorem k_copy (hS : ly S) (hb : lf b) {b' : Nat} (hb' : lf b') (hP : okP P) (hne : b + 3 < b' ∨ b' + 3 < b) (cr : cR P R b' M) : ∃ M1, am_call 11 [am_r b, am_r b'] S M = some (none, S, M1) ∧ cR P R b M1 ∧ fr b (b + 3) M M1 := by
  obtain ⟨li0, li1, li2, li3, li4, li5, li6, li7⟩ := hS.2.2.2.2.1 b hb
  have hP1 := hP.1
  have hP2 := hP.2.1
  have hP3 := hP.2.2.1
  have hP4 := hP.2.2.2.1
  obtain ⟨ni0, ni1, ni2, ni3, ni4, ni5, ni6, ni7⟩ := hS.2.2.2.2.1 b' hb'
  refine ⟨am_wr (am_wr (am_wr (am_cp (am_cp (am_cp M (b' + 1) 0 (b + 1) 0 64) (b' + 2) 0 (b + 2) 0 8) (b' + 3) 0 (b + 3) 0 6) b 4 (vdd R)) b 5 (vrd R)) b 6 (vdy R), ?_, ?_, ?_⟩
  · have d1 : am_cp (am_cp (am_cp M (b' + 1) 0 (b + 1) 0 64) (b' + 2) 0 (b + 2) 0 8) (b' + 3) 0 (b + 3) 0 6 b' 4 = vdd R := by rw [am_cp_k (by omega), am_cp_k (by omega), am_cp_k (by omega)]; exact cr.2.2.2.1
    have d2 : am_wr (am_cp (am_cp (am_cp M (b' + 1) 0 (b + 1) 0 64) (b' + 2) 0 (b + 2) 0 8) (b' + 3) 0 (b + 3) 0 6) b 4 (vdd R) b' 5 = vrd R := by rw [am_wr_k (by omega), am_cp_k (by omega), am_cp_k (by omega), am_cp_k (by omega)]; exact cr.2.2.2.2.1
    have d3 : am_wr (am_wr (am_cp (am_cp (am_cp M (b' + 1) 0 (b + 1) 0 64) (b' + 2) 0 (b + 2) 0 8) (b' + 3) 0 (b + 3) 0 6) b 4 (vdd R)) b 5 (vrd R) b' 6 = vdy R := by rw [am_wr_k (by omega), am_wr_k (by omega), am_cp_k (by omega), am_cp_k (by omega), am_cp_k (by omega)]; exact cr.2.2.2.2.2
    simp (disch := omega) only [c_Li_copyFrom, b_Li_copyFrom_0, li0, li1, li2, li3, li4, li5, li6, li7, ni0, ni1, ni2, ni3, ni4, ni5, ni6, ni7, d1, d2, d3, am_ck_T, am_ck_t, am_cif_t, am_cif_f, am_cif_T, am_cif_F, am_then_s, am_push_s, am_push_n, true_and, and_true, true_or, or_true, Int.cast_ofNat_Int, am_02, am_22, not_true_eq_false, not_false_eq_true]
  · refine ⟨fun p q h1 h2 h3 h4 => ?_, fun p h1 h2 => ?_, fun l h1 h2 => ?_, ?_, ?_, am_wr_s⟩
    · rw [am_wr_k (by omega), am_wr_k (by omega), am_wr_k (by omega), am_cp_k (by omega), am_cp_k (by omega), am_cp_in (by omega), show (0 : Int) + (p * 8 + q - 0) = p * 8 + q by omega]
      exact cr.1 p q h1 h2 h3 h4
    · rw [am_wr_k (by omega), am_wr_k (by omega), am_wr_k (by omega), am_cp_k (by omega), am_cp_in (by omega), am_cp_k (by omega), show (0 : Int) + (p - 0) = p by omega]
      exact cr.2.1 p h1 h2
    · rw [am_wr_k (by omega), am_wr_k (by omega), am_wr_k (by omega), am_cp_in (by omega), am_cp_k (by omega), am_cp_k (by omega), show (0 : Int) + (l - 0) = l by omega]
      exact cr.2.2.1 l h1 h2
    · rw [am_wr_i (by omega), am_wr_i (by omega), am_wr_s]
    · rw [am_wr_i (by omega), am_wr_s]
  · intro k hk j
    rw [am_wr_k (by omega), am_wr_k (by omega), am_wr_k (by omega), am_cp_k (by omega), am_cp_k (by omega), am_cp_k (by omega)]
/-- a row becomes another one -/
theorem m_copy (hS : ly S) {y : Int} (hx : 0 ≤ x ∧ x ≤ 2706) (hy : 0 ≤ y ∧ y ≤ 2706) (hxy : x + 82 ≤ y ∨ y + 82 ≤ x) : ∃ M1, am_call 135 [am_r 164, am_i x, am_i y] S M = some (none, S, M1) ∧ (∀ k, 0 ≤ k → k < 82 → M1 165 (y + k) = M 165 (x + k)) ∧ fy y M M1 := by
  obtain ⟨mo0, ⟨mr0, mr1, mr2, mr3, mr4, mr5, mr6, mr7, mr8, mr9, mr10, mr11⟩, mk0, mk1, mk2, mk3, mk4, mk5, mk6, mk7, mk8, mk9, mk10, mk11⟩ := hS.2.2.2.2.2.2.2.2.2.2
  have key : ∀ (n : Nat) (k : Int) (M : am_M), 0 ≤ k → k + n = 82 → ∃ M1, am_R 135 2 [some (am_r 164), some (am_i x), some (am_i y), some (am_i k)] [] S M = some (none, S, M1) ∧ (∀ j, k ≤ j → j < 82 → M1 165 (y + j) = M 165 (x + j)) ∧ (∀ j, 0 ≤ j → j < k → M1 165 (y + j) = M 165 (y + j)) ∧ fy y M M1 := by
    intro n
    induction n with
    | zero =>
      intro k M hk hn
      refine ⟨M, ?_, fun j h1 h2 => absurd h2 (by omega), fun _ _ _ => rfl, fy_rf⟩
      rw [b_Mo_copy_2]
      simp (disch := omega) only [b_Mo_copy_30, am_ck_T, am_ck_t, am_cif_t, am_cif_f, am_cif_T, am_cif_F, am_then_s, am_push_s, am_push_n, true_and, and_true, true_or, or_true, Int.cast_ofNat_Int, am_02, am_22, not_true_eq_false, not_false_eq_true]
    | succ n ih =>
      intro k M hk hn
      obtain ⟨M1, d1, d2, d3, d4⟩ := ih (k + 1) (am_wr M 165 (y + k) (M 165 (x + k))) (by omega) (by omega)
      refine ⟨M1, ?_, fun j h1 h2 => ?_, fun j h1 h2 => ?_, fy_tr (fy_wr (by omega)) d4⟩
      · rw [b_Mo_copy_2]
        simp (disch := omega) only [b_Mo_copy_8, mo0, mr0, mr1, mr2, mr3, mr4, mr5, mr6, mr7, mr8, mr9, mr10, mr11, mk0, mk1, mk2, mk3, mk4, mk5, mk6, mk7, mk8, mk9, mk10, mk11, d1, am_ck_T, am_ck_t, am_cif_t, am_cif_f, am_cif_T, am_cif_F, am_then_s, am_push_s, am_push_n, true_and, and_true, true_or, or_true, Int.cast_ofNat_Int, am_02, am_22, not_true_eq_false, not_false_eq_true]
      · by_cases hj : j = k
        · subst hj
          rw [d3 j (by omega) (by omega), am_wr_s]
        · rw [d2 j (by omega) h2, am_wr_i (by omega)]
      · rw [d3 j h1 (by omega), am_wr_i (by omega)]
  obtain ⟨M1, d1, d2, d3, d4⟩ := key 82 0 M (by omega) (by omega)
  exact ⟨M1, by rw [c_Mo_copy, b_Mo_copy_0]; exact d1, fun k h1 h2 => d2 k h1 h2, d4⟩
theorem mR_copy {M1 : am_M} {y : Int} (hP : okP P) (h : ∀ k, 0 ≤ k → k < 82 → M1 165 (y + k) = M 165 (x + k)) (mr : mR P R x M) : mR P R y M1 := by
  have hP1 := hP.1
  have hP2 := hP.2.1
  have hP3 := hP.2.2.1
  have hP4 := hP.2.2.2.1
  refine ⟨fun p q h1 h2 h3 h4 => ?_, fun p h1 h2 => ?_, fun l h1 h2 => ?_, ?_, ?_, ?_⟩
  · have := h (8 * p + q) (by omega) (by omega)
    rw [← Int.add_assoc, ← Int.add_assoc] at this
    exact this.trans (mr.1 p q h1 h2 h3 h4)
  · have := h (64 + p) (by omega) (by omega)
    rw [← Int.add_assoc, ← Int.add_assoc] at this
    exact this.trans (mr.2.1 p h1 h2)
  · have := h (72 + l) (by omega) (by omega)
    rw [← Int.add_assoc, ← Int.add_assoc] at this
    exact this.trans (mr.2.2.1 l h1 h2)
  · exact (h 78 (by omega) (by omega)).trans mr.2.2.2.1
  · exact (h 80 (by omega) (by omega)).trans mr.2.2.2.2.1
  · exact (h 79 (by omega) (by omega)).trans mr.2.2.2.2.2
end COPY
