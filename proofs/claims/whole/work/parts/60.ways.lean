/-! ways, reached, cuts -/
/-- the first l, of n, at which c holds -/
noncomputable def vff (c : Int → Prop) : Nat → Int → Int
  | 0, _ => -1
  | n + 1, l => am_cif (c l) l (vff c n (l + 1))
theorem vff_rng (c : Int → Prop) : ∀ (n : Nat) (l : Int), vff c n l = -1 ∨ (l ≤ vff c n l ∧ vff c n l < l + n) := by
  intro n
  induction n with
  | zero => intro l; exact Or.inl rfl
  | succ n ih =>
    intro l
    unfold vff
    by_cases h : c l
    · rw [am_cif_t h]; omega
    · rw [am_cif_f h]; have := ih (l + 1); omega
/-- a way of f rides to q begins with line l -/
def vlc (P : vP) (R : vR) (p q f l : Int) : Prop := vN (vE P R p (-1)) (ve P R p l (vgt R p)) (f - 1).toNat q
theorem bs_or0 {a l : Int} {Q : Int → Prop} (h : bs a Q) (h1 : 0 ≤ l) (h2 : l < 8) : am_or a (am_shl 0 l) = a := by
  obtain ⟨d, d1, rfl, _⟩ := h
  have c : ((l.toNat : Nat) : Int) = l := by omega
  have u : am_or (d : Int) (am_shl 0 ((l.toNat : Nat) : Int)) = (d : Int) := bt_or0 ⟨d, d1⟩ ⟨l.toNat, by omega⟩
  rw [c] at u
  exact u
theorem bs_ex (Q : Int → Prop) : ∃ a, bs a Q := by
  have key : ∀ n : Nat, n ≤ 8 → ∃ a, bs a (fun q => q < (n : Int) ∧ Q q) := by
    intro n
    induction n with
    | zero => intro _; exact ⟨0, bs_c bs_0 (fun q q1 _ => ⟨fun z => z.elim, fun z => by have := z.1; omega⟩)⟩
    | succ n ih =>
      intro hn
      obtain ⟨a, ha⟩ := ih (by omega)
      by_cases hq : Q (n : Int)
      · refine ⟨am_or a (am_shl 1 (n : Int)), bs_c (bs_or ha (bs_one (by omega) (by omega))) (fun q q1 q2 => ?_)⟩
        constructor
        · rintro (z | z)
          · exact ⟨by have := z.1; omega, z.2⟩
          · have z' : q = (n : Int) := z
            rw [z']; exact ⟨by omega, hq⟩
        · rintro ⟨z1, z2⟩
          by_cases hqn : q = (n : Int)
          · exact Or.inr hqn
          · exact Or.inl ⟨by omega, z2⟩
      · refine ⟨a, bs_c ha (fun q q1 q2 => ⟨fun z => ⟨by have := z.1; omega, z.2⟩, fun z => ⟨?_, z.2⟩⟩)⟩
        have h1 := z.1
        by_cases hqn : q = (n : Int)
        · rw [hqn] at z; exact absurd z.2 hq
        · omega
  obtain ⟨a, ha⟩ := key 8 (by omega)
  exact ⟨a, bs_c ha (fun q q1 q2 => ⟨fun z => z.2, fun z => ⟨by omega, z⟩⟩)⟩
theorem al_1 : ∀ (n : Fin 7) (l : Fin 6), l.val < n.val → am_and (am_shr (am_shl 1 (n.val : Int) - 1) (l.val : Int)) 1 = 1 := by decide +kernel
theorem al_2 : ∀ (n : Fin 7) (l w : Fin 6), l.val < n.val → (am_and (am_shr (am_and (am_shl 1 (n.val : Int) - 1) (am_xor (am_shl 1 (w.val : Int)) (-1))) (l.val : Int)) 1 = 1 ↔ l.val ≠ w.val) := by decide +kernel
theorem al_R : ∀ (n : Fin 7), 0 ≤ am_shl 1 (n.val : Int) - 1 ∧ am_shl 1 (n.val : Int) - 1 < 64 := by decide +kernel
section WAYS
variable {S : am_S} {M M1 : am_M} {X : vX} {B : Int} {P : vP} {R : vR} {b : Nat} {x : Int}
theorem cP_k (h : ∀ k, k ≤ 6 → ∀ j, M1 k j = M k j) (cp : cP P M) : cP P M1 :=
  ⟨(h 2 (by omega) 0).trans cp.1, (h 2 (by omega) 1).trans cp.2.1, fun l a c => ⟨(h 5 (by omega) l).trans (cp.2.2.1 l a c).1, (h 4 (by omega) l).trans (cp.2.2.1 l a c).2⟩, fun l k a c d e => (h 6 (by omega) _).trans (cp.2.2.2 l k a c d e)⟩
/-- the class's scratch cells change -/
theorem CX_sc (h : ∀ k, ¬ (18 ≤ k ∧ k ≤ 21) → k ≠ 145 → k ≠ 149 → k ≤ 163 → ∀ j, M1 k j = M k j) (c : CX X M) : CX X M1 := by
  obtain ⟨a1, a2, a3, a4, a5, a6, a7, a8, a9, a10⟩ := c
  exact ⟨cP_k (fun k hk => h k (by omega) (by omega) (by omega) (by omega)) a1, cR_fr (fun k h1 h2 => h k (by omega) (by omega) (by omega) (by omega)) a2, cH_fr (fun k h1 h2 => h k (by omega) (by omega) (by omega) (by omega)) a3, cI_fr (fun k h1 h2 => h k (by omega) (by omega) (by omega) (by omega)) a4, cI_fr (fun k h1 h2 => h k (by omega) (by omega) (by omega) (by omega)) a5, cS_fr (fun k h1 h2 => h k (by omega) (by omega) (by omega) (by omega)) a6, cB_fr (fun k h1 h2 => h k (by omega) (by omega) (by omega) (by omega)) a7, cT_fr (h 7 (by omega) (by omega) (by omega) (by omega)) (h 13 (by omega) (by omega) (by omega) (by omega)) a8, (h 1 (by omega) (by omega) (by omega) (by omega) 9).trans a9, (h 1 (by omega) (by omega) (by omega) (by omega) 10).trans a10⟩
/-- the reference's scratch places change -/
theorem MX_sc (hP : okP (xP X)) (h : ∀ k, 164 ≤ k → k ≠ 172 → k ≠ 165 → ∀ j, M1 k j = M k j) (h2 : ∀ j, (j < 82 ∨ 164 ≤ j) → M1 165 j = M 165 j) (c : MX X M) : MX X M1 := by
  obtain ⟨a1, a2, a3, a4, a5, a6, a7, a8, a9, a10⟩ := c
  exact ⟨mP_fr (fun k hk => h k (by omega) (by omega) (by omega)) a1, mR_fr hP (fun j _ _ => h2 j (by omega)) a2, mH_fr hP (h 164 (by omega) (by omega) (by omega)) (fun j _ => h2 j (by omega)) a3, mI_fr hP (h 166 (by omega) (by omega) (by omega)) (fun j _ _ => h2 j (by omega)) a4, mI_fr hP (h 166 (by omega) (by omega) (by omega)) (fun j _ _ => h2 j (by omega)) a5, mS_fr (fun k hk => h k (by omega) (by omega) (by omega)) a6, mB_fr (fun k hk => h k (by omega) (by omega) (by omega)) a7, mT_fr (fun k hk => h k (by omega) (by omega) (by omega)) a8, (h 164 (by omega) (by omega) (by omega) 15).trans a9, (h2 81 (by omega)).trans a10⟩
theorem CX_145 (c : CX X M) (h : fr 145 145 M M1) : CX X M1 := CX_sc (fun k _ _ _ _ j => h k (by omega) j) c
theorem MX_172 (hP : okP (xP X)) (c : MX X M) (h : fr 172 172 M M1) : MX X M1 := MX_sc hP (fun k _ _ _ j => h k (by omega) j) (fun j _ => h 165 (by omega) j) c
theorem vE_8 (hP : okP P) (hR : okR P B R) {p w : Int} : ∀ g h, vE P R p w g h → 0 ≤ g ∧ g < 8 := by
  intro g h ⟨l, h1, h2, _, e⟩
  have := (ve_rng hP hR h1 h2 e).1
  have := hP.2.1
  omega
theorem vE_st (hP : okP P) (hR : okR P B R) {p w : Int} {Q : Int → Prop} (hQ : ∀ g, Q g → 0 ≤ g ∧ g < vnp P) : ∀ n h, vN (vE P R p w) Q n h → vN (vE P R p w) Q 7 h := by
  intro n h z
  have := hP.2.1
  exact vN_mo (by omega) (vN_stab2 (np := (vnp P).toNat) (fun g hg => by have := hQ g hg; omega) (vE_rng hP hR) n h z)
theorem vE_di (hP : okP P) (hR : okR P B R) {p w : Int} {Q : Int → Prop} (hQ : ∀ g, Q g → 0 ≤ g ∧ g < vnp P) (q : Int) : ∃ r : Int, vdi (vE P R p w) Q q r ∧ -1 ≤ r ∧ r < 8 := by
  have := hP.2.1
  obtain ⟨r, r1, r2, r3⟩ := vdi_ex (np := (vnp P).toNat) (Q := Q) (fun g hg => by have := hQ g hg; omega) (vE_rng (p := p) (w := w) hP hR) q
  exact ⟨r, r1, r2, by omega⟩
/-- fewer than f are never enough -/
theorem vlc_one (hP : okP P) (hR : okR P B R) {p q f l h r' : Int} (hf : vdi (vE P R p (-1)) (fun k => k = vgt R p) q f) (f1 : 1 ≤ f) (l1 : 0 ≤ l) (l2 : l < vnl P) (e : ve P R p l (vgt R p) h) (hr : vdi (vE P R p (-1)) (fun k => k = h) q r') : r' = f - 1 ↔ vN (vE P R p (-1)) (fun k => k = h) (f - 1).toNat q := by
  have e2 : vE P R p (-1) (vgt R p) h := ⟨l, l1, l2, by omega, e⟩
  rcases hf with ⟨n, n1, n2, n3⟩ | ⟨n1, n2⟩
  · constructor
    · intro z
      rcases hr with ⟨m, m1, m2, m3⟩ | ⟨m1, m2⟩
      · rw [show (f - 1).toNat = m by omega]; exact m2
      · omega
    · intro z
      have : vdi (vE P R p (-1)) (fun k => k = h) q (f - 1) := Or.inl ⟨(f - 1).toNat, by omega, z, fun m m1 m2 => n3 (m + 1) (by omega) (vN_front e2 m q m2)⟩
      exact vdi_eq hr this
  · omega
theorem vlc_iff (hP : okP P) (hR : okR P B R) {p q f l r' : Int} (hf : vdi (vE P R p (-1)) (fun k => k = vgt R p) q f) (f1 : 1 ≤ f) (l1 : 0 ≤ l) (l2 : l < vnl P) (hr : vdi (vE P R p (-1)) (ve P R p l (vgt R p)) q r') : r' = f - 1 ↔ vlc P R p q f l := by
  unfold vlc
  rcases hf with ⟨n, n1, n2, n3⟩ | ⟨n1, n2⟩
  · constructor
    · intro z
      rcases hr with ⟨m, m1, m2, m3⟩ | ⟨m1, m2⟩
      · rw [show (f - 1).toNat = m by omega]; exact m2
      · omega
    · intro z
      have : vdi (vE P R p (-1)) (ve P R p l (vgt R p)) q (f - 1) := by
        refine Or.inl ⟨(f - 1).toNat, by omega, z, fun m m1 m2 => ?_⟩
        obtain ⟨h, e, y⟩ := (vN_or m q).mp m2
        exact n3 (m + 1) (by omega) (vN_front ⟨l, l1, l2, by omega, e⟩ m q y)
      exact vdi_eq hr this
  · omega
theorem k_firstLine (hS : ly S) (hb : lf b) (hP : okP P) (hR : okR P B R) (cp : cP P M) (cr : cR P R b M) {p q f : Int} (cw : cW (vE P R p (-1)) M) (h3 : 0 ≤ p) (h4 : p < vnp P) (q1 : 0 ≤ q) (q2 : q < vnp P) (hf : vdi (vE P R p (-1)) (fun k => k = vgt R p) q f) (f1 : 1 ≤ f) (f2 : f < 8) : am_call 60 [am_r 144, am_r b, am_i p, am_i q, am_i f] S M = some (some (am_i (vff (vlc P R p q f) (vnl P).toNat 0)), S, M) := by
  obtain ⟨wa0, wa1, wa2⟩ := hS.2.2.2.2.2.2.1
  obtain ⟨li0, li1, li2, li3, li4, li5, li6, li7⟩ := hS.2.2.2.2.1 b hb
  obtain ⟨pl0, pl1, pl2, pl3, pl4, pl5, pl6, pl7, pl8⟩ := hS.2.1
  have hP1 := hP.1
  have hP2 := hP.2.1
  have hP3 := hP.2.2.1
  have hP4 := hP.2.2.2.1
  have c2 := cp.2.1
  have loop : ∀ (n : Nat) (l : Int), 0 ≤ l → l + n = vnl P → am_R 60 11 [some (am_r 144), some (am_r b), some (am_i p), some (am_i q), some (am_i f), some (am_i l)] [] S M = some (some (am_i (vff (vlc P R p q f) n l)), S, M) := by
    intro n
    induction n with
    | zero =>
      intro l l1 l2
      rw [b_Wa_firstLine_11]
      simp (disch := omega) only [b_Wa_firstLine_52, wa0, wa1, wa2, li0, li1, li2, li3, li4, li5, li6, li7, pl0, pl1, pl2, pl3, pl4, pl5, pl6, pl7, pl8, c2, vff, am_ck_T, am_ck_t, am_cif_t, am_cif_f, am_cif_T, am_cif_F, am_then_s, am_push_s, am_push_n, true_and, and_true, true_or, or_true, Int.cast_ofNat_Int, am_02, am_22, not_true_eq_false, not_false_eq_true]
    | succ n ih =>
      intro l l1 l2
      obtain ⟨a, e1, e2⟩ := k_byOne hS hb hP hR cp cr l1 (show l < vnl P by omega) h3 h4
      have hQ : ∀ g, ve P R p l (vgt R p) g → 0 ≤ g ∧ g < vnp P := fun g z => (ve_rng hP hR l1 (show l < vnl P by omega) z).2
      obtain ⟨r', d1, d2, d3⟩ := vE_di (p := p) (w := -1) hP hR hQ q
      have e3 := k_fewest hS cw (vE_8 hP hR) (vE_st hP hR hQ) e2 d1 q1 (show q < 8 by omega)
      have e4 := vlc_iff hP hR hf f1 l1 (show l < vnl P by omega) d1
      have ih1 := ih (l + 1) (by omega) (by omega)
      rw [b_Wa_firstLine_11]
      unfold vff
      by_cases hc : vlc P R p q f l
      · have hz := e4.mpr hc
        rw [am_cif_t (show vlc P R p q f l from hc)]
        simp (disch := omega) only [b_Wa_firstLine_23, b_Wa_firstLine_32, b_Wa_firstLine_36, b_Wa_firstLine_43, wa0, wa1, wa2, li0, li1, li2, li3, li4, li5, li6, li7, pl0, pl1, pl2, pl3, pl4, pl5, pl6, pl7, pl8, c2, e1, e3, am_ck_T, am_ck_t, am_cif_t, am_cif_f, am_cif_T, am_cif_F, am_then_s, am_push_s, am_push_n, true_and, and_true, true_or, or_true, Int.cast_ofNat_Int, am_02, am_22, not_true_eq_false, not_false_eq_true]
      · have hz : ¬ r' = f - 1 := fun z => hc (e4.mp z)
        rw [am_cif_f (show ¬ vlc P R p q f l from hc)]
        simp (disch := omega) only [b_Wa_firstLine_23, b_Wa_firstLine_32, b_Wa_firstLine_36, b_Wa_firstLine_46, wa0, wa1, wa2, li0, li1, li2, li3, li4, li5, li6, li7, pl0, pl1, pl2, pl3, pl4, pl5, pl6, pl7, pl8, c2, e1, e3, ih1, am_ck_T, am_ck_t, am_cif_t, am_cif_f, am_cif_T, am_cif_F, am_then_s, am_push_s, am_push_n, true_and, and_true, true_or, or_true, Int.cast_ofNat_Int, am_02, am_22, not_true_eq_false, not_false_eq_true]
  have l0 := loop (vnl P).toNat 0 (by omega) (by omega)
  simp (disch := omega) only [c_Wa_firstLine, b_Wa_firstLine_0, b_Wa_firstLine_8, l0, am_ck_T, am_ck_t, am_cif_t, am_cif_f, am_cif_T, am_cif_F, am_then_s, am_push_s, am_push_n, true_and, and_true, true_or, or_true, Int.cast_ofNat_Int, am_02, am_22, not_true_eq_false, not_false_eq_true]
theorem al_w (hP : okP P) : ∀ l, 0 ≤ l → l < vnl P → (am_and (am_shr (am_shl 1 (vnl P) - 1) l) 1 = 1 ↔ l ≠ -1) := by
  have hP1 := hP.1
  have hP2 := hP.2.1
  have hP3 := hP.2.2.1
  have hP4 := hP.2.2.2.1
  intro l l1 l2
  have c1 : (((vnl P).toNat : Nat) : Int) = vnl P := by omega
  have c2 : ((l.toNat : Nat) : Int) = l := by omega
  have u : am_and (am_shr (am_shl 1 (((vnl P).toNat : Nat) : Int) - 1) ((l.toNat : Nat) : Int)) 1 = 1 := al_1 ⟨(vnl P).toNat, by omega⟩ ⟨l.toNat, by omega⟩ (by show l.toNat < (vnl P).toNat; omega)
  rw [c1, c2] at u
  exact ⟨fun _ => by omega, fun _ => u⟩
theorem al_x (hP : okP P) {w : Int} (w1 : 0 ≤ w) (w2 : w < vnl P) : ∀ l, 0 ≤ l → l < vnl P → (am_and (am_shr (am_and (am_shl 1 (vnl P) - 1) (am_xor (am_shl 1 w) (-1))) l) 1 = 1 ↔ l ≠ w) := by
  have hP1 := hP.1
  have hP2 := hP.2.1
  have hP3 := hP.2.2.1
  have hP4 := hP.2.2.2.1
  intro l l1 l2
  have c1 : (((vnl P).toNat : Nat) : Int) = vnl P := by omega
  have c2 : ((l.toNat : Nat) : Int) = l := by omega
  have c3 : ((w.toNat : Nat) : Int) = w := by omega
  have u : am_and (am_shr (am_and (am_shl 1 (((vnl P).toNat : Nat) : Int) - 1) (am_xor (am_shl 1 ((w.toNat : Nat) : Int)) (-1))) ((l.toNat : Nat) : Int)) 1 = 1 ↔ l.toNat ≠ w.toNat := al_2 ⟨(vnl P).toNat, by omega⟩ ⟨l.toNat, by omega⟩ ⟨w.toNat, by omega⟩ (by show l.toNat < (vnl P).toNat; omega)
  rw [c1, c2, c3] at u
  rw [u]
  omega
theorem m_allLines (hS : ly S) (mp : mP P M) : am_call 152 [am_r 164] S M = some (some (am_i (am_shl 1 (vnl P) - 1)), S, M) := by
  obtain ⟨mo0, ⟨mr0, mr1, mr2, mr3, mr4, mr5, mr6, mr7, mr8, mr9, mr10, mr11⟩, mk0, mk1, mk2, mk3, mk4, mk5, mk6, mk7, mk8, mk9, mk10, mk11⟩ := hS.2.2.2.2.2.2.2.2.2.2
  have e := mp.2.1
  simp (disch := omega) only [c_Mo_allLines, b_Mo_allLines_0, mo0, mr0, mr1, mr2, mr3, mr4, mr5, mr6, mr7, mr8, mr9, mr10, mr11, mk0, mk1, mk2, mk3, mk4, mk5, mk6, mk7, mk8, mk9, mk10, mk11, e, am_ck_T, am_ck_t, am_cif_t, am_cif_f, am_cif_T, am_cif_F, am_then_s, am_push_s, am_push_n, true_and, and_true, true_or, or_true, Int.cast_ofNat_Int, am_02, am_22, not_true_eq_false, not_false_eq_true]
theorem m_leads (hS : ly S) (hP : okP P) (hR : okR P B R) (mp : mP P M) (mr : mR P R 0 M) {p q f l : Int} (h1 : 0 ≤ l) (h2 : l < vnl P) (h3 : 0 ≤ p) (h4 : p < vnp P) (q1 : 0 ≤ q) (q2 : q < vnp P) (hf : vdi (vE P R p (-1)) (fun k => k = vgt R p) q f) (f1 : 1 ≤ f) (f2 : f < 8) : ∃ M1, am_call 154 [am_r 164, am_i p, am_i q, am_i l, am_i f] S M = some (some (am_i (bo (vlc P R p q f l))), S, M1) ∧ fr 172 172 M M1 := by
  obtain ⟨mo0, ⟨mr0, mr1, mr2, mr3, mr4, mr5, mr6, mr7, mr8, mr9, mr10, mr11⟩, mk0, mk1, mk2, mk3, mk4, mk5, mk6, mk7, mk8, mk9, mk10, mk11⟩ := hS.2.2.2.2.2.2.2.2.2.2
  have hP1 := hP.1
  have hP2 := hP.2.1
  have hP3 := hP.2.2.1
  have hP4 := hP.2.2.2.1
  have s1 := hP.2.2.2.2.1 l h1 h2
  have g1 := hR.2.1 p h3 h4
  have e2 : M 165 (64 + p) = vgt R p := by have := mr.2.1 p h3 h4; rw [Int.zero_add] at this; exact this
  have e0 := m_canBoard hS hP hR mp mr (by omega) h1 h2 g1.2.1 g1.2.2
  have ew := m_where hS hP hR mp mr (by omega) h1 h2 g1.2.1 g1.2.2
  have rb := vbp_rng R (vgt R p) (show 0 ≤ vsz P l by omega)
  have eb := fun k => ve_bp (p := p) (g := vgt R p) (h := k) hP hR h1 h2
  by_cases hb : vbp P R l (vgt R p) = -1
  · refine ⟨M, ?_, fr_rf⟩
    have nv : ¬ vlc P R p q f l := by
      intro z
      obtain ⟨h, y, _⟩ := (vN_or _ q).mp z
      exact ((eb h).mp y).1 hb
    rw [bo_f (fun z => z hb)] at e0
    rw [bo_f nv]
    simp (disch := omega) only [c_Mo_leads, b_Mo_leads_0, b_Mo_leads_15, b_Mo_leads_18, mo0, mr0, mr1, mr2, mr3, mr4, mr5, mr6, mr7, mr8, mr9, mr10, mr11, mk0, mk1, mk2, mk3, mk4, mk5, mk6, mk7, mk8, mk9, mk10, mk11, e2, e0, am_ck_T, am_ck_t, am_cif_t, am_cif_f, am_cif_T, am_cif_F, am_then_s, am_push_s, am_push_n, true_and, and_true, true_or, or_true, Int.cast_ofNat_Int, am_02, am_22, not_true_eq_false, not_false_eq_true]
  · have bp : vpl P R l (vgt R p) = vbp P R l (vgt R p) := by
      unfold vbp at hb ⊢
      by_cases hk : vpl P R l (vgt R p) = vsz P l - 1
      · rw [if_pos hk] at hb; exact absurd rfl hb
      · rw [if_neg hk]
    rw [bp] at ew
    rw [bo_t hb] at e0
    have ef := m_far hS hP hR mp mr (by omega) h1 h2 h3 h4 (show 0 ≤ vbp P R l (vgt R p) by omega) (show vbp P R l (vgt R p) < vsz P l by omega) (show (0 : Int) ≤ 5 by omega) (show (5 : Int) ≤ 5 by omega)
    have rf := vfa_rng P R p l (min 5 (vsz P l - 1 - vbp P R l (vgt R p))).toNat (vbp P R l (vgt R p))
    generalize vfa P R p l (min 5 (vsz P l - 1 - vbp P R l (vgt R p))).toNat (vbp P R l (vgt R p)) = to at ef eb rf
    have loop : ∀ (n : Nat) (k : Int) (M : am_M), k + n = to + 1 → vbp P R l (vgt R p) < k → mP P M → mR P R 0 M → ∃ M1, am_R 154 58 [some (am_r 164), some (am_i p), some (am_i q), some (am_i l), some (am_i f), some (am_i (vbp P R l (vgt R p))), some (am_i to), some (am_i (bo (∃ m, vbp P R l (vgt R p) < m ∧ m < k ∧ vN (vE P R p (-1)) (fun t => t = vsp P R l m) (f - 1).toNat q))), some (am_i k)] [] S M = some (some (am_i (bo (vlc P R p q f l))), S, M1) ∧ fr 172 172 M M1 := by
      intro n
      induction n with
      | zero =>
        intro k M k1 k2 mp mr
        have e : bo (∃ m, vbp P R l (vgt R p) < m ∧ m < k ∧ vN (vE P R p (-1)) (fun t => t = vsp P R l m) (f - 1).toNat q) = bo (vlc P R p q f l) := by
          refine bo_c ?_
          unfold vlc
          rw [vN_or]
          constructor
          · rintro ⟨m, m1, m2, m3⟩
            exact ⟨vsp P R l m, (eb _).mpr ⟨hb, m, m1, by omega, rfl⟩, m3⟩
          · rintro ⟨h, y, z⟩
            obtain ⟨_, m, m1, m2, m3⟩ := (eb h).mp y
            rw [← m3] at z
            exact ⟨m, m1, by omega, z⟩
        have r01 := bo_01 (vlc P R p q f l)
        refine ⟨M, ?_, fr_rf⟩
        rw [b_Mo_leads_58, e]
        simp (disch := omega) only [b_Mo_leads_114, am_ck_T, am_ck_t, am_cif_t, am_cif_f, am_cif_T, am_cif_F, am_then_s, am_push_s, am_push_n, true_and, and_true, true_or, or_true, Int.cast_ofNat_Int, am_02, am_22, not_true_eq_false, not_false_eq_true]
      | succ n ih =>
        intro k M k1 k2 mp mr
        have st := m_stop hS hP mp mr (by omega) h1 h2 (show 0 ≤ k by omega) (show k < vsz P l by omega)
        have sr := vsp_rng hP hR h1 h2 (show 0 ≤ k by omega) (show k < vsz P l by omega)
        have al := m_allLines hS mp
        obtain ⟨M0, d1, d2, d3⟩ := m_layWays (w := -1) hS hP hR mp mr (by omega) h3 h4 sr.1 sr.2 (al_w hP)
        obtain ⟨M2, g1, g2⟩ := ih (k + 1) M0 (by omega) (by omega) (mP_fr (fun c hc j => d3 c (by omega) j) mp) (mR_fr hP (fun j _ _ => d3 165 (by omega) j) mr)
        obtain ⟨r', i1, i2, i3⟩ := vE_di (p := p) (w := -1) hP hR (Q := fun t => t = vsp P R l k) (fun g z => by have z' : g = vsp P R l k := z; rw [z']; exact sr) q
        have i4 := d2 q q1 (by omega) r' i1
        have i5 := vlc_one hP hR hf f1 h1 h2 ((eb _).mpr ⟨hb, k, k2, by omega, rfl⟩) i1
        have i6 : M0 172 q = f - 1 ↔ vN (vE P R p (-1)) (fun t => t = vsp P R l k) (f - 1).toNat q := by
          rw [← i5]
          by_cases hr : r' = -1
          · have := i4.1 hr; omega
          · rw [i4.2 hr]
        have i7 : 0 ≤ M0 172 q ∧ M0 172 q ≤ 99999999 := by
          by_cases hr : r' = -1
          · have := i4.1 hr; omega
          · have := i4.2 hr; omega
        refine ⟨M2, ?_, fr_tr d3 g2⟩
        rw [b_Mo_leads_58]
        by_cases hs : ∃ m, vbp P R l (vgt R p) < m ∧ m < k ∧ vN (vE P R p (-1)) (fun t => t = vsp P R l m) (f - 1).toNat q
        · rw [bo_t (show ∃ m, vbp P R l (vgt R p) < m ∧ m < k + 1 ∧ vN (vE P R p (-1)) (fun t => t = vsp P R l m) (f - 1).toNat q from by obtain ⟨m, m1, m2, m3⟩ := hs; exact ⟨m, m1, by omega, m3⟩)] at g1
          rw [bo_t hs]
          simp (disch := omega) only [b_Mo_leads_65, b_Mo_leads_76, b_Mo_leads_80, b_Mo_leads_83, b_Mo_leads_101, b_Mo_leads_106, mo0, mr0, mr1, mr2, mr3, mr4, mr5, mr6, mr7, mr8, mr9, mr10, mr11, mk0, mk1, mk2, mk3, mk4, mk5, mk6, mk7, mk8, mk9, mk10, mk11, st, al, d1, g1, am_ck_T, am_ck_t, am_cif_t, am_cif_f, am_cif_T, am_cif_F, am_then_s, am_push_s, am_push_n, true_and, and_true, true_or, or_true, Int.cast_ofNat_Int, am_02, am_22, not_true_eq_false, not_false_eq_true]
        · rw [bo_f hs]
          by_cases hv : vN (vE P R p (-1)) (fun t => t = vsp P R l k) (f - 1).toNat q
          · rw [bo_t (show ∃ m, vbp P R l (vgt R p) < m ∧ m < k + 1 ∧ vN (vE P R p (-1)) (fun t => t = vsp P R l m) (f - 1).toNat q from ⟨k, k2, by omega, hv⟩)] at g1
            have i8 := i6.mpr hv
            simp (disch := omega) only [b_Mo_leads_65, b_Mo_leads_76, b_Mo_leads_80, b_Mo_leads_83, b_Mo_leads_88, b_Mo_leads_101, b_Mo_leads_106, mo0, mr0, mr1, mr2, mr3, mr4, mr5, mr6, mr7, mr8, mr9, mr10, mr11, mk0, mk1, mk2, mk3, mk4, mk5, mk6, mk7, mk8, mk9, mk10, mk11, st, al, d1, g1, am_ck_T, am_ck_t, am_cif_t, am_cif_f, am_cif_T, am_cif_F, am_then_s, am_push_s, am_push_n, true_and, and_true, true_or, or_true, Int.cast_ofNat_Int, am_02, am_22, not_true_eq_false, not_false_eq_true]
          · rw [bo_f (show ¬ ∃ m, vbp P R l (vgt R p) < m ∧ m < k + 1 ∧ vN (vE P R p (-1)) (fun t => t = vsp P R l m) (f - 1).toNat q from by
              rintro ⟨m, m1, m2, m3⟩
              by_cases hm : m = k
              · rw [hm] at m3; exact hv m3
              · exact hs ⟨m, m1, by omega, m3⟩)] at g1
            have i8 : ¬ M0 172 q = f - 1 := fun z => hv (i6.mp z)
            simp (disch := omega) only [b_Mo_leads_65, b_Mo_leads_76, b_Mo_leads_80, b_Mo_leads_83, b_Mo_leads_88, b_Mo_leads_105, b_Mo_leads_106, mo0, mr0, mr1, mr2, mr3, mr4, mr5, mr6, mr7, mr8, mr9, mr10, mr11, mk0, mk1, mk2, mk3, mk4, mk5, mk6, mk7, mk8, mk9, mk10, mk11, st, al, d1, g1, am_ck_T, am_ck_t, am_cif_t, am_cif_f, am_cif_T, am_cif_F, am_then_s, am_push_s, am_push_n, true_and, and_true, true_or, or_true, Int.cast_ofNat_Int, am_02, am_22, not_true_eq_false, not_false_eq_true]
    obtain ⟨M1, d1, d2⟩ := loop (to + 1 - (vbp P R l (vgt R p) + 1)).toNat (vbp P R l (vgt R p) + 1) M (by omega) (by omega) mp mr
    rw [bo_f (show ¬ ∃ m, vbp P R l (vgt R p) < m ∧ m < vbp P R l (vgt R p) + 1 ∧ vN (vE P R p (-1)) (fun t => t = vsp P R l m) (f - 1).toNat q from fun ⟨m, m1, m2, _⟩ => by omega)] at d1
    refine ⟨M1, ?_, d2⟩
    simp (disch := omega) only [c_Mo_leads, b_Mo_leads_0, b_Mo_leads_15, b_Mo_leads_20, b_Mo_leads_35, b_Mo_leads_47, mo0, mr0, mr1, mr2, mr3, mr4, mr5, mr6, mr7, mr8, mr9, mr10, mr11, mk0, mk1, mk2, mk3, mk4, mk5, mk6, mk7, mk8, mk9, mk10, mk11, e2, e0, ew, ef, d1, am_ck_T, am_ck_t, am_cif_t, am_cif_f, am_cif_T, am_cif_F, am_then_s, am_push_s, am_push_n, true_and, and_true, true_or, or_true, Int.cast_ofNat_Int, am_02, am_22, not_true_eq_false, not_false_eq_true]
end WAYS
