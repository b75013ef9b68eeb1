/-! bestEnd -/
/-- line l may end in p -/
def vme (P : vP) (R : vR) (l p : Int) : Prop := ∀ k, 0 ≤ k → k < vsz P l - 1 → vsp P R l k ≠ p
noncomputable def vb1 (P : vP) (R : vR) (l p : Int) (s : Int × Int) : Int × Int := am_cif (vme P R l p ∧ s.2 < vpr P (vSe R l p)) (100 * vpr P (vSe R l p) + 10 * l + p, vpr P (vSe R l p)) s
noncomputable def vb2 (P : vP) (R : vR) (l : Int) : Nat → Int → Int × Int → Int × Int
  | 0, _, s => s
  | n + 1, p, s => vb2 P R l n (p + 1) (vb1 P R l p s)
noncomputable def vb3 (P : vP) (R : vR) : Nat → Int → Int × Int → Int × Int
  | 0, _, s => s
  | n + 1, l, s => vb3 P R n (l + 1) (vb2 P R l (vnp P).toNat 0 s)
def okE (s : Int × Int) : Prop := -1 ≤ s.1 ∧ s.1 ≤ 7000 ∧ -1 ≤ s.2 ∧ s.2 ≤ 64
theorem vb1_ok {P : vP} {R : vR} (hP : okP P) {l p : Int} {s : Int × Int} (h1 : 0 ≤ l) (h2 : l < 6) (h3 : 0 ≤ p) (h4 : p < 8) (hs : okE s) : okE (vb1 P R l p s) := by
  have r := vpr_rng (P := P) (R := vSe R l p) hP
  unfold vb1
  by_cases h : vme P R l p ∧ s.2 < vpr P (vSe R l p)
  · rw [am_cif_t h]
    unfold okE
    show -1 ≤ 100 * vpr P (vSe R l p) + 10 * l + p ∧ 100 * vpr P (vSe R l p) + 10 * l + p ≤ 7000 ∧ -1 ≤ vpr P (vSe R l p) ∧ vpr P (vSe R l p) ≤ 64
    omega
  · rw [am_cif_f h]; exact hs
theorem vb2_ok {P : vP} {R : vR} (hP : okP P) {l : Int} (h1 : 0 ≤ l) (h2 : l < 6) : ∀ (n : Nat) (p : Int) (s : Int × Int), 0 ≤ p → p + n ≤ 8 → okE s → okE (vb2 P R l n p s) := by
  intro n
  induction n with
  | zero => intro p s _ _ hs; exact hs
  | succ n ih => intro p s p1 p2 hs; exact ih (p + 1) _ (by omega) (by omega) (vb1_ok hP h1 h2 p1 (by omega) hs)
theorem vb3_ok {P : vP} {R : vR} (hP : okP P) : ∀ (n : Nat) (l : Int) (s : Int × Int), 0 ≤ l → l + n ≤ 6 → okE s → okE (vb3 P R n l s) := by
  intro n
  induction n with
  | zero => intro p s _ _ hs; exact hs
  | succ n ih => intro p s p1 p2 hs; exact ih (p + 1) _ (by omega) (by omega) (vb2_ok hP p1 (by omega) (vnp P).toNat 0 s (by omega) (by have := hP.2.1; have := hP.1; omega) hs)
theorem vSe_se {P : vP} {R : vR} {l v w : Int} : vEq P (vSe (vSe R l v) l w) (vSe R l w) := by
  refine ⟨fun _ _ _ _ _ _ => rfl, fun _ _ _ => rfl, fun k _ _ => ?_, rfl⟩
  show (if k = l then w else if k = l then v else ven R k) = if k = l then w else ven R k
  by_cases h : k = l
  · rw [if_pos h, if_pos h]
  · rw [if_neg h, if_neg h, if_neg h]
theorem vSe_id {P : vP} {R : vR} {l : Int} : vEq P (vSe R l (ven R l)) R := by
  refine ⟨fun _ _ _ _ _ _ => rfl, fun _ _ _ => rfl, fun k _ _ => ?_, rfl⟩
  show (if k = l then ven R l else ven R k) = ven R k
  by_cases h : k = l
  · rw [if_pos h, h]
  · rw [if_neg h]
theorem vEq_sm {P : vP} {R R' : vR} (h : vEq P R R') : vEq P R' R := ⟨fun p q a c d e => (h.1 p q a c d e).symm, fun p a c => (h.2.1 p a c).symm, fun l a c => (h.2.2.1 l a c).symm, h.2.2.2.symm⟩
theorem vEq_tr {P : vP} {R R' R'' : vR} (h : vEq P R R') (g : vEq P R' R'') : vEq P R R'' := ⟨fun p q a c d e => (h.1 p q a c d e).trans (g.1 p q a c d e), fun p a c => (h.2.1 p a c).trans (g.2.1 p a c), fun l a c => (h.2.2.1 l a c).trans (g.2.2.1 l a c), h.2.2.2.trans g.2.2.2⟩
/-- the class's trial and its walks change -/
def fs (M M1 : am_M) : Prop := ∀ k, ¬ (18 ≤ k ∧ k ≤ 21) → k ≠ 145 → ∀ j, M1 k j = M k j
theorem fs_rf {M : am_M} : fs M M := fun _ _ _ _ => rfl
theorem fs_tr {M M1 M2 : am_M} (h1 : fs M M1) (h2 : fs M1 M2) : fs M M2 := fun k a c j => (h2 k a c j).trans (h1 k a c j)
theorem fs_18 {M M1 : am_M} (h : fr 18 21 M M1) : fs M M1 := fun k a _ j => h k (by omega) j
theorem fs_145 {M M1 : am_M} (h : fr 145 145 M M1) : fs M M1 := fun k _ c j => h k (by omega) j
theorem fs_fr {M M1 : am_M} (h : fs M M1) : fr 1 163 M M1 := fun k hk j => h k (by omega) (by omega) j
/-- the reference's trial and its walks change -/
def ft (M M1 : am_M) : Prop := (∀ k, k ≠ 172 → k ≠ 165 → ∀ j, M1 k j = M k j) ∧ ∀ j, (j < 82 ∨ 164 ≤ j) → M1 165 j = M 165 j
theorem ft_rf {M : am_M} : ft M M := ⟨fun _ _ _ _ => rfl, fun _ _ => rfl⟩
theorem ft_tr {M M1 M2 : am_M} (h1 : ft M M1) (h2 : ft M1 M2) : ft M M2 := ⟨fun k a c j => (h2.1 k a c j).trans (h1.1 k a c j), fun j a => (h2.2 j a).trans (h1.2 j a)⟩
theorem ft_172 {M M1 : am_M} (h : fr 172 172 M M1) : ft M M1 := ⟨fun k a _ j => h k (by omega) j, fun j _ => h 165 (by omega) j⟩
theorem ft_fx {M M1 : am_M} (h : fx 82 M M1) : ft M M1 := ⟨fun k _ a j => h.1 k (by omega) j, fun j a => h.2 j (by omega)⟩
theorem ft_fy {M M1 : am_M} (h : fy 82 M M1) : ft M M1 := ⟨fun k _ a j => h.1 k (by omega) j, fun j a => h.2 j (by omega)⟩
theorem ft_wr {M : am_M} {i v : Int} (h : 82 ≤ i ∧ i < 164) : ft M (am_wr M 165 i v) := ⟨fun k _ a j => am_wr_k a, fun j a => am_wr_i (by omega)⟩
theorem ft_fr {M M1 : am_M} (h : ft M M1) : fr 164 176 M M1 := fun k hk j => h.1 k (by omega) (by omega) j
section BEST
variable {S : am_S} {M M1 : am_M} {X : vX} {B : Int} {P : vP} {R : vR} {b : Nat} {x : Int}
theorem CX_fs (h : fs M M1) (c : CX X M) : CX X M1 := CX_sc (fun k a d _ _ j => h k a d j) c
theorem MX_ft (hP : okP (xP X)) (h : ft M M1) (c : MX X M) : MX X M1 := MX_sc hP (fun k _ a d j => h.1 k a d j) h.2 c
theorem vme_iff (hP : okP P) (hR : okR P B R) {l p : Int} (l1 : 0 ≤ l) (l2 : l < vnl P) : vme P R l p ↔ (p = ven R l ∨ vpl P R l p = -1) := by
  have s1 := hP.2.2.2.2.1 l l1 l2
  have el : vsp P R l (vsz P l - 1) = ven R l := by unfold vsp; rw [if_pos rfl]
  constructor
  · intro h
    by_cases hm : vpl P R l p = -1
    · exact Or.inr hm
    · have e : vsp P R l (vpl P R l p) = p := vfi_some (vsp P R l) p (vsz P l).toNat 0 (by omega) hm
      have r := vfi_rng (vsp P R l) p (vsz P l).toNat 0
      have r' : vpl P R l p = -1 ∨ (0 ≤ vpl P R l p ∧ vpl P R l p < vsz P l) := by unfold vpl; omega
      by_cases hk : vpl P R l p = vsz P l - 1
      · rw [hk, el] at e; exact Or.inl e.symm
      · exact absurd e (h _ (by omega) (by omega))
  · rintro (h | h) k k1 k2
    · rw [h, ← el]; exact vsp_inj hP hR l1 l2 k1 k2 (by omega)
    · exact vfi_none (vsp P R l) p (vsz P l).toNat 0 (by omega) h k k1 (by omega)
theorem okR_me (hP : okP P) (hR : okR P B R) {l p : Int} (h1 : 0 ≤ p) (h2 : p < vnp P) (h : vme P R l p) : okR P B (vSe R l p) := by
  obtain ⟨a1, a2, a3, a4, a5⟩ := hR
  refine ⟨a1, a2, fun k k1 k2 => ?_, fun m k m1 m2 k1 k2 => ?_, a5⟩
  · show 0 ≤ (if k = l then p else ven R k) ∧ (if k = l then p else ven R k) < vnp P
    by_cases e : k = l
    · rw [if_pos e]; exact ⟨h1, h2⟩
    · rw [if_neg e]; exact a3 k k1 k2
  · show vst P m k ≠ (if m = l then p else ven R m)
    by_cases e : m = l
    · rw [if_pos e, e]
      rw [e] at k2
      have := h k k1 k2
      unfold vsp at this
      rw [if_neg (by omega)] at this
      exact this
    · rw [if_neg e]; exact a4 m k m1 m2 k1 k2
theorem m_mayEnd (hS : ly S) (hP : okP P) (hR : okR P B R) (mp : mP P M) (mr : mR P R 0 M) {l p : Int} (l1 : 0 ≤ l) (l2 : l < vnl P) (h3 : 0 ≤ p) (h4 : p < vnp P) : am_call 162 [am_r 164, am_i l, am_i p] S M = some (some (am_i (bo (vme P R l p))), S, M) := by
  obtain ⟨mo0, ⟨mr0, mr1, mr2, mr3, mr4, mr5, mr6, mr7, mr8, mr9, mr10, mr11⟩, mk0, mk1, mk2, mk3, mk4, mk5, mk6, mk7, mk8, mk9, mk10, mk11⟩ := hS.2.2.2.2.2.2.2.2.2.2
  have hP1 := hP.1
  have hP2 := hP.2.1
  have hP3 := hP.2.2.1
  have hP4 := hP.2.2.2.1
  have s1 := hP.2.2.2.2.1 l l1 l2
  have c1 := (mp.2.2.1 l l1 l2).1
  have loop : ∀ (n : Nat) (k : Int), 0 ≤ k → k + n = vsz P l - 1 → am_R 162 5 [some (am_r 164), some (am_i l), some (am_i p), some (am_i (bo (∀ j, 0 ≤ j → j < k → vsp P R l j ≠ p))), some (am_i k)] [] S M = some (some (am_i (bo (vme P R l p))), S, M) := by
    intro n
    induction n with
    | zero =>
      intro k k1 k2
      obtain rfl : k = vsz P l - 1 := by omega
      have r := bo_01 (vme P R l p)
      rw [b_Mo_mayEnd_5, show bo (∀ j, 0 ≤ j → j < vsz P l - 1 → vsp P R l j ≠ p) = bo (vme P R l p) from rfl]
      simp (disch := omega) only [b_Mo_mayEnd_46, mo0, mr0, mr1, mr2, mr3, mr4, mr5, mr6, mr7, mr8, mr9, mr10, mr11, mk0, mk1, mk2, mk3, mk4, mk5, mk6, mk7, mk8, mk9, mk10, mk11, c1, am_ck_T, am_ck_t, am_cif_t, am_cif_f, am_cif_T, am_cif_F, am_then_s, am_push_s, am_push_n, true_and, and_true, true_or, or_true, Int.cast_ofNat_Int, am_02, am_22, not_true_eq_false, not_false_eq_true]
    | succ n ih =>
      intro k k1 k2
      have st := m_stop hS hP mp mr (by omega) l1 l2 k1 (show k < vsz P l by omega)
      have sr := vsp_rng hP hR l1 l2 k1 (show k < vsz P l by omega)
      have ih1 := ih (k + 1) (by omega) (by omega)
      rw [b_Mo_mayEnd_5]
      by_cases ha : ∀ j, 0 ≤ j → j < k → vsp P R l j ≠ p
      · by_cases hk : vsp P R l k = p
        · rw [bo_f (show ¬ ∀ j, 0 ≤ j → j < k + 1 → vsp P R l j ≠ p from fun z => z k k1 (by omega) hk)] at ih1
          rw [bo_t ha]
          simp (disch := omega) only [b_Mo_mayEnd_18, b_Mo_mayEnd_22, b_Mo_mayEnd_30, b_Mo_mayEnd_38, b_Mo_mayEnd_39, mo0, mr0, mr1, mr2, mr3, mr4, mr5, mr6, mr7, mr8, mr9, mr10, mr11, mk0, mk1, mk2, mk3, mk4, mk5, mk6, mk7, mk8, mk9, mk10, mk11, c1, st, ih1, am_ck_T, am_ck_t, am_cif_t, am_cif_f, am_cif_T, am_cif_F, am_then_s, am_push_s, am_push_n, true_and, and_true, true_or, or_true, Int.cast_ofNat_Int, am_02, am_22, not_true_eq_false, not_false_eq_true]
        · rw [bo_t (show ∀ j, 0 ≤ j → j < k + 1 → vsp P R l j ≠ p from fun j j1 j2 => by
            by_cases e : j = k
            · rw [e]; exact hk
            · exact ha j j1 (by omega))] at ih1
          rw [bo_t ha]
          simp (disch := omega) only [b_Mo_mayEnd_18, b_Mo_mayEnd_22, b_Mo_mayEnd_30, b_Mo_mayEnd_34, b_Mo_mayEnd_39, mo0, mr0, mr1, mr2, mr3, mr4, mr5, mr6, mr7, mr8, mr9, mr10, mr11, mk0, mk1, mk2, mk3, mk4, mk5, mk6, mk7, mk8, mk9, mk10, mk11, c1, st, ih1, am_ck_T, am_ck_t, am_cif_t, am_cif_f, am_cif_T, am_cif_F, am_then_s, am_push_s, am_push_n, true_and, and_true, true_or, or_true, Int.cast_ofNat_Int, am_02, am_22, not_true_eq_false, not_false_eq_true]
      · rw [bo_f (show ¬ ∀ j, 0 ≤ j → j < k + 1 → vsp P R l j ≠ p from fun z => ha (fun j j1 j2 => z j j1 (by omega)))] at ih1
        rw [bo_f ha]
        simp (disch := omega) only [b_Mo_mayEnd_18, b_Mo_mayEnd_38, b_Mo_mayEnd_39, mo0, mr0, mr1, mr2, mr3, mr4, mr5, mr6, mr7, mr8, mr9, mr10, mr11, mk0, mk1, mk2, mk3, mk4, mk5, mk6, mk7, mk8, mk9, mk10, mk11, c1, ih1, am_ck_T, am_ck_t, am_cif_t, am_cif_f, am_cif_T, am_cif_F, am_then_s, am_push_s, am_push_n, true_and, and_true, true_or, or_true, Int.cast_ofNat_Int, am_02, am_22, not_true_eq_false, not_false_eq_true]
  have l0 := loop (vsz P l - 1).toNat 0 (by omega) (by omega)
  rw [bo_t (show ∀ j, 0 ≤ j → j < (0 : Int) → vsp P R l j ≠ p from fun j j1 j2 => by omega)] at l0
  simp (disch := omega) only [c_Mo_mayEnd, b_Mo_mayEnd_0, l0, am_ck_T, am_ck_t, am_cif_t, am_cif_f, am_cif_T, am_cif_F, am_then_s, am_push_s, am_push_n, true_and, and_true, true_or, or_true, Int.cast_ofNat_Int, am_02, am_22, not_true_eq_false, not_false_eq_true]
theorem k_best_in (hS : ly S) (ok : okX B X) {l : Int} (l1 : 0 ≤ l) (l2 : l < vnl (xP X)) : ∀ (n : Nat) (p v : Int) (s : Int × Int) (M : am_M) (o5 : Option am_V), 0 ≤ p → p + n = vnp (xP X) → okE s → CX X M → cR (xP X) (vSe (xR X) l v) 18 M → ∃ M1 v1 o6, am_R 83 31 [some (am_r 1), some (am_i s.1), some (am_i s.2), some (am_i l), some (am_i p), o5] [] S M = am_R 83 127 [some (am_r 1), some (am_i (vb2 (xP X) (xR X) l n p s).1), some (am_i (vb2 (xP X) (xR X) l n p s).2), some (am_i l), some (am_i (vnp (xP X))), o6] [] S M1 ∧ CX X M1 ∧ cR (xP X) (vSe (xR X) l v1) 18 M1 ∧ fs M M1 := by
  obtain ⟨tp0, tp1, tp2, tp3, tp4, tp5, tp6, tp7, tp8, tp9⟩ := hS.1
  obtain ⟨wa0, wa1, wa2⟩ := hS.2.2.2.2.2.2.1
  obtain ⟨pl0, pl1, pl2, pl3, pl4, pl5, pl6, pl7, pl8⟩ := hS.2.1
  have hP := ok.1
  have hR := ok.2.1
  have hP1 := hP.1
  have hP2 := hP.2.1
  have hP3 := hP.2.2.1
  have hP4 := hP.2.2.2.1
  have lf14 : lf 14 := by unfold lf; omega
  have lf18 : lf 18 := by unfold lf; omega
  obtain ⟨li0, li1, li2, li3, li4, li5, li6, li7⟩ := hS.2.2.2.2.1 14 lf14
  obtain ⟨ni0, ni1, ni2, ni3, ni4, ni5, ni6, ni7⟩ := hS.2.2.2.2.1 18 lf18
  have re := hR.2.2.1 l l1 l2
  intro n
  induction n with
  | zero =>
    intro p v s M o5 p1 p2 hs c cr
    obtain rfl : p = vnp (xP X) := by omega
    have c1 := c.1.1
    refine ⟨M, v, o5, ?_, c, cr, fs_rf⟩
    rw [b_Pe_bestEnd_31]
    simp (disch := omega) only [tp0, tp1, tp2, tp3, tp4, tp5, tp6, tp7, tp8, tp9, pl0, pl1, pl2, pl3, pl4, pl5, pl6, pl7, pl8, c1, vb2, am_ck_T, am_ck_t, am_cif_t, am_cif_f, am_cif_T, am_cif_F, am_then_s, am_push_s, am_push_n, true_and, and_true, true_or, or_true, Int.cast_ofNat_Int, am_02, am_22, not_true_eq_false, not_false_eq_true]
  | succ n ih =>
    intro p v s M o5 p1 p2 hs c cr
    have c1 := c.1.1
    have e1 := c.2.1.2.2.1 l l1 l2
    have e2 := k_place hS lf14 hP hR c.1 c.2.1 l1 l2 p1 (show p < vnp (xP X) by omega)
    have rr := vfi_rng (vsp (xP X) (xR X) l) p (vsz (xP X) l).toNat 0
    have s1 := hP.2.2.2.2.1 l l1 l2
    have r2 : vpl (xP X) (xR X) l p = -1 ∨ (0 ≤ vpl (xP X) (xR X) l p ∧ vpl (xP X) (xR X) l p < vsz (xP X) l) := by unfold vpl; omega
    have hi := vme_iff (p := p) hP hR l1 l2
    have uf : vb2 (xP X) (xR X) l (n + 1) p s = vb2 (xP X) (xR X) l n (p + 1) (vb1 (xP X) (xR X) l p s) := rfl
    have hs1 := vb1_ok (R := xR X) hP l1 (show l < 6 by omega) p1 (show p < 8 by omega) hs
    by_cases hm : vme (xP X) (xR X) l p
    · have okr := okR_me hP hR p1 (show p < vnp (xP X) by omega) hm
      have cr1 : cR (xP X) (vSe (xR X) l p) 18 (am_wr M 21 l p) := cR_to (cR_Se cr l p) vSe_se
      have f0 : fs M (am_wr M 21 l p) := fs_18 (fr_wr (by omega))
      have c0 := CX_fs f0 c
      obtain ⟨M0, d1, d2⟩ := k_pairs hS lf18 (by omega) hP okr c0.1 cr1
      have c2 := CX_145 c0 d2
      have rp := vpr_rng (P := xP X) (R := vSe (xR X) l p) hP
      obtain ⟨M1, v1, o6, g1, g2, g3, g4⟩ := ih (p + 1) p (vb1 (xP X) (xR X) l p s) M0 (some (am_i (vpr (xP X) (vSe (xR X) l p)))) (by omega) (by omega) hs1 c2 (cR_fr (fun k _ _ => d2 k (by omega)) cr1)
      refine ⟨M1, v1, o6, ?_, g2, g3, fs_tr f0 (fs_tr (fs_145 d2) g4)⟩
      rw [uf, ← g1, b_Pe_bestEnd_31]
      unfold okE at hs
      have go : am_R 83 74 [some (am_r 1), some (am_i s.1), some (am_i s.2), some (am_i l), some (am_i p), o5] [] S M = am_R 83 31 [some (am_r 1), some (am_i (vb1 (xP X) (xR X) l p s).1), some (am_i (vb1 (xP X) (xR X) l p s).2), some (am_i l), some (am_i (p + 1)), some (am_i (vpr (xP X) (vSe (xR X) l p)))] [] S M0 := by
        unfold vb1
        by_cases hc : s.2 < vpr (xP X) (vSe (xR X) l p)
        · rw [am_cif_t (show vme (xP X) (xR X) l p ∧ s.2 < vpr (xP X) (vSe (xR X) l p) from ⟨hm, hc⟩)]
          simp (disch := omega) only [b_Pe_bestEnd_74, b_Pe_bestEnd_96, b_Pe_bestEnd_104, b_Pe_bestEnd_121, tp0, tp1, tp2, tp3, tp4, tp5, tp6, tp7, tp8, tp9, wa0, wa1, wa2, pl0, pl1, pl2, pl3, pl4, pl5, pl6, pl7, pl8, ni0, ni3, ni4, ni7, d1, am_ck_T, am_ck_t, am_cif_t, am_cif_f, am_cif_T, am_cif_F, am_then_s, am_push_s, am_push_n, true_and, and_true, true_or, or_true, Int.cast_ofNat_Int, am_02, am_22, not_true_eq_false, not_false_eq_true]
        · rw [am_cif_f (show ¬ (vme (xP X) (xR X) l p ∧ s.2 < vpr (xP X) (vSe (xR X) l p)) from fun z => hc z.2)]
          simp (disch := omega) only [b_Pe_bestEnd_74, b_Pe_bestEnd_96, b_Pe_bestEnd_121, tp0, tp1, tp2, tp3, tp4, tp5, tp6, tp7, tp8, tp9, wa0, wa1, wa2, pl0, pl1, pl2, pl3, pl4, pl5, pl6, pl7, pl8, ni0, ni3, ni4, ni7, d1, am_ck_T, am_ck_t, am_cif_t, am_cif_f, am_cif_T, am_cif_F, am_then_s, am_push_s, am_push_n, true_and, and_true, true_or, or_true, Int.cast_ofNat_Int, am_02, am_22, not_true_eq_false, not_false_eq_true]
      by_cases he : p = ven (xR X) l
      · simp (disch := omega) only [b_Pe_bestEnd_43, go, tp0, tp1, tp2, tp3, tp4, tp5, tp6, tp7, tp8, tp9, wa0, wa1, wa2, pl0, pl1, pl2, pl3, pl4, pl5, pl6, pl7, pl8, li0, li1, li2, li3, li4, li5, li6, li7, c1, e1, am_ck_T, am_ck_t, am_cif_t, am_cif_f, am_cif_T, am_cif_F, am_then_s, am_push_s, am_push_n, true_and, and_true, true_or, or_true, Int.cast_ofNat_Int, am_02, am_22, not_true_eq_false, not_false_eq_true]
      · have hn : vpl (xP X) (xR X) l p = -1 := (hi.mp hm).elim (fun z => absurd z he) id
        simp (disch := omega) only [b_Pe_bestEnd_43, b_Pe_bestEnd_57, b_Pe_bestEnd_67, go, tp0, tp1, tp2, tp3, tp4, tp5, tp6, tp7, tp8, tp9, wa0, wa1, wa2, pl0, pl1, pl2, pl3, pl4, pl5, pl6, pl7, pl8, li0, li1, li2, li3, li4, li5, li6, li7, c1, e1, e2, am_ck_T, am_ck_t, am_cif_t, am_cif_f, am_cif_T, am_cif_F, am_then_s, am_push_s, am_push_n, true_and, and_true, true_or, or_true, Int.cast_ofNat_Int, am_02, am_22, not_true_eq_false, not_false_eq_true]
    · have v1e : vb1 (xP X) (xR X) l p s = s := by unfold vb1; rw [am_cif_f (fun z => hm z.1)]
      obtain ⟨M1, v1, o6, g1, g2, g3, g4⟩ := ih (p + 1) v s M o5 (by omega) (by omega) hs c cr
      refine ⟨M1, v1, o6, ?_, g2, g3, g4⟩
      rw [uf, v1e, ← g1, b_Pe_bestEnd_31]
      have he : ¬ p = ven (xR X) l := fun z => hm (hi.mpr (Or.inl z))
      have hn : ¬ vpl (xP X) (xR X) l p = -1 := fun z => hm (hi.mpr (Or.inr z))
      simp (disch := omega) only [b_Pe_bestEnd_43, b_Pe_bestEnd_57, b_Pe_bestEnd_67, b_Pe_bestEnd_71, b_Pe_bestEnd_121, tp0, tp1, tp2, tp3, tp4, tp5, tp6, tp7, tp8, tp9, wa0, wa1, wa2, pl0, pl1, pl2, pl3, pl4, pl5, pl6, pl7, pl8, li0, li1, li2, li3, li4, li5, li6, li7, c1, e1, e2, am_ck_T, am_ck_t, am_cif_t, am_cif_f, am_cif_T, am_cif_F, am_then_s, am_push_s, am_push_n, true_and, and_true, true_or, or_true, Int.cast_ofNat_Int, am_02, am_22, not_true_eq_false, not_false_eq_true]
theorem m_best_in (hS : ly S) (ok : okX B X) {l : Int} (l1 : 0 ≤ l) (l2 : l < vnl (xP X)) : ∀ (n : Nat) (p v : Int) (s : Int × Int) (M : am_M) (o5 : Option am_V), 0 ≤ p → p + n = vnp (xP X) → okE s → MX X M → mR (xP X) (vSe (xR X) l v) 82 M → ∃ M1 v1 o6, am_R 163 24 [some (am_r 164), some (am_i s.1), some (am_i s.2), some (am_i l), some (am_i p), o5] [] S M = am_R 163 106 [some (am_r 164), some (am_i (vb2 (xP X) (xR X) l n p s).1), some (am_i (vb2 (xP X) (xR X) l n p s).2), some (am_i l), some (am_i (vnp (xP X))), o6] [] S M1 ∧ MX X M1 ∧ mR (xP X) (vSe (xR X) l v1) 82 M1 ∧ ft M M1 := by
  obtain ⟨mo0, ⟨mr0, mr1, mr2, mr3, mr4, mr5, mr6, mr7, mr8, mr9, mr10, mr11⟩, mk0, mk1, mk2, mk3, mk4, mk5, mk6, mk7, mk8, mk9, mk10, mk11⟩ := hS.2.2.2.2.2.2.2.2.2.2
  have hP := ok.1
  have hR := ok.2.1
  have hP1 := hP.1
  have hP2 := hP.2.1
  have hP3 := hP.2.2.1
  have hP4 := hP.2.2.2.1
  intro n
  induction n with
  | zero =>
    intro p v s M o5 p1 p2 hs c cr
    obtain rfl : p = vnp (xP X) := by omega
    have c1 := c.1.1
    refine ⟨M, v, o5, ?_, c, cr, ft_rf⟩
    rw [b_Mo_bestEnd_24]
    simp (disch := omega) only [mo0, mr0, mr1, mr2, mr3, mr4, mr5, mr6, mr7, mr8, mr9, mr10, mr11, mk0, mk1, mk2, mk3, mk4, mk5, mk6, mk7, mk8, mk9, mk10, mk11, c1, vb2, am_ck_T, am_ck_t, am_cif_t, am_cif_f, am_cif_T, am_cif_F, am_then_s, am_push_s, am_push_n, true_and, and_true, true_or, or_true, Int.cast_ofNat_Int, am_02, am_22, not_true_eq_false, not_false_eq_true]
  | succ n ih =>
    intro p v s M o5 p1 p2 hs c cr
    have c1 := c.1.1
    have e1 := m_mayEnd hS hP hR c.1 c.2.1 l1 l2 p1 (show p < vnp (xP X) by omega)
    have uf : vb2 (xP X) (xR X) l (n + 1) p s = vb2 (xP X) (xR X) l n (p + 1) (vb1 (xP X) (xR X) l p s) := rfl
    have hs1 := vb1_ok (R := xR X) hP l1 (show l < 6 by omega) p1 (show p < 8 by omega) hs
    by_cases hm : vme (xP X) (xR X) l p
    · rw [bo_t hm] at e1
      have okr := okR_me hP hR p1 (show p < vnp (xP X) by omega) hm
      have cr0 := mR_Se hP cr p (show 0 ≤ l ∧ l < 6 by omega)
      rw [show (82 : Int) + 72 + l = 154 + l by omega] at cr0
      have cr1 : mR (xP X) (vSe (xR X) l p) 82 (am_wr M 165 (154 + l) p) := mR_to cr0 vSe_se
      have f0 : ft M (am_wr M 165 (154 + l) p) := ft_wr (by omega)
      have c0 := MX_ft hP f0 c
      obtain ⟨M0, d1, d2⟩ := m_pairs hS hP okr c0.1 cr1 (by omega)
      have c2 := MX_172 hP c0 d2
      have rp := vpr_rng (P := xP X) (R := vSe (xR X) l p) hP
      obtain ⟨M1, v1, o6, g1, g2, g3, g4⟩ := ih (p + 1) p (vb1 (xP X) (xR X) l p s) M0 (some (am_i (vpr (xP X) (vSe (xR X) l p)))) (by omega) (by omega) hs1 c2 (mR_fr hP (fun j _ _ => d2 165 (by omega) j) cr1)
      refine ⟨M1, v1, o6, ?_, g2, g3, ft_tr f0 (ft_tr (ft_172 d2) g4)⟩
      rw [uf, ← g1, b_Mo_bestEnd_24]
      unfold okE at hs
      unfold vb1
      by_cases hc : s.2 < vpr (xP X) (vSe (xR X) l p)
      · rw [am_cif_t (show vme (xP X) (xR X) l p ∧ s.2 < vpr (xP X) (vSe (xR X) l p) from ⟨hm, hc⟩)]
        simp (disch := omega) only [b_Mo_bestEnd_33, b_Mo_bestEnd_40, b_Mo_bestEnd_43, b_Mo_bestEnd_61, b_Mo_bestEnd_69, b_Mo_bestEnd_86, b_Mo_bestEnd_93, b_Mo_bestEnd_99, b_Mo_bestEnd_100, mo0, mr0, mr1, mr2, mr3, mr4, mr5, mr6, mr7, mr8, mr9, mr10, mr11, mk0, mk1, mk2, mk3, mk4, mk5, mk6, mk7, mk8, mk9, mk10, mk11, c1, e1, d1, am_ck_T, am_ck_t, am_cif_t, am_cif_f, am_cif_T, am_cif_F, am_then_s, am_push_s, am_push_n, true_and, and_true, true_or, or_true, Int.cast_ofNat_Int, am_02, am_22, not_true_eq_false, not_false_eq_true]
      · rw [am_cif_f (show ¬ (vme (xP X) (xR X) l p ∧ s.2 < vpr (xP X) (vSe (xR X) l p)) from fun z => hc z.2)]
        simp (disch := omega) only [b_Mo_bestEnd_33, b_Mo_bestEnd_40, b_Mo_bestEnd_43, b_Mo_bestEnd_61, b_Mo_bestEnd_85, b_Mo_bestEnd_86, b_Mo_bestEnd_98, b_Mo_bestEnd_99, b_Mo_bestEnd_100, mo0, mr0, mr1, mr2, mr3, mr4, mr5, mr6, mr7, mr8, mr9, mr10, mr11, mk0, mk1, mk2, mk3, mk4, mk5, mk6, mk7, mk8, mk9, mk10, mk11, c1, e1, d1, am_ck_T, am_ck_t, am_cif_t, am_cif_f, am_cif_T, am_cif_F, am_then_s, am_push_s, am_push_n, true_and, and_true, true_or, or_true, Int.cast_ofNat_Int, am_02, am_22, not_true_eq_false, not_false_eq_true]
    · rw [bo_f hm] at e1
      have v1e : vb1 (xP X) (xR X) l p s = s := by unfold vb1; rw [am_cif_f (fun z => hm z.1)]
      obtain ⟨M1, v1, o6, g1, g2, g3, g4⟩ := ih (p + 1) v s M o5 (by omega) (by omega) hs c cr
      refine ⟨M1, v1, o6, ?_, g2, g3, g4⟩
      rw [uf, v1e, ← g1, b_Mo_bestEnd_24]
      simp (disch := omega) only [b_Mo_bestEnd_33, b_Mo_bestEnd_40, b_Mo_bestEnd_100, mo0, mr0, mr1, mr2, mr3, mr4, mr5, mr6, mr7, mr8, mr9, mr10, mr11, mk0, mk1, mk2, mk3, mk4, mk5, mk6, mk7, mk8, mk9, mk10, mk11, c1, e1, am_ck_T, am_ck_t, am_cif_t, am_cif_f, am_cif_T, am_cif_F, am_then_s, am_push_s, am_push_n, true_and, and_true, true_or, or_true, Int.cast_ofNat_Int, am_02, am_22, not_true_eq_false, not_false_eq_true]
theorem p_bestEnd (hS : ly S) : Pr S 83 163 [] := by
  intro B X h0 h1 ok
  obtain ⟨tp0, tp1, tp2, tp3, tp4, tp5, tp6, tp7, tp8, tp9⟩ := hS.1
  obtain ⟨wa0, wa1, wa2⟩ := hS.2.2.2.2.2.2.1
  obtain ⟨pl0, pl1, pl2, pl3, pl4, pl5, pl6, pl7, pl8⟩ := hS.2.1
  obtain ⟨mo0, ⟨mr0, mr1, mr2, mr3, mr4, mr5, mr6, mr7, mr8, mr9, mr10, mr11⟩, mk0, mk1, mk2, mk3, mk4, mk5, mk6, mk7, mk8, mk9, mk10, mk11⟩ := hS.2.2.2.2.2.2.2.2.2.2
  have hP := ok.1
  have hR := ok.2.1
  have hP1 := hP.1
  have hP2 := hP.2.1
  have hP3 := hP.2.2.1
  have hP4 := hP.2.2.2.1
  have lf14 : lf 14 := by unfold lf; omega
  have lf18 : lf 18 := by unfold lf; omega
  obtain ⟨li0, li1, li2, li3, li4, li5, li6, li7⟩ := hS.2.2.2.2.1 14 lf14
  obtain ⟨ni0, ni1, ni2, ni3, ni4, ni5, ni6, ni7⟩ := hS.2.2.2.2.1 18 lf18
  have e0 : okE (-1, -1) := by unfold okE; decide
  have fin := vb3_ok (R := xR X) hP (vnl (xP X)).toNat 0 (-1, -1) (by omega) (by omega) e0
  refine ⟨(vb3 (xP X) (xR X) (vnl (xP X)).toNat 0 (-1, -1)).1, X, ⟨by have := fin.1; omega, by have := fin.2.1; omega⟩, okX_B ok (by omega), fun M c => ?_, fun M c => ?_⟩
  · have loop : ∀ (n : Nat) (l : Int) (s : Int × Int) (M : am_M) (o4 o5 : Option am_V), 0 ≤ l → l + n = vnl (xP X) → okE s → CX X M → cR (xP X) (xR X) 18 M → ∃ M1, am_R 83 17 [some (am_r 1), some (am_i s.1), some (am_i s.2), some (am_i l), o4, o5] [] S M = some (some (am_i (vb3 (xP X) (xR X) n l s).1), S, M1) ∧ CX X M1 ∧ fs M M1 := by
      intro n
      induction n with
      | zero =>
        intro l s M o4 o5 l1 l2 hs c cr
        have c2 := c.1.2.1
        refine ⟨M, ?_, c, fs_rf⟩
        rw [b_Pe_bestEnd_17]
        simp (disch := omega) only [b_Pe_bestEnd_151, tp0, tp1, tp2, tp3, tp4, tp5, tp6, tp7, tp8, tp9, pl0, pl1, pl2, pl3, pl4, pl5, pl6, pl7, pl8, c2, vb3, am_ck_T, am_ck_t, am_cif_t, am_cif_f, am_cif_T, am_cif_F, am_then_s, am_push_s, am_push_n, true_and, and_true, true_or, or_true, Int.cast_ofNat_Int, am_02, am_22, not_true_eq_false, not_false_eq_true]
      | succ n ih =>
        intro l s M o4 o5 l1 l2 hs c cr
        have c2 := c.1.2.1
        obtain ⟨M0, v1, o6, d1, d2, d3, d4⟩ := k_best_in hS ok l1 (show l < vnl (xP X) by omega) (vnp (xP X)).toNat 0 (ven (xR X) l) s M o5 (by omega) (by omega) hs c (cR_to cr (vEq_sm vSe_id))
        have e1 := d2.2.1.2.2.1 l l1 (show l < vnl (xP X) by omega)
        have cr1 : cR (xP X) (xR X) 18 (am_wr M0 21 l (ven (xR X) l)) := cR_to (cR_Se d3 l (ven (xR X) l)) (vEq_tr vSe_se vSe_id)
        have f0 : fs M0 (am_wr M0 21 l (ven (xR X) l)) := fs_18 (fr_wr (by omega))
        obtain ⟨M1, g1, g2, g3⟩ := ih (l + 1) (vb2 (xP X) (xR X) l (vnp (xP X)).toNat 0 s) (am_wr M0 21 l (ven (xR X) l)) (some (am_i (vnp (xP X)))) o6 (by omega) (by omega) (vb2_ok hP l1 (by omega) (vnp (xP X)).toNat 0 s (by omega) (by omega) hs) (CX_fs f0 d2) cr1
        refine ⟨M1, ?_, g2, fs_tr d4 (fs_tr f0 g3)⟩
        rw [b_Pe_bestEnd_17]
        simp (disch := omega) only [b_Pe_bestEnd_28, d1, b_Pe_bestEnd_127, tp0, tp1, tp2, tp3, tp4, tp5, tp6, tp7, tp8, tp9, pl0, pl1, pl2, pl3, pl4, pl5, pl6, pl7, pl8, li0, li1, li2, li3, li4, li5, li6, li7, ni0, ni3, ni4, ni7, c2, e1, g1, vb3, am_ck_T, am_ck_t, am_cif_t, am_cif_f, am_cif_T, am_cif_F, am_then_s, am_push_s, am_push_n, true_and, and_true, true_or, or_true, Int.cast_ofNat_Int, am_02, am_22, not_true_eq_false, not_false_eq_true]
    obtain ⟨M0, d1, d2, d3⟩ := k_copy (S := S) (b := 18) (b' := 14) hS lf18 lf14 hP (by omega) c.2.1
    obtain ⟨M1, g1, g2, g3⟩ := loop (vnl (xP X)).toNat 0 (-1, -1) M0 none none (by omega) (by omega) e0 (CX_fs (fs_18 d3) c) d2
    refine ⟨M1, ?_, g2, fs_fr (fs_tr (fs_18 d3) g3)⟩
    simp (disch := omega) only [c_Pe_bestEnd, b_Pe_bestEnd_0, b_Pe_bestEnd_15, tp0, tp1, tp2, tp3, tp4, tp5, tp6, tp7, tp8, tp9, pl0, pl1, pl2, pl3, pl4, pl5, pl6, pl7, pl8, li0, li1, li2, li3, li4, li5, li6, li7, ni0, d1, g1, am_ck_T, am_ck_t, am_cif_t, am_cif_f, am_cif_T, am_cif_F, am_then_s, am_push_s, am_push_n, true_and, and_true, true_or, or_true, Int.cast_ofNat_Int, am_02, am_22, not_true_eq_false, not_false_eq_true]
  · have loop : ∀ (n : Nat) (l : Int) (s : Int × Int) (M : am_M) (o4 o5 : Option am_V), 0 ≤ l → l + n = vnl (xP X) → okE s → MX X M → mR (xP X) (xR X) 82 M → ∃ M1, am_R 163 13 [some (am_r 164), some (am_i s.1), some (am_i s.2), some (am_i l), o4, o5] [] S M = some (some (am_i (vb3 (xP X) (xR X) n l s).1), S, M1) ∧ MX X M1 ∧ ft M M1 := by
      intro n
      induction n with
      | zero =>
        intro l s M o4 o5 l1 l2 hs c cr
        have c2 := c.1.2.1
        refine ⟨M, ?_, c, ft_rf⟩
        rw [b_Mo_bestEnd_13]
        simp (disch := omega) only [b_Mo_bestEnd_131, mo0, mr0, mr1, mr2, mr3, mr4, mr5, mr6, mr7, mr8, mr9, mr10, mr11, mk0, mk1, mk2, mk3, mk4, mk5, mk6, mk7, mk8, mk9, mk10, mk11, c2, vb3, am_ck_T, am_ck_t, am_cif_t, am_cif_f, am_cif_T, am_cif_F, am_then_s, am_push_s, am_push_n, true_and, and_true, true_or, or_true, Int.cast_ofNat_Int, am_02, am_22, not_true_eq_false, not_false_eq_true]
      | succ n ih =>
        intro l s M o4 o5 l1 l2 hs c cr
        have c2 := c.1.2.1
        obtain ⟨M0, v1, o6, d1, d2, d3, d4⟩ := m_best_in hS ok l1 (show l < vnl (xP X) by omega) (vnp (xP X)).toNat 0 (ven (xR X) l) s M o5 (by omega) (by omega) hs c (mR_to cr (vEq_sm vSe_id))
        have e1 : M0 165 (72 + l) = ven (xR X) l := by have := d2.2.1.2.2.1 l l1 (show l < vnl (xP X) by omega); rw [Int.zero_add] at this; exact this
        have cr0 := mR_Se hP d3 (ven (xR X) l) (show 0 ≤ l ∧ l < 6 by omega)
        rw [show (82 : Int) + 72 + l = 154 + l by omega] at cr0
        have cr1 : mR (xP X) (xR X) 82 (am_wr M0 165 (154 + l) (ven (xR X) l)) := mR_to cr0 (vEq_tr vSe_se vSe_id)
        have f0 : ft M0 (am_wr M0 165 (154 + l) (ven (xR X) l)) := ft_wr (by omega)
        obtain ⟨M1, g1, g2, g3⟩ := ih (l + 1) (vb2 (xP X) (xR X) l (vnp (xP X)).toNat 0 s) (am_wr M0 165 (154 + l) (ven (xR X) l)) (some (am_i (vnp (xP X)))) o6 (by omega) (by omega) (vb2_ok hP l1 (by omega) (vnp (xP X)).toNat 0 s (by omega) (by omega) hs) (MX_ft hP f0 d2) cr1
        refine ⟨M1, ?_, g2, ft_tr d4 (ft_tr f0 g3)⟩
        rw [b_Mo_bestEnd_13]
        simp (disch := omega) only [b_Mo_bestEnd_21, d1, b_Mo_bestEnd_106, mo0, mr0, mr1, mr2, mr3, mr4, mr5, mr6, mr7, mr8, mr9, mr10, mr11, mk0, mk1, mk2, mk3, mk4, mk5, mk6, mk7, mk8, mk9, mk10, mk11, c2, e1, g1, vb3, am_ck_T, am_ck_t, am_cif_t, am_cif_f, am_cif_T, am_cif_F, am_then_s, am_push_s, am_push_n, true_and, and_true, true_or, or_true, Int.cast_ofNat_Int, am_02, am_22, not_true_eq_false, not_false_eq_true]
    obtain ⟨M0, d1, d2, d3⟩ := m_copy (S := S) (M := M) (x := 0) (y := 82) hS (by omega) (by omega) (by omega)
    obtain ⟨M1, g1, g2, g3⟩ := loop (vnl (xP X)).toNat 0 (-1, -1) M0 none none (by omega) (by omega) e0 (MX_ft hP (ft_fy d3) c) (mR_copy hP d2 c.2.1)
    refine ⟨M1, ?_, g2, ft_fr (ft_tr (ft_fy d3) g3)⟩
    simp (disch := omega) only [c_Mo_bestEnd, b_Mo_bestEnd_0, b_Mo_bestEnd_11, mo0, mr0, mr1, mr2, mr3, mr4, mr5, mr6, mr7, mr8, mr9, mr10, mr11, mk0, mk1, mk2, mk3, mk4, mk5, mk6, mk7, mk8, mk9, mk10, mk11, d1, g1, am_ck_T, am_ck_t, am_cif_t, am_cif_f, am_cif_T, am_cif_F, am_then_s, am_push_s, am_push_n, true_and, and_true, true_or, or_true, Int.cast_ofNat_Int, am_02, am_22, not_true_eq_false, not_false_eq_true]
end BEST
