/-! sets of gates: numbers below 256 -/
theorem bv_bit : ∀ (d : Fin 256) (q : Fin 8), am_and (am_shr (d.val : Int) (q.val : Int)) 1 = if Nat.testBit d.val q.val then 1 else 0 := by decide +kernel
theorem bv_shl : ∀ q : Fin 8, am_shl 1 (q.val : Int) = ((2 ^ q.val : Nat) : Int) := by decide +kernel
theorem bv_or {d e : Nat} (h1 : d < 256) (h2 : e < 256) : am_or (d : Int) (e : Int) = ((d ||| e : Nat) : Int) := by
  have h3 : d ||| e < 2 ^ 8 := Nat.or_lt_two_pow (n := 8) h1 h2
  have e0 : (BitVec.ofInt 32 (d : Int) ||| BitVec.ofInt 32 (e : Int)).toNat = d ||| e := by
    rw [BitVec.ofInt_natCast, BitVec.ofInt_natCast, BitVec.toNat_or, BitVec.toNat_ofNat, BitVec.toNat_ofNat, Nat.mod_eq_of_lt (by omega), Nat.mod_eq_of_lt (by omega)]
  show (BitVec.ofInt 32 (d : Int) ||| BitVec.ofInt 32 (e : Int)).toInt = _
  rw [BitVec.toInt_eq_toNat_of_lt (by rw [e0]; omega), e0]
/-- a is the set Q (of 0 .. 7) -/
def bs (a : Int) (Q : Int → Prop) : Prop := ∃ d : Nat, d < 256 ∧ a = (d : Int) ∧ ∀ q : Nat, q < 8 → (Nat.testBit d q = true ↔ Q (q : Int))
theorem bs_rng {a : Int} {Q : Int → Prop} (h : bs a Q) : 0 ≤ a ∧ a < 256 := by
  obtain ⟨d, h1, rfl, _⟩ := h
  omega
theorem bs_1 {a : Int} {Q : Int → Prop} (h : bs a Q) {q : Int} (h1 : 0 ≤ q) (h2 : q < 8) : am_and (am_shr a q) 1 = bo (Q q) := by
  obtain ⟨d, d1, rfl, d2⟩ := h
  have c : ((q.toNat : Nat) : Int) = q := by omega
  have u : am_and (am_shr (d : Int) ((q.toNat : Nat) : Int)) 1 = if Nat.testBit d q.toNat then 1 else 0 := bv_bit ⟨d, d1⟩ ⟨q.toNat, by omega⟩
  have w := d2 q.toNat (by omega)
  rw [c] at u w
  rw [u]
  by_cases hq : Nat.testBit d q.toNat = true
  · rw [if_pos hq, bo_t (w.mp hq)]
  · rw [if_neg hq, bo_f (fun z => hq (w.mpr z))]
theorem bs_or {a b : Int} {Q Q' : Int → Prop} (h : bs a Q) (h' : bs b Q') : bs (am_or a b) (fun q => Q q ∨ Q' q) := by
  obtain ⟨d, d1, rfl, d2⟩ := h
  obtain ⟨e, e1, rfl, e2⟩ := h'
  refine ⟨d ||| e, Nat.or_lt_two_pow (n := 8) d1 e1, bv_or d1 e1, fun q hq => ?_⟩
  rw [Nat.testBit_or, Bool.or_eq_true, d2 q hq, e2 q hq]
theorem bs_0 : bs 0 (fun _ => False) := ⟨0, by omega, rfl, fun q _ => by simp⟩
theorem bs_one {q : Int} (h1 : 0 ≤ q) (h2 : q < 8) : bs (am_shl 1 q) (fun h => h = q) := by
  have c : ((q.toNat : Nat) : Int) = q := by omega
  have u : am_shl 1 ((q.toNat : Nat) : Int) = ((2 ^ q.toNat : Nat) : Int) := bv_shl ⟨q.toNat, by omega⟩
  rw [c] at u
  refine ⟨2 ^ q.toNat, Nat.pow_lt_pow_right (a := 2) (n := 8) (by omega) (by omega), u, fun j hj => ?_⟩
  rw [Nat.testBit_two_pow, decide_eq_true_iff]
  omega
theorem bs_c {a : Int} {Q Q' : Int → Prop} (h : bs a Q) (e : ∀ q, 0 ≤ q → q < 8 → (Q q ↔ Q' q)) : bs a Q' := by
  obtain ⟨d, d1, d3, d2⟩ := h
  exact ⟨d, d1, d3, fun q hq => (d2 q hq).trans (e q (by omega) (by omega))⟩
theorem bs_ext {a b : Int} {Q : Int → Prop} (h : bs a Q) (h' : bs b Q) : a = b := by
  obtain ⟨d, d1, rfl, d2⟩ := h
  obtain ⟨e, e1, rfl, e2⟩ := h'
  have : d = e := by
    apply Nat.eq_of_testBit_eq
    intro i
    by_cases hi : i < 8
    · exact Bool.eq_iff_iff.mpr ((d2 i hi).trans (e2 i hi).symm)
    · have p8 : (2 : Nat) ^ 8 ≤ 2 ^ i := Nat.pow_le_pow_right (by omega) (by omega)
      rw [Nat.testBit_lt_two_pow (by omega), Nat.testBit_lt_two_pow (by omega)]
  rw [this]
/-! walks -/
/-- line l leads person p from gate g to gate h by one ride -/
def ve (P : vP) (R : vR) (p l g h : Int) : Prop := ∃ j k, 0 ≤ j ∧ j < k ∧ k < vsz P l ∧ vsp P R l j = g ∧ vsp P R l k = h ∧ ∀ m, j < m → m ≤ k → vmg P R p l m
/-- some line but w does -/
def vE (P : vP) (R : vR) (p w g h : Int) : Prop := ∃ l, 0 ≤ l ∧ l < vnl P ∧ l ≠ w ∧ ve P R p l g h
/-- by n rides at most, from one of Q -/
def vN (E : Int → Int → Prop) (Q : Int → Prop) : Nat → Int → Prop
  | 0, h => Q h
  | n + 1, h => vN E Q n h ∨ ∃ g, vN E Q n g ∧ E g h
theorem vN_le {E : Int → Int → Prop} {Q : Int → Prop} {h : Int} : ∀ (n m : Nat), vN E Q m h → vN E Q (m + n) h := by
  intro n
  induction n with
  | zero => intro m z; exact z
  | succ n ih => intro m z; exact Or.inl (ih m z)
theorem vN_mo {E : Int → Int → Prop} {Q : Int → Prop} {h : Int} {m n : Nat} (hmn : m ≤ n) (z : vN E Q m h) : vN E Q n h := by
  have := vN_le (n - m) m z
  rw [show m + (n - m) = n by omega] at this
  exact this
theorem vN_or {E : Int → Int → Prop} {Q : Int → Prop} : ∀ (n : Nat) (h : Int), vN E Q n h ↔ ∃ g, Q g ∧ vN E (fun x => x = g) n h := by
  intro n
  induction n with
  | zero => intro h; exact ⟨fun z => ⟨h, z, rfl⟩, fun ⟨g, z, e⟩ => by have e' : h = g := e; rw [e']; exact z⟩
  | succ n ih =>
    intro h
    constructor
    · rintro (z | ⟨g, z, e⟩)
      · obtain ⟨x, x1, x2⟩ := (ih h).mp z
        exact ⟨x, x1, Or.inl x2⟩
      · obtain ⟨x, x1, x2⟩ := (ih g).mp z
        exact ⟨x, x1, Or.inr ⟨g, x2, e⟩⟩
    · rintro ⟨x, x1, (x2 | ⟨g, x2, e⟩)⟩
      · exact Or.inl ((ih h).mpr ⟨x, x1, x2⟩)
      · exact Or.inr ⟨g, (ih g).mpr ⟨x, x1, x2⟩, e⟩
theorem vN_front {E : Int → Int → Prop} {g0 g : Int} (e : E g0 g) : ∀ (n : Nat) (h : Int), vN E (fun x => x = g) n h → vN E (fun x => x = g0) (n + 1) h := by
  intro n
  induction n with
  | zero => intro h z; have z' : h = g := z; rw [z']; exact Or.inr ⟨g0, rfl, e⟩
  | succ n ih =>
    intro h z
    rcases z with z | ⟨x, x1, x2⟩
    · exact Or.inl (ih h z)
    · exact Or.inr ⟨x, ih x x1, x2⟩
/-- a way of n + 1 rides begins with one -/
theorem vN_first {E : Int → Int → Prop} {g0 : Int} : ∀ (n : Nat) (h : Int), vN E (fun x => x = g0) (n + 1) h → h = g0 ∨ ∃ g, E g0 g ∧ vN E (fun x => x = g) n h := by
  intro n
  induction n with
  | zero =>
    intro h z
    rcases z with z | ⟨g, z, e⟩
    · exact Or.inl z
    · have z' : g = g0 := z
      rw [z'] at e
      exact Or.inr ⟨h, e, rfl⟩
  | succ n ih =>
    intro h z
    rcases z with z | ⟨g, z, e⟩
    · rcases ih h z with y | ⟨x, x1, x2⟩
      · exact Or.inl y
      · exact Or.inr ⟨x, x1, Or.inl x2⟩
    · rcases ih g z with y | ⟨x, x1, x2⟩
      · rw [y] at e
        exact Or.inr ⟨h, e, vN_mo (m := 0) (by omega) rfl⟩
      · exact Or.inr ⟨x, x1, Or.inr ⟨g, x2, e⟩⟩
theorem vsum_le {f g : Int → Int} : ∀ (n : Nat) (i : Int), (∀ j, i ≤ j → j < i + n → f j ≤ g j) → vsum f n i ≤ vsum g n i := by
  intro n
  induction n with
  | zero => intro i _; exact Int.le_refl _
  | succ n ih =>
    intro i h
    have h1 := h i (by omega) (by omega)
    have h2 := ih (i + 1) (fun j a c => h j (by omega) (by omega))
    show f i + vsum f n (i + 1) ≤ g i + vsum g n (i + 1)
    omega
theorem vsum_lt {f g : Int → Int} : ∀ (n : Nat) (i : Int), (∀ j, i ≤ j → j < i + n → f j ≤ g j) → (∃ j, i ≤ j ∧ j < i + n ∧ f j < g j) → vsum f n i < vsum g n i := by
  intro n
  induction n with
  | zero => intro i _ ⟨j, h1, h2, _⟩; exact absurd h2 (by omega)
  | succ n ih =>
    intro i h ⟨j, j1, j2, j3⟩
    have h1 := h i (by omega) (by omega)
    show f i + vsum f n (i + 1) < g i + vsum g n (i + 1)
    by_cases hj : j = i
    · have h2 := vsum_le n (i + 1) (fun j a c => h j (by omega) (by omega))
      rw [hj] at j3
      omega
    · have h2 := ih (i + 1) (fun j a c => h j (by omega) (by omega)) ⟨j, by omega, by omega, j3⟩
      omega
/-- all that is reached at all is reached by fewer rides than there are gates -/
theorem vN_stab {E : Int → Int → Prop} {np : Nat} {g0 : Int} (h0 : 0 ≤ g0) (h1 : g0 < np) (hE : ∀ g h, E g h → 0 ≤ h ∧ h < np) : ∀ (n : Nat) (h : Int), vN E (fun x => x = g0) n h → vN E (fun x => x = g0) (np - 1) h := by
  have rng : ∀ (n : Nat) (h : Int), vN E (fun x => x = g0) n h → 0 ≤ h ∧ h < np := by
    intro n
    induction n with
    | zero => intro h z; have z' : h = g0 := z; rw [z']; exact ⟨h0, h1⟩
    | succ n ih =>
      intro h z
      rcases z with z | ⟨g, _, e⟩
      · exact ih h z
      · exact hE g h e
  have stable : ∀ m : Nat, (∀ h, vN E (fun x => x = g0) (m + 1) h → vN E (fun x => x = g0) m h) → ∀ (n : Nat) (h : Int), vN E (fun x => x = g0) (m + n) h → vN E (fun x => x = g0) m h := by
    intro m hm n
    induction n with
    | zero => intro h z; exact z
    | succ n ih =>
      intro h z
      rcases z with z | ⟨g, z, e⟩
      · exact ih h z
      · exact hm h (Or.inr ⟨g, ih g z, e⟩)
  have cnt : ∀ n : Nat, (∃ m, m < n ∧ ∀ h, vN E (fun x => x = g0) (m + 1) h → vN E (fun x => x = g0) m h) ∨ (n : Int) + 1 ≤ vsum (fun h => bo (vN E (fun x => x = g0) n h)) np 0 := by
    intro n
    induction n with
    | zero =>
      refine Or.inr ?_
      have := vsum_lt (f := fun _ => 0) (g := fun h => bo (vN E (fun x => x = g0) 0 h)) np 0 (fun j _ _ => (bo_R _).1) ⟨g0, h0, by omega, by
        show (0 : Int) < bo (vN E (fun x => x = g0) 0 g0)
        rw [bo_t (show vN E (fun x => x = g0) 0 g0 from rfl)]; omega⟩
      have z := vsum_rng (f := fun _ : Int => 0) (K := 0) (by omega) np 0 (fun j _ _ => ⟨Int.le_refl _, Int.le_refl _⟩)
      omega
    | succ n ih =>
      rcases ih with ⟨m, m1, m2⟩ | ih
      · exact Or.inl ⟨m, by omega, m2⟩
      · by_cases hs : ∀ h, vN E (fun x => x = g0) (n + 1) h → vN E (fun x => x = g0) n h
        · exact Or.inl ⟨n, by omega, hs⟩
        · refine Or.inr ?_
          obtain ⟨h, hh⟩ := Classical.not_forall.mp hs
          obtain ⟨a1, a2⟩ := Classical.not_imp.mp hh
          have r := rng _ h a1
          have := vsum_lt (f := fun h => bo (vN E (fun x => x = g0) n h)) (g := fun h => bo (vN E (fun x => x = g0) (n + 1) h)) np 0 (fun j _ _ => by
            show bo (vN E (fun x => x = g0) n j) ≤ bo (vN E (fun x => x = g0) (n + 1) j)
            by_cases hj : vN E (fun x => x = g0) n j
            · rw [bo_t hj, bo_t (show vN E (fun x => x = g0) (n + 1) j from Or.inl hj)]; omega
            · rw [bo_f hj]; exact (bo_R _).1) ⟨h, r.1, by omega, by
            show bo (vN E (fun x => x = g0) n h) < bo (vN E (fun x => x = g0) (n + 1) h)
            rw [bo_f a2, bo_t a1]; omega⟩
          omega
  have top := vsum_rng (f := fun h => bo (vN E (fun x => x = g0) np h)) (K := 1) (by omega) np 0 (fun j _ _ => bo_R _)
  rcases cnt np with ⟨m, m1, m2⟩ | c
  · intro n h z
    have z1 := vN_mo (n := m + n) (by omega) z
    exact vN_mo (by omega) (stable m m2 n h z1)
  · omega
/-- r is the fewest rides from Q to q; -1: none -/
def vdi (E : Int → Int → Prop) (Q : Int → Prop) (q r : Int) : Prop := (∃ n : Nat, r = (n : Int) ∧ vN E Q n q ∧ ∀ m, m < n → ¬ vN E Q m q) ∨ (r = -1 ∧ ∀ n, ¬ vN E Q n q)
theorem vN_stab2 {E : Int → Int → Prop} {np : Nat} {Q : Int → Prop} (hQ : ∀ g, Q g → 0 ≤ g ∧ g < np) (hE : ∀ g h, E g h → 0 ≤ h ∧ h < np) (n : Nat) (h : Int) (z : vN E Q n h) : vN E Q (np - 1) h := by
  obtain ⟨g, g1, g2⟩ := (vN_or n h).mp z
  exact (vN_or (np - 1) h).mpr ⟨g, g1, vN_stab (hQ g g1).1 (hQ g g1).2 hE n h g2⟩
theorem vdi_ex {E : Int → Int → Prop} {np : Nat} {Q : Int → Prop} (hQ : ∀ g, Q g → 0 ≤ g ∧ g < np) (hE : ∀ g h, E g h → 0 ≤ h ∧ h < np) (q : Int) : ∃ r : Int, vdi E Q q r ∧ -1 ≤ r ∧ (r < np ∨ r = -1) := by
  have key : ∀ k : Nat, (∃ n, n < k ∧ vN E Q n q ∧ ∀ m, m < n → ¬ vN E Q m q) ∨ ∀ m, m < k → ¬ vN E Q m q := by
    intro k
    induction k with
    | zero => exact Or.inr (fun m hm => absurd hm (by omega))
    | succ k ih =>
      rcases ih with ⟨n, n1, n2⟩ | ih
      · exact Or.inl ⟨n, by omega, n2⟩
      · by_cases hk : vN E Q k q
        · exact Or.inl ⟨k, by omega, hk, ih⟩
        · refine Or.inr (fun m hm => ?_)
          by_cases e : m = k
          · rw [e]; exact hk
          · exact ih m (by omega)
  rcases key np with ⟨n, n1, n2, n3⟩ | k
  · exact ⟨(n : Int), Or.inl ⟨n, rfl, n2, n3⟩, by omega, Or.inl (by omega)⟩
  · refine ⟨-1, Or.inr ⟨rfl, fun n z => ?_⟩, by omega, Or.inr rfl⟩
    have z1 := vN_stab2 hQ hE n q z
    obtain ⟨g, g1, g2⟩ := (vN_or _ q).mp z1
    have r := hQ g g1
    exact k (np - 1) (by omega) z1
theorem vdi_eq {E : Int → Int → Prop} {Q : Int → Prop} {q r r' : Int} (h : vdi E Q q r) (h' : vdi E Q q r') : r = r' := by
  rcases h with ⟨n, n1, n2, n3⟩ | ⟨n1, n2⟩
  · rcases h' with ⟨m, m1, m2, m3⟩ | ⟨m1, m2⟩
    · have a : ¬ n < m := fun z => m3 n z n2
      have b : ¬ m < n := fun z => n3 m z m2
      omega
    · exact absurd n2 (m2 n)
  · rcases h' with ⟨m, m1, m2, m3⟩ | ⟨m1, m2⟩
    · exact absurd m2 (n2 m)
    · omega
section WALKP
variable {P : vP} {R : vR} {B : Int}
theorem vsp_inj (hP : okP P) (hR : okR P B R) {l i j : Int} (h1 : 0 ≤ l) (h2 : l < vnl P) (h3 : 0 ≤ i) (h4 : i < j) (h5 : j < vsz P l) : vsp P R l i ≠ vsp P R l j := by
  unfold vsp
  rw [if_neg (by omega)]
  by_cases hj : j = vsz P l - 1
  · rw [if_pos hj]; exact hR.2.2.2.1 l i h1 h2 h3 (by omega)
  · rw [if_neg hj]; exact hP.2.2.2.2.2.2 l i j h1 h2 h3 h4 h5
theorem ve_rng (hP : okP P) (hR : okR P B R) {p l g h : Int} (h1 : 0 ≤ l) (h2 : l < vnl P) (e : ve P R p l g h) : (0 ≤ g ∧ g < vnp P) ∧ 0 ≤ h ∧ h < vnp P := by
  obtain ⟨j, k, j1, j2, j3, rfl, rfl, _⟩ := e
  exact ⟨vsp_rng hP hR h1 h2 j1 (by omega), vsp_rng hP hR h1 h2 (by omega) j3⟩
theorem vE_rng (hP : okP P) (hR : okR P B R) {p w : Int} : ∀ g h, vE P R p w g h → 0 ≤ h ∧ h < ((vnp P).toNat : Nat) := by
  intro g h ⟨l, h1, h2, _, e⟩
  have := (ve_rng hP hR h1 h2 e).2
  omega
theorem vfi_some (f : Int → Int) (g : Int) : ∀ (n : Nat) (i : Int), 0 ≤ i → vfi f g n i ≠ -1 → f (vfi f g n i) = g := by
  intro n
  induction n with
  | zero => intro i _ h; exact absurd rfl h
  | succ n ih =>
    intro i hi h
    unfold vfi at h ⊢
    by_cases e : f i = g
    · rw [if_pos e]; exact e
    · rw [if_neg e] at h ⊢; exact ih (i + 1) (by omega) h
theorem vpl_e (hP : okP P) (hR : okR P B R) {l j : Int} (h1 : 0 ≤ l) (h2 : l < vnl P) (h3 : 0 ≤ j) (h4 : j < vsz P l) : vpl P R l (vsp P R l j) = j := by
  have s1 := hP.2.2.2.2.1 l h1 h2
  have r := vfi_rng (vsp P R l) (vsp P R l j) (vsz P l).toNat 0
  by_cases hm : vpl P R l (vsp P R l j) = -1
  · exact absurd rfl (vfi_none (vsp P R l) (vsp P R l j) (vsz P l).toNat 0 (by omega) hm j (by omega) (by omega))
  · have e : vsp P R l (vpl P R l (vsp P R l j)) = vsp P R l j := vfi_some (vsp P R l) (vsp P R l j) (vsz P l).toNat 0 (by omega) hm
    have r' : vpl P R l (vsp P R l j) = -1 ∨ (0 ≤ vpl P R l (vsp P R l j) ∧ vpl P R l (vsp P R l j) < vsz P l) := by unfold vpl; omega
    by_cases ha : vpl P R l (vsp P R l j) < j
    · exact absurd e (vsp_inj hP hR h1 h2 (by omega) ha h4)
    · by_cases hb : j < vpl P R l (vsp P R l j)
      · exact absurd e.symm (vsp_inj hP hR h1 h2 h3 hb (by omega))
      · omega
theorem vfa_all (p l : Int) : ∀ (n : Nat) (k m : Int), k < m → m ≤ vfa P R p l n k → vmg P R p l m := by
  intro n
  induction n with
  | zero => intro k m h1 h2; unfold vfa at h2; omega
  | succ n ih =>
    intro k m h1 h2
    unfold vfa at h2
    by_cases hg : vmg P R p l (k + 1)
    · rw [am_cif_t hg] at h2
      by_cases e : m = k + 1
      · rw [e]; exact hg
      · exact ih (k + 1) m (by omega) h2
    · rw [am_cif_f hg] at h2; omega
theorem vfa_far (p l : Int) : ∀ (n : Nat) (k t : Int), k ≤ t → t ≤ k + n → (∀ m, k < m → m ≤ t → vmg P R p l m) → t ≤ vfa P R p l n k := by
  intro n
  induction n with
  | zero => intro k t h1 h2 _; unfold vfa; omega
  | succ n ih =>
    intro k t h1 h2 h
    unfold vfa
    by_cases hg : vmg P R p l (k + 1)
    · rw [am_cif_t hg]
      by_cases e : t = k
      · have := (vfa_rng P R p l n (k + 1)).1; omega
      · exact ih (k + 1) t (by omega) (by omega) (fun m h3 h4 => h m (by omega) h4)
    · rw [am_cif_f hg]
      by_cases e : t = k
      · omega
      · exact absurd (h (k + 1) (by omega) (by omega)) hg
/-- by where it is boarded -/
theorem ve_bp (hP : okP P) (hR : okR P B R) {p l g h : Int} (h1 : 0 ≤ l) (h2 : l < vnl P) : ve P R p l g h ↔ vbp P R l g ≠ -1 ∧ ∃ k, vbp P R l g < k ∧ k ≤ vfa P R p l (min 5 (vsz P l - 1 - vbp P R l g)).toNat (vbp P R l g) ∧ vsp P R l k = h := by
  have s1 := hP.2.2.2.2.1 l h1 h2
  constructor
  · rintro ⟨j, k, j1, j2, j3, rfl, rfl, j4⟩
    have e := vpl_e hP hR h1 h2 j1 (show j < vsz P l by omega)
    have b : vbp P R l (vsp P R l j) = j := by unfold vbp; rw [e, if_neg (by omega)]
    rw [b]
    exact ⟨by omega, k, j2, vfa_far p l _ j k (by omega) (by omega) j4, rfl⟩
  · rintro ⟨b0, k, k1, k2, rfl⟩
    have r := vbp_rng R (P := P) (l := l) g (by omega)
    have f := vfa_rng P R p l (min 5 (vsz P l - 1 - vbp P R l g)).toNat (vbp P R l g)
    have bp : vbp P R l g = vpl P R l g := by
      unfold vbp at b0 ⊢
      by_cases hk : vpl P R l g = vsz P l - 1
      · rw [if_pos hk] at b0; exact absurd rfl b0
      · rw [if_neg hk]
    refine ⟨vbp P R l g, k, by omega, k1, by omega, ?_, rfl, fun m m1 m2 => vfa_all p l _ _ m m1 (Int.le_trans m2 k2)⟩
    rw [bp]
    rw [bp] at b0
    exact vfi_some (vsp P R l) g (vsz P l).toNat 0 (by omega) b0
end WALKP
