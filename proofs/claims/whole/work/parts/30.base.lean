/-! PURE: rows for rewriting runs -/
theorem am_ck_T {x : Option am_Z} : am_ck True x = x := am_ck_t trivial
theorem am_cif_T {α : Type} {x y : α} : am_cif True x y = x := am_cif_t trivial
theorem am_cif_F {α : Type} {x y : α} : am_cif False x y = y := am_cif_f (fun h => h)
theorem am_then_s {r : Option am_V} {S : am_S} {M : am_M} {f : Option am_V → am_S → am_M → Option am_Z} : am_then (some (r, S, M)) f = f r S M := rfl
theorem am_push_s {v : am_V} {st : am_K} : am_push (some v) st = v :: st := rfl
theorem am_push_n {st : am_K} : am_push none st = st := rfl
theorem am_wr_s {M : am_M} {k : Nat} {i v : Int} : am_wr M k i v k i = v := by unfold am_wr; exact if_pos ⟨rfl, rfl⟩
theorem am_wr_k {M : am_M} {k k' : Nat} {i j v : Int} (h : k' ≠ k) : am_wr M k i v k' j = M k' j := by unfold am_wr; exact if_neg (fun q => h q.1)
theorem am_wr_i {M : am_M} {k k' : Nat} {i j v : Int} (h : j ≠ i) : am_wr M k i v k' j = M k' j := by unfold am_wr; exact if_neg (fun q => h q.2)
theorem am_02 {q : Prop} : ((0 : Int) = 2 → q) = True := by simp
theorem am_22 {q : Prop} : ((2 : Int) = 2 → q) = q := by simp
theorem am_if_01 (c : Prop) [Decidable c] : (if c then (1 : Int) else 0) = 0 ∨ (if c then (1 : Int) else 0) = 1 := by by_cases h : c <;> simp [h]
/-- yes or no, as a number -/
noncomputable def bo (c : Prop) : Int := @ite Int c (Classical.propDecidable c) 1 0
theorem bo_t {c : Prop} (h : c) : bo c = 1 := by unfold bo; exact if_pos h
theorem bo_f {c : Prop} (h : ¬ c) : bo c = 0 := by unfold bo; exact if_neg h
theorem bo_01 (c : Prop) : bo c = 0 ∨ bo c = 1 := by
  by_cases h : c
  · exact Or.inr (bo_t h)
  · exact Or.inl (bo_f h)
theorem bo_R (c : Prop) : 0 ≤ bo c ∧ bo c ≤ 1 := by rcases bo_01 c with h | h <;> rw [h] <;> decide
theorem bo_0 {c : Prop} : bo c = 0 ↔ ¬ c := ⟨fun h hc => by rw [bo_t hc] at h; exact absurd h (by decide), bo_f⟩
theorem bo_1 {c : Prop} : bo c = 1 ↔ c := ⟨fun h => Classical.byContradiction (fun hc => by rw [bo_f hc] at h; exact absurd h (by decide)), bo_t⟩
theorem bo_c {c d : Prop} (h : c ↔ d) : bo c = bo d := by
  by_cases hc : c
  · rw [bo_t hc, bo_t (h.mp hc)]
  · rw [bo_f hc, bo_f (fun q => hc (h.mpr q))]
/-! THE LAYOUT behind the constructors -/
def lf (b : Nat) : Prop := b = 14 ∨ b = 18 ∨ (24 ≤ b ∧ b ≤ 140 ∧ b % 4 = 0) ∨ b = 155 ∨ b = 160
def ly_life (S : am_S) (b : Nat) : Prop := am_kd S b = (4, 3) ∧ am_rf S b 0 = 2 ∧ am_rf S b 1 = b + 1 ∧ am_rf S b 2 = b + 2 ∧ am_rf S b 3 = b + 3 ∧ am_kd S (b + 1) = (0, 64) ∧ am_kd S (b + 2) = (0, 8) ∧ am_kd S (b + 3) = (0, 6)
def ly_plan (S : am_S) : Prop := am_kd S 2 = (4, 4) ∧ am_rf S 2 2 = 3 ∧ am_rf S 2 3 = 4 ∧ am_rf S 2 4 = 5 ∧ am_rf S 2 5 = 6 ∧ am_kd S 3 = (0, 64) ∧ am_kd S 4 = (0, 6) ∧ am_kd S 5 = (0, 6) ∧ am_kd S 6 = (0, 36)
def ly_draft (S : am_S) : Prop := am_kd S 8 = (4, 4) ∧ am_rf S 8 2 = 9 ∧ am_rf S 8 3 = 10 ∧ am_rf S 8 4 = 11 ∧ am_rf S 8 5 = 12 ∧ am_kd S 9 = (0, 64) ∧ am_kd S 10 = (0, 6) ∧ am_kd S 11 = (0, 6) ∧ am_kd S 12 = (0, 36)
def ly_reader (S : am_S) : Prop := am_kd S 7 = (4, 5) ∧ am_rf S 7 0 = 8 ∧ am_rf S 7 1 = 13 ∧ am_kd S 13 = (0, 200)
def ly_hist (S : am_S) : Prop := am_kd S 22 = (4, 1) ∧ am_rf S 22 0 = 23 ∧ am_kd S 23 = (2, 30) ∧ ∀ i : Nat, i < 30 → am_rf S 23 (i : Int) = 24 + 4 * i
def ly_walks (S : am_S) : Prop := am_kd S 144 = (4, 7) ∧ am_rf S 144 0 = 145 ∧ am_kd S 145 = (0, 8)
def ly_sight (S : am_S) : Prop := am_kd S 146 = (4, 6) ∧ am_rf S 146 0 = 2 ∧ am_rf S 146 1 = 147 ∧ am_rf S 146 2 = 148 ∧ am_rf S 146 3 = 149 ∧ am_kd S 147 = (0, 6) ∧ am_kd S 148 = (0, 6) ∧ am_kd S 149 = (0, 6)
def ly_book (S : am_S) : Prop := am_kd S 150 = (4, 0) ∧ am_rf S 150 0 = 151 ∧ am_rf S 150 1 = 152 ∧ am_kd S 151 = (0, 20) ∧ am_kd S 152 = (0, 20)
def ly_image (S : am_S) : Prop := am_kd S 153 = (3, 2) ∧ am_rf S 153 0 = 154 ∧ am_rf S 153 1 = 159 ∧ am_kd S 154 = (4, 2) ∧ am_rf S 154 0 = 155 ∧ am_kd S 159 = (4, 2) ∧ am_rf S 159 0 = 160
def ly_top (S : am_S) : Prop := am_kd S 1 = (4, 8) ∧ am_rf S 1 0 = 2 ∧ am_rf S 1 1 = 7 ∧ am_rf S 1 2 = 14 ∧ am_rf S 1 3 = 18 ∧ am_rf S 1 4 = 22 ∧ am_rf S 1 5 = 144 ∧ am_rf S 1 6 = 146 ∧ am_rf S 1 7 = 150 ∧ am_rf S 1 8 = 153
def ly_model (S : am_S) : Prop := am_kd S 164 = (4, 9) ∧ (am_rf S 164 0 = 165 ∧ am_rf S 164 1 = 166 ∧ am_rf S 164 2 = 167 ∧ am_rf S 164 3 = 168 ∧ am_rf S 164 4 = 169 ∧ am_rf S 164 5 = 170 ∧ am_rf S 164 10 = 171 ∧ am_rf S 164 17 = 172 ∧ am_rf S 164 18 = 173 ∧ am_rf S 164 19 = 174 ∧ am_rf S 164 21 = 175 ∧ am_rf S 164 22 = 176) ∧ (am_kd S 165 = (0, 2788) ∧ am_kd S 166 = (1, 2) ∧ am_kd S 167 = (0, 128) ∧ am_kd S 168 = (0, 72) ∧ am_kd S 169 = (0, 12) ∧ am_kd S 170 = (0, 12) ∧ am_kd S 171 = (0, 200) ∧ am_kd S 172 = (0, 8) ∧ am_kd S 173 = (0, 6) ∧ am_kd S 174 = (0, 6) ∧ am_kd S 175 = (0, 20) ∧ am_kd S 176 = (0, 20))
def ly (S : am_S) : Prop := ly_top S ∧ ly_plan S ∧ ly_draft S ∧ ly_reader S ∧ (∀ b, lf b → ly_life S b) ∧ ly_hist S ∧ ly_walks S ∧ ly_sight S ∧ ly_book S ∧ ly_image S ∧ ly_model S
/-! VIEWS: the plan ((persons, lines), sizes, fares, stops), a row (nearness, gates, ends, dead, rides, days) -/
abbrev vP : Type := (Int × Int) × (Int → Int) × (Int → Int) × (Int → Int → Int)
abbrev vR : Type := (Int → Int → Int) × (Int → Int) × (Int → Int) × Int × Int × Int
abbrev vnp (P : vP) : Int := P.1.1
abbrev vnl (P : vP) : Int := P.1.2
abbrev vsz (P : vP) (l : Int) : Int := P.2.1 l
abbrev vfr (P : vP) (l : Int) : Int := P.2.2.1 l
abbrev vst (P : vP) (l k : Int) : Int := P.2.2.2 l k
abbrev vnr (R : vR) (p q : Int) : Int := R.1 p q
abbrev vgt (R : vR) (p : Int) : Int := R.2.1 p
abbrev ven (R : vR) (l : Int) : Int := R.2.2.1 l
abbrev vdd (R : vR) : Int := R.2.2.2.1
abbrev vrd (R : vR) : Int := R.2.2.2.2.1
abbrev vdy (R : vR) : Int := R.2.2.2.2.2
/-- a plan as a text may tell it -/
def okP (P : vP) : Prop := 0 ≤ vnp P ∧ vnp P ≤ 8 ∧ 0 ≤ vnl P ∧ vnl P ≤ 6 ∧ (∀ l, 0 ≤ l → l < vnl P → 2 ≤ vsz P l ∧ vsz P l ≤ 6 ∧ 0 ≤ vfr P l ∧ vfr P l ≤ 3) ∧ (∀ l k, 0 ≤ l → l < vnl P → 0 ≤ k → k < vsz P l → 0 ≤ vst P l k ∧ vst P l k < vnp P) ∧ (∀ l i j, 0 ≤ l → l < vnl P → 0 ≤ i → i < j → j < vsz P l → vst P l i ≠ vst P l j)
/-- a row over it; rides are at most B -/
def okR (P : vP) (B : Int) (R : vR) : Prop := (∀ p q, 0 ≤ p → p < vnp P → 0 ≤ q → q < vnp P → 0 ≤ vnr R p q ∧ vnr R p q ≤ 9 ∧ vnr R p q = vnr R q p) ∧ (∀ p, 0 ≤ p → p < vnp P → vnr R p p = 9 ∧ 0 ≤ vgt R p ∧ vgt R p < vnp P) ∧ (∀ l, 0 ≤ l → l < vnl P → 0 ≤ ven R l ∧ ven R l < vnp P) ∧ (∀ l k, 0 ≤ l → l < vnl P → 0 ≤ k → k < vsz P l - 1 → vst P l k ≠ ven R l) ∧ 0 ≤ vdd R ∧ vdd R < 256 ∧ 0 ≤ vrd R ∧ vrd R ≤ B ∧ 0 ≤ vdy R ∧ vdy R ≤ 9030 + B ∧ ∀ p, vnp P ≤ p → p < 8 → am_and (am_shr (vdd R) p) 1 = 0
/-- the class's plan -/
def cP (P : vP) (M : am_M) : Prop := M 2 0 = vnp P ∧ M 2 1 = vnl P ∧ (∀ l, 0 ≤ l → l < vnl P → M 5 l = vsz P l ∧ M 4 l = vfr P l) ∧ (∀ l k, 0 ≤ l → l < vnl P → 0 ≤ k → k < vsz P l → M 6 (l * 6 + k) = vst P l k)
/-- a Life of the class -/
def cR (P : vP) (R : vR) (b : Nat) (M : am_M) : Prop := (∀ p q, 0 ≤ p → p < vnp P → 0 ≤ q → q < vnp P → M (b + 1) (p * 8 + q) = vnr R p q) ∧ (∀ p, 0 ≤ p → p < vnp P → M (b + 2) p = vgt R p) ∧ (∀ l, 0 ≤ l → l < vnl P → M (b + 3) l = ven R l) ∧ M b 4 = vdd R ∧ M b 5 = vrd R ∧ M b 6 = vdy R
/-! what is reckoned of a row -/
/-- STOP k of a line now -/
def vsp (P : vP) (R : vR) (l k : Int) : Int := if k = vsz P l - 1 then ven R l else vst P l k
/-- the first place from i on (n of them) at which f is g; -1: none -/
def vfi (f : Int → Int) (g : Int) : Nat → Int → Int
  | 0, _ => -1
  | n + 1, i => if f i = g then i else vfi f g n (i + 1)
/-- which STOP of a line a person is -/
def vpl (P : vP) (R : vR) (l g : Int) : Int := vfi (vsp P R l) g (vsz P l).toNat 0
/-- where a line may be boarded -/
def vbp (P : vP) (R : vR) (l g : Int) : Int := if vpl P R l g = vsz P l - 1 then -1 else vpl P R l g
theorem vfi_rng (f : Int → Int) (g : Int) : ∀ (n : Nat) (i : Int), vfi f g n i = -1 ∨ (i ≤ vfi f g n i ∧ vfi f g n i < i + n) := by
  intro n
  induction n with
  | zero => intro i; exact Or.inl rfl
  | succ n ih =>
    intro i
    unfold vfi
    by_cases h : f i = g
    · rw [if_pos h]; exact Or.inr ⟨by omega, by omega⟩
    · rw [if_neg h]
      rcases ih (i + 1) with h1 | h1
      · exact Or.inl h1
      · exact Or.inr ⟨by omega, by omega⟩
theorem vpl_rng {P : vP} (R : vR) {l : Int} (g : Int) (h : 0 ≤ vsz P l) : -1 ≤ vpl P R l g ∧ vpl P R l g < vsz P l ∨ vpl P R l g = -1 := by
  rcases vfi_rng (vsp P R l) g (vsz P l).toNat 0 with h1 | h1
  · exact Or.inr h1
  · exact Or.inl ⟨by have := h1.1; unfold vpl; omega, by have := h1.2; unfold vpl; omega⟩
