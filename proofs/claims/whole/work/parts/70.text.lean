/-! THE TEXT: how it is read, in pure words -/
def tk (T : Int → Int) : Nat → Int → Int
  | 0, i => i
  | n + 1, i => if T i = 32 then tk T n (i + 1) else i
/-- behind the blanks -/
def tb (T : Int → Int) (L i : Int) : Int := tk T (L - i).toNat i
def tg (T : Int → Int) : Nat → Int → Int
  | 0, i => i
  | n + 1, i => if 48 ≤ T i ∧ T i ≤ 57 then tg T n (i + 1) else i
/-- behind the figures -/
def te (T : Int → Int) (L i : Int) : Int := tg T (L - i).toNat i
/-- what n figures from i on say, behind v -/
def tv (T : Int → Int) : Nat → Int → Int → Int
  | 0, _, v => v
  | n + 1, i, v => tv T n (i + 1) (10 * v + T i - 48)
/-- the number at i -/
def tw (T : Int → Int) (L i : Int) : Int := tv T (te T L i - i).toNat i 0
/-- its fault: 0 none -/
def tn (T : Int → Int) (L i m : Int) : Int := if te T L i = i then 1 else if 3 < te T L i - i ∨ m < tw T L i then 2 else 0
/-- where the q-th of a row of numbers begins, if its comma stands at i -/
def tj (T : Int → Int) (L q i : Int) : Int := if 0 < q then tb T L (i + 1) else i
def nst (N : Int → Int → Int) (p q v : Int) (a c : Int) : Int := if (a = p ∧ c = q) ∨ (a = q ∧ c = p) then v else N a c
abbrev vD : Type := vP × (Int → Int → Int)
abbrev vO (α : Type) : Type := Sum (Int × Int) α
def sp1 (T : Int → Int) (L p : Int) : Nat → Int → Int → (Int → Int → Int) → vO (Int × (Int → Int → Int))
  | 0, _, i, N => Sum.inr (i, N)
  | n + 1, q, i, N => if 0 < q ∧ ¬ (i < L ∧ T i = 44) then Sum.inl (1, i) else if tn T L (tj T L q i) 9 ≠ 0 then Sum.inl (tn T L (tj T L q i) 9, tj T L q i) else sp1 T L p n (q + 1) (tb T L (te T L (tj T L q i))) (nst N p q (tw T L (tj T L q i)))
def sp2 (np nl : Int) (z : (Int → Int) × (Int → Int) × (Int → Int → Int)) : vO (Int × (Int → Int → Int)) → vO (Int × vD)
  | Sum.inl f => Sum.inl f
  | Sum.inr t => Sum.inr (t.1, (((np + 1, nl), z), nst t.2 np np 9))
/-- a person, up to its ';' -/
def sp0 (T : Int → Int) (L i : Int) (D : vD) : vO (Int × vD) := if 8 ≤ vnp D.1 then Sum.inl (3, i) else sp2 (vnp D.1) (vnl D.1) D.1.2 (sp1 T L (vnp D.1) (vnp D.1).toNat 0 (tb T L (i + 1)) D.2)
def ss (T : Int → Int) (L m : Int) : Nat → Int → Int → (Int → Int) → vO (Int × Int × (Int → Int))
  | 0, k, i, F => Sum.inr (k, i, F)
  | n + 1, k, i, F => if 2 ≤ k ∧ ¬ (i < L ∧ T i = 44) then Sum.inr (k, i, F) else if 0 < k ∧ ¬ (i < L ∧ T i = 44) then Sum.inl (1, i) else if tn T L (tj T L k i) m ≠ 0 then Sum.inl (tn T L (tj T L k i) m, tj T L k i) else if vfi F (tw T L (tj T L k i)) k.toNat 0 ≠ -1 then Sum.inl (4, tj T L k i) else ss T L m n (k + 1) (tb T L (te T L (tj T L k i))) (fun a => if a = k then tw T L (tj T L k i) else F a)
def sl2 (D : vD) (f : Int) : vO (Int × Int × (Int → Int)) → vO (Int × vD)
  | Sum.inl g => Sum.inl g
  | Sum.inr t => Sum.inr (t.2.1, (((vnp D.1, vnl D.1 + 1), (fun l => if l = vnl D.1 then t.1 else vsz D.1 l), (fun l => if l = vnl D.1 then f else vfr D.1 l), (fun l k => if l = vnl D.1 then t.2.2 k else vst D.1 l k)), D.2))
/-- a line, up to its ';' -/
def sl0 (T : Int → Int) (L i : Int) (D : vD) : vO (Int × vD) := if 6 ≤ vnl D.1 then Sum.inl (3, i) else if tn T L (tb T L (i + 1)) 3 ≠ 0 then Sum.inl (tn T L (tb T L (i + 1)) 3, tb T L (i + 1)) else sl2 D (tw T L (tb T L (i + 1))) (ss T L (vnp D.1 - 1) 6 0 (tb T L (te T L (tb T L (i + 1)))) (fun _ => 0))
/-- the ';' -/
def sm (T : Int → Int) (L : Int) : vO (Int × vD) → vO (Int × vD)
  | Sum.inl f => Sum.inl f
  | Sum.inr z => if z.1 < L ∧ T z.1 = 59 then Sum.inr (tb T L (z.1 + 1), z.2) else Sum.inl (1, z.1)
def sk (T : Int → Int) (L i : Int) (D : vD) : vO (Int × vD) := if T i = 112 then sp0 T L i D else if T i = 108 then sl0 T L i D else Sum.inl (1, i)
def sc2 (f : Int → vD → vO vD) : vO (Int × vD) → vO vD
  | Sum.inl g => Sum.inl g
  | Sum.inr z => f z.1 z.2
def sc (T : Int → Int) (L : Int) : Nat → Int → vD → vO vD
  | 0, _, D => Sum.inr D
  | n + 1, i, D => if i < L then sc2 (sc T L n) (sm T L (sk T L i D)) else Sum.inr D
def vD0 : vD := (((0, 0), (fun _ => 0), (fun _ => 0), (fun _ _ => 0)), (fun _ _ => 0))
section TEXT
variable {T : Int → Int} {L : Int}
theorem tk_rng : ∀ (n : Nat) (i : Int), i ≤ tk T n i ∧ tk T n i ≤ i + n := by
  intro n
  induction n with
  | zero => intro i; unfold tk; omega
  | succ n ih =>
    intro i
    unfold tk
    by_cases h : T i = 32
    · rw [if_pos h]; have := ih (i + 1); omega
    · rw [if_neg h]; omega
theorem tb_rng {i : Int} (h : i ≤ L) : i ≤ tb T L i ∧ tb T L i ≤ L := by
  have := tk_rng (T := T) (L - i).toNat i
  unfold tb
  omega
theorem tb_s {i : Int} (h : i < L) (h2 : T i = 32) : tb T L i = tb T L (i + 1) := by
  unfold tb
  rw [show (L - i).toNat = (L - (i + 1)).toNat + 1 by omega]
  show (if T i = 32 then tk T (L - (i + 1)).toNat (i + 1) else i) = _
  rw [if_pos h2]
theorem tb_e {i : Int} (h2 : i < L → T i ≠ 32) : tb T L i = i := by
  unfold tb
  by_cases h : i < L
  · rw [show (L - i).toNat = (L - (i + 1)).toNat + 1 by omega]
    show (if T i = 32 then tk T (L - (i + 1)).toNat (i + 1) else i) = _
    rw [if_neg (h2 h)]
  · rw [show (L - i).toNat = 0 by omega]; rfl
theorem tk_ns : ∀ (n : Nat) (i : Int), tk T n i < i + n → T (tk T n i) ≠ 32 := by
  intro n
  induction n with
  | zero => intro i h; unfold tk at h; omega
  | succ n ih =>
    intro i h
    unfold tk at h ⊢
    by_cases e : T i = 32
    · rw [if_pos e] at h ⊢; exact ih (i + 1) (by omega)
    · rw [if_neg e]; exact e
theorem tb_ns {i : Int} (h : i ≤ L) (h2 : tb T L i < L) : T (tb T L i) ≠ 32 := tk_ns (L - i).toNat i (by unfold tb at h2; omega)
theorem tb_id {i : Int} (h : i ≤ L) : tb T L (tb T L i) = tb T L i := tb_e (tb_ns h)
theorem tg_rng : ∀ (n : Nat) (i : Int), i ≤ tg T n i ∧ tg T n i ≤ i + n := by
  intro n
  induction n with
  | zero => intro i; unfold tg; omega
  | succ n ih =>
    intro i
    unfold tg
    by_cases h : 48 ≤ T i ∧ T i ≤ 57
    · rw [if_pos h]; have := ih (i + 1); omega
    · rw [if_neg h]; omega
theorem te_rng {i : Int} (h : i ≤ L) : i ≤ te T L i ∧ te T L i ≤ L := by
  have := tg_rng (T := T) (L - i).toNat i
  unfold te
  omega
theorem te_s {i : Int} (h : i < L) (h2 : 48 ≤ T i ∧ T i ≤ 57) : te T L i = te T L (i + 1) := by
  unfold te
  rw [show (L - i).toNat = (L - (i + 1)).toNat + 1 by omega]
  show (if 48 ≤ T i ∧ T i ≤ 57 then tg T (L - (i + 1)).toNat (i + 1) else i) = _
  rw [if_pos h2]
theorem te_e {i : Int} (h2 : i < L → ¬ (48 ≤ T i ∧ T i ≤ 57)) : te T L i = i := by
  unfold te
  by_cases h : i < L
  · rw [show (L - i).toNat = (L - (i + 1)).toNat + 1 by omega]
    show (if 48 ≤ T i ∧ T i ≤ 57 then tg T (L - (i + 1)).toNat (i + 1) else i) = _
    rw [if_neg (h2 h)]
  · rw [show (L - i).toNat = 0 by omega]; rfl
theorem tv_end : ∀ (n : Nat) (i v : Int), tv T (n + 1) i v = 10 * tv T n i v + T (i + n) - 48 := by
  intro n
  induction n with
  | zero => intro i v; show 10 * v + T i - 48 = 10 * v + T (i + ((0 : Nat) : Int)) - 48; rw [show i + ((0 : Nat) : Int) = i by omega]
  | succ n ih =>
    intro i v
    have := ih (i + 1) (10 * v + T i - 48)
    rw [show i + 1 + (n : Int) = i + ((n + 1 : Nat) : Int) by omega] at this
    exact this
theorem tv_rng : ∀ (n : Nat) (i : Int), (∀ j, i ≤ j → j < i + n → 48 ≤ T j ∧ T j ≤ 57) → n ≤ 3 → 0 ≤ tv T n i 0 ∧ tv T n i 0 ≤ 999 := by
  intro n i h hn
  have d := fun (k : Nat) (hk : k < n) => h (i + k) (by omega) (by omega)
  match n, hn with
  | 0, _ => show (0 : Int) ≤ 0 ∧ (0 : Int) ≤ 999; omega
  | 1, _ =>
    have d0 := d 0 (by omega)
    rw [tv_end]
    show 0 ≤ 10 * 0 + T (i + ((0 : Nat) : Int)) - 48 ∧ 10 * 0 + T (i + ((0 : Nat) : Int)) - 48 ≤ 999
    omega
  | 2, _ =>
    have d0 := d 0 (by omega)
    have d1 := d 1 (by omega)
    rw [tv_end, tv_end]
    show 0 ≤ 10 * (10 * 0 + T (i + ((0 : Nat) : Int)) - 48) + T (i + ((1 : Nat) : Int)) - 48 ∧ 10 * (10 * 0 + T (i + ((0 : Nat) : Int)) - 48) + T (i + ((1 : Nat) : Int)) - 48 ≤ 999
    omega
  | 3, _ =>
    have d0 := d 0 (by omega)
    have d1 := d 1 (by omega)
    have d2 := d 2 (by omega)
    rw [tv_end, tv_end, tv_end]
    show 0 ≤ 10 * (10 * (10 * 0 + T (i + ((0 : Nat) : Int)) - 48) + T (i + ((1 : Nat) : Int)) - 48) + T (i + ((2 : Nat) : Int)) - 48 ∧ 10 * (10 * (10 * 0 + T (i + ((0 : Nat) : Int)) - 48) + T (i + ((1 : Nat) : Int)) - 48) + T (i + ((2 : Nat) : Int)) - 48 ≤ 999
    omega
  | n + 4, h => exact absurd h (by omega)
theorem tg_fig : ∀ (n : Nat) (i j : Int), i ≤ j → j < tg T n i → 48 ≤ T j ∧ T j ≤ 57 := by
  intro n
  induction n with
  | zero => intro i j h1 h2; unfold tg at h2; omega
  | succ n ih =>
    intro i j h1 h2
    unfold tg at h2
    by_cases h : 48 ≤ T i ∧ T i ≤ 57
    · rw [if_pos h] at h2
      by_cases e : j = i
      · rw [e]; exact h
      · exact ih (i + 1) j (by omega) h2
    · rw [if_neg h] at h2; omega
theorem tw_rng {i : Int} (h : i ≤ L) (h3 : te T L i - i ≤ 3) : 0 ≤ tw T L i ∧ tw T L i ≤ 999 := by
  have r := te_rng (T := T) h
  exact tv_rng _ i (fun j j1 j2 => tg_fig (L - i).toNat i j j1 (by unfold te at r j2; omega)) (by omega)
theorem tn_rng {i m : Int} : tn T L i m = 0 ∨ tn T L i m = 1 ∨ tn T L i m = 2 := by
  unfold tn
  by_cases h : te T L i = i
  · rw [if_pos h]; omega
  · rw [if_neg h]
    by_cases h2 : 3 < te T L i - i ∨ m < tw T L i
    · rw [if_pos h2]; omega
    · rw [if_neg h2]; omega
theorem tn_0 {i m : Int} (h : tn T L i m = 0) : te T L i ≠ i ∧ te T L i - i ≤ 3 ∧ tw T L i ≤ m := by
  unfold tn at h
  by_cases h1 : te T L i = i
  · rw [if_pos h1] at h; omega
  · rw [if_neg h1] at h
    by_cases h2 : 3 < te T L i - i ∨ m < tw T L i
    · rw [if_pos h2] at h; omega
    · exact ⟨h1, by omega, by omega⟩
theorem tj_rng {q i : Int} (h : i ≤ L) (h2 : 0 < q → i < L) : i ≤ tj T L q i ∧ tj T L q i ≤ L := by
  unfold tj
  by_cases e : 0 < q
  · rw [if_pos e]
    have := tb_rng (T := T) (show i + 1 ≤ L by have := h2 e; omega)
    omega
  · rw [if_neg e]; omega
end TEXT
/-! what is right of a draft -/
def okD (D : vD) : Prop := okP D.1 ∧ (∀ p q, 0 ≤ p → p < vnp D.1 → 0 ≤ q → q < vnp D.1 → 0 ≤ D.2 p q ∧ D.2 p q ≤ 9 ∧ D.2 p q = D.2 q p) ∧ ∀ p, 0 ≤ p → p < vnp D.1 → D.2 p p = 9
def okF (L : Int) (f : Int × Int) : Prop := 1 ≤ f.1 ∧ f.1 ≤ 4 ∧ 0 ≤ f.2 ∧ f.2 ≤ L
def okO (L i : Int) (r : vO (Int × vD)) : Prop := match r with
  | Sum.inl f => okF L f
  | Sum.inr z => i < z.1 ∧ z.1 ≤ L ∧ okD z.2
section OKD
variable {T : Int → Int} {L : Int}
theorem sp1_ok {p : Int} (hp : 0 ≤ p) : ∀ (n : Nat) (q i : Int) (N : Int → Int → Int), 0 ≤ q → q + n = p → 0 ≤ i → i ≤ L → (∀ a c, 0 ≤ a → a ≤ p → 0 ≤ c → c ≤ p → (a < p ∧ c < p) ∨ (a = p ∧ c < q) ∨ (c = p ∧ a < q) → 0 ≤ N a c ∧ N a c ≤ 9 ∧ N a c = N c a) → (∀ a, 0 ≤ a → a < p → N a a = 9) → match sp1 T L p n q i N with
    | Sum.inl f => okF L f
    | Sum.inr t => i ≤ t.1 ∧ t.1 ≤ L ∧ (∀ a c, 0 ≤ a → a ≤ p → 0 ≤ c → c ≤ p → (a < p ∧ c < p) ∨ (a = p ∧ c < p) ∨ (c = p ∧ a < p) → 0 ≤ t.2 a c ∧ t.2 a c ≤ 9 ∧ t.2 a c = t.2 c a) ∧ ∀ a, 0 ≤ a → a < p → t.2 a a = 9 := by
  intro n
  induction n with
  | zero =>
    intro q i N q1 q2 i1 i2 hN hd
    obtain rfl : q = p := by omega
    exact ⟨Int.le_refl _, i2, hN, hd⟩
  | succ n ih =>
    intro q i N q1 q2 i1 i2 hN hd
    unfold sp1
    by_cases h1 : 0 < q ∧ ¬ (i < L ∧ T i = 44)
    · rw [if_pos h1]
      exact ⟨by show (1 : Int) ≤ 1; omega, by show (1 : Int) ≤ 4; omega, i1, i2⟩
    · rw [if_neg h1]
      have rj := tj_rng (T := T) (q := q) i2 (fun z => Classical.byContradiction (fun w => h1 ⟨z, fun u => w u.1⟩))
      have re := te_rng (T := T) rj.2
      have rb := tb_rng (T := T) re.2
      by_cases h2 : tn T L (tj T L q i) 9 ≠ 0
      · rw [if_pos h2]
        have := tn_rng (T := T) (L := L) (i := tj T L q i) (m := 9)
        exact ⟨by show 1 ≤ tn T L (tj T L q i) 9; omega, by show tn T L (tj T L q i) 9 ≤ 4; omega, by show 0 ≤ tj T L q i; omega, by show tj T L q i ≤ L; omega⟩
      · rw [if_neg h2]
        have t0 := tn_0 (Classical.byContradiction h2)
        have rw0 := tw_rng rj.2 t0.2.1
        have := ih (q + 1) (tb T L (te T L (tj T L q i))) (nst N p q (tw T L (tj T L q i))) (by omega) (by omega) (by omega) rb.2 (fun a c a1 a2 c1 c2 h => by
          unfold nst
          by_cases e : (a = p ∧ c = q) ∨ (a = q ∧ c = p)
          · rw [if_pos e, if_pos (by omega)]
            exact ⟨by omega, by omega, rfl⟩
          · rw [if_neg e, if_neg (by omega)]
            exact hN a c a1 a2 c1 c2 (by omega)) (fun a a1 a2 => by
          unfold nst
          rw [if_neg (by omega)]
          exact hd a a1 a2)
        generalize sp1 T L p n (q + 1) (tb T L (te T L (tj T L q i))) (nst N p q (tw T L (tj T L q i))) = r at this ⊢
        match r, this with
        | Sum.inl f, h => exact h
        | Sum.inr t, h => exact ⟨by have := h.1; omega, h.2⟩
theorem sp0_ok {i : Int} {D : vD} (hD : okD D) (i1 : 0 ≤ i) (i2 : i < L) : okO L i (sp0 T L i D) := by
  unfold sp0
  by_cases h8 : 8 ≤ vnp D.1
  · rw [if_pos h8]
    exact ⟨by show (1 : Int) ≤ 3; omega, by show (3 : Int) ≤ 4; omega, i1, by show i ≤ L; omega⟩
  · rw [if_neg h8]
    have hP := hD.1
    have hP1 := hP.1
    have hP2 := hP.2.1
    have hP3 := hP.2.2.1
    have hP4 := hP.2.2.2.1
    have rb := tb_rng (T := T) (show i + 1 ≤ L by omega)
    have := sp1_ok (T := T) (L := L) (p := vnp D.1) hP1 (vnp D.1).toNat 0 (tb T L (i + 1)) D.2 (by omega) (by omega) (by omega) rb.2 (fun a c a1 a2 c1 c2 h => hD.2.1 a c a1 (by omega) c1 (by omega)) hD.2.2
    generalize sp1 T L (vnp D.1) (vnp D.1).toNat 0 (tb T L (i + 1)) D.2 = r at this ⊢
    match r, this with
    | Sum.inl f, h => exact h
    | Sum.inr t, h =>
      refine ⟨by show i < t.1; have := h.1; omega, h.2.1, ?_, ?_, ?_⟩
      · obtain ⟨n1, n2, n3, n4, n5, n6, n7⟩ := hP
        exact ⟨by show 0 ≤ vnp D.1 + 1; omega, by show vnp D.1 + 1 ≤ 8; omega, n3, n4, n5, fun l k a1 a2 a3 a4 => ⟨(n6 l k a1 a2 a3 a4).1, by have := (n6 l k a1 a2 a3 a4).2; show vst D.1 l k < vnp D.1 + 1; omega⟩, n7⟩
      · intro a c a1 a2 c1 c2
        have a2' : a < vnp D.1 + 1 := a2
        have c2' : c < vnp D.1 + 1 := c2
        show 0 ≤ nst t.2 (vnp D.1) (vnp D.1) 9 a c ∧ nst t.2 (vnp D.1) (vnp D.1) 9 a c ≤ 9 ∧ nst t.2 (vnp D.1) (vnp D.1) 9 a c = nst t.2 (vnp D.1) (vnp D.1) 9 c a
        unfold nst
        by_cases e : (a = vnp D.1 ∧ c = vnp D.1) ∨ (a = vnp D.1 ∧ c = vnp D.1)
        · rw [if_pos e, if_pos (by omega)]; omega
        · rw [if_neg e, if_neg (by omega)]
          exact h.2.2.1 a c a1 (by omega) c1 (by omega) (by omega)
      · intro a a1 a2
        have a2' : a < vnp D.1 + 1 := a2
        show nst t.2 (vnp D.1) (vnp D.1) 9 a a = 9
        unfold nst
        by_cases e : (a = vnp D.1 ∧ a = vnp D.1) ∨ (a = vnp D.1 ∧ a = vnp D.1)
        · rw [if_pos e]
        · rw [if_neg e]; exact h.2.2.2 a a1 (by omega)
theorem ss_ok {m : Int} : ∀ (n : Nat) (k i : Int) (F : Int → Int), 0 ≤ k → k + n = 6 → 0 ≤ i → i ≤ L → (∀ a, 0 ≤ a → a < k → 0 ≤ F a ∧ F a ≤ m) → (∀ a c, 0 ≤ a → a < c → c < k → F a ≠ F c) → match ss T L m n k i F with
    | Sum.inl f => okF L f
    | Sum.inr t => (2 ≤ t.1 ∧ t.1 ≤ 6) ∧ i ≤ t.2.1 ∧ t.2.1 ≤ L ∧ (∀ a, 0 ≤ a → a < t.1 → 0 ≤ t.2.2 a ∧ t.2.2 a ≤ m) ∧ ∀ a c, 0 ≤ a → a < c → c < t.1 → t.2.2 a ≠ t.2.2 c := by
  intro n
  induction n with
  | zero =>
    intro k i F k1 k2 i1 i2 hF hd
    exact ⟨⟨by show 2 ≤ k; omega, by show k ≤ 6; omega⟩, Int.le_refl _, i2, hF, hd⟩
  | succ n ih =>
    intro k i F k1 k2 i1 i2 hF hd
    unfold ss
    by_cases h0 : 2 ≤ k ∧ ¬ (i < L ∧ T i = 44)
    · rw [if_pos h0]
      exact ⟨⟨h0.1, by show k ≤ 6; omega⟩, Int.le_refl _, i2, hF, hd⟩
    · rw [if_neg h0]
      by_cases h1 : 0 < k ∧ ¬ (i < L ∧ T i = 44)
      · rw [if_pos h1]
        exact ⟨by show (1 : Int) ≤ 1; omega, by show (1 : Int) ≤ 4; omega, i1, i2⟩
      · rw [if_neg h1]
        have rj := tj_rng (T := T) (q := k) i2 (fun z => Classical.byContradiction (fun w => h1 ⟨z, fun u => w u.1⟩))
        have re := te_rng (T := T) rj.2
        have rb := tb_rng (T := T) re.2
        by_cases h2 : tn T L (tj T L k i) m ≠ 0
        · rw [if_pos h2]
          have := tn_rng (T := T) (L := L) (i := tj T L k i) (m := m)
          exact ⟨by show 1 ≤ tn T L (tj T L k i) m; omega, by show tn T L (tj T L k i) m ≤ 4; omega, by show 0 ≤ tj T L k i; omega, by show tj T L k i ≤ L; omega⟩
        · rw [if_neg h2]
          have t0 := tn_0 (Classical.byContradiction h2)
          have rw0 := tw_rng rj.2 t0.2.1
          by_cases h3 : vfi F (tw T L (tj T L k i)) k.toNat 0 ≠ -1
          · rw [if_pos h3]
            exact ⟨by show (1 : Int) ≤ 4; omega, by show (4 : Int) ≤ 4; omega, by show 0 ≤ tj T L k i; omega, by show tj T L k i ≤ L; omega⟩
          · rw [if_neg h3]
            have nv := vfi_none F (tw T L (tj T L k i)) k.toNat 0 (by omega) (Classical.byContradiction h3)
            have := ih (k + 1) (tb T L (te T L (tj T L k i))) (fun a => if a = k then tw T L (tj T L k i) else F a) (by omega) (by omega) (by omega) rb.2 (fun a a1 a2 => by
              show 0 ≤ (if a = k then tw T L (tj T L k i) else F a) ∧ (if a = k then tw T L (tj T L k i) else F a) ≤ m
              by_cases e : a = k
              · rw [if_pos e]; omega
              · rw [if_neg e]; exact hF a a1 (by omega)) (fun a c a1 a2 a3 => by
              show (if a = k then tw T L (tj T L k i) else F a) ≠ (if c = k then tw T L (tj T L k i) else F c)
              rw [if_neg (by omega)]
              by_cases e : c = k
              · rw [if_pos e]; exact nv a a1 (by omega)
              · rw [if_neg e]; exact hd a c a1 a2 (by omega))
            generalize ss T L m n (k + 1) (tb T L (te T L (tj T L k i))) (fun a => if a = k then tw T L (tj T L k i) else F a) = r at this ⊢
            match r, this with
            | Sum.inl f, h => exact h
            | Sum.inr t, h => exact ⟨h.1, by have := h.2.1; omega, h.2.2⟩
theorem sl0_ok {i : Int} {D : vD} (hD : okD D) (i1 : 0 ≤ i) (i2 : i < L) : okO L i (sl0 T L i D) := by
  unfold sl0
  by_cases h6 : 6 ≤ vnl D.1
  · rw [if_pos h6]
    exact ⟨by show (1 : Int) ≤ 3; omega, by show (3 : Int) ≤ 4; omega, i1, by show i ≤ L; omega⟩
  · rw [if_neg h6]
    have hP := hD.1
    have hP1 := hP.1
    have hP2 := hP.2.1
    have hP3 := hP.2.2.1
    have hP4 := hP.2.2.2.1
    have rb := tb_rng (T := T) (show i + 1 ≤ L by omega)
    by_cases h2 : tn T L (tb T L (i + 1)) 3 ≠ 0
    · rw [if_pos h2]
      have := tn_rng (T := T) (L := L) (i := tb T L (i + 1)) (m := 3)
      exact ⟨by show 1 ≤ tn T L (tb T L (i + 1)) 3; omega, by show tn T L (tb T L (i + 1)) 3 ≤ 4; omega, by show 0 ≤ tb T L (i + 1); omega, by show tb T L (i + 1) ≤ L; omega⟩
    · rw [if_neg h2]
      have t0 := tn_0 (Classical.byContradiction h2)
      have rw0 := tw_rng rb.2 t0.2.1
      have re := te_rng (T := T) rb.2
      have rc := tb_rng (T := T) re.2
      have := ss_ok (T := T) (L := L) (m := vnp D.1 - 1) 6 0 (tb T L (te T L (tb T L (i + 1)))) (fun _ => 0) (by omega) (by omega) (by omega) rc.2 (fun a a1 a2 => by omega) (fun a c a1 a2 a3 => by omega)
      generalize ss T L (vnp D.1 - 1) 6 0 (tb T L (te T L (tb T L (i + 1)))) (fun _ => 0) = r at this ⊢
      match r, this with
      | Sum.inl f, h => exact h
      | Sum.inr t, h =>
        refine ⟨by show i < t.2.1; have := h.2.1; omega, h.2.2.1, ⟨hP1, hP2, by show 0 ≤ vnl D.1 + 1; omega, by show vnl D.1 + 1 ≤ 6; omega, fun l l1 l2 => ?_, fun l k l1 l2 k1 k2 => ?_, fun l a c l1 l2 a1 a2 a3 => ?_⟩, hD.2.1, hD.2.2⟩
        · have l2' : l < vnl D.1 + 1 := l2
          show 2 ≤ (if l = vnl D.1 then t.1 else vsz D.1 l) ∧ (if l = vnl D.1 then t.1 else vsz D.1 l) ≤ 6 ∧ 0 ≤ (if l = vnl D.1 then tw T L (tb T L (i + 1)) else vfr D.1 l) ∧ (if l = vnl D.1 then tw T L (tb T L (i + 1)) else vfr D.1 l) ≤ 3
          by_cases e : l = vnl D.1
          · rw [if_pos e, if_pos e]; exact ⟨h.1.1, h.1.2, by omega, by omega⟩
          · rw [if_neg e, if_neg e]; exact hP.2.2.2.2.1 l l1 (by omega)
        · have l2' : l < vnl D.1 + 1 := l2
          have k2' : k < (if l = vnl D.1 then t.1 else vsz D.1 l) := k2
          show 0 ≤ (if l = vnl D.1 then t.2.2 k else vst D.1 l k) ∧ (if l = vnl D.1 then t.2.2 k else vst D.1 l k) < vnp D.1
          by_cases e : l = vnl D.1
          · rw [if_pos e]; rw [if_pos e] at k2'
            have := h.2.2.2.1 k k1 k2'
            omega
          · rw [if_neg e]; rw [if_neg e] at k2'
            exact hP.2.2.2.2.2.1 l k l1 (by omega) k1 k2'
        · have l2' : l < vnl D.1 + 1 := l2
          have a3' : c < (if l = vnl D.1 then t.1 else vsz D.1 l) := a3
          show (if l = vnl D.1 then t.2.2 a else vst D.1 l a) ≠ (if l = vnl D.1 then t.2.2 c else vst D.1 l c)
          by_cases e : l = vnl D.1
          · rw [if_pos e, if_pos e]; rw [if_pos e] at a3'
            exact h.2.2.2.2 a c a1 a2 a3'
          · rw [if_neg e, if_neg e]; rw [if_neg e] at a3'
            exact hP.2.2.2.2.2.2 l a c l1 (by omega) a1 a2 a3'
theorem sk_ok {i : Int} {D : vD} (hD : okD D) (i1 : 0 ≤ i) (i2 : i < L) : okO L i (sk T L i D) := by
  unfold sk
  by_cases h : T i = 112
  · rw [if_pos h]; exact sp0_ok hD i1 i2
  · rw [if_neg h]
    by_cases h2 : T i = 108
    · rw [if_pos h2]; exact sl0_ok hD i1 i2
    · rw [if_neg h2]
      exact ⟨by show (1 : Int) ≤ 1; omega, by show (1 : Int) ≤ 4; omega, i1, by show i ≤ L; omega⟩
theorem sm_ok {i : Int} {r : vO (Int × vD)} (hr : okO L i r) (i1 : 0 ≤ i) : okO L i (sm T L r) := by
  match r, hr with
  | Sum.inl f, h => exact h
  | Sum.inr z, h =>
    show okO L i (if z.1 < L ∧ T z.1 = 59 then Sum.inr (tb T L (z.1 + 1), z.2) else Sum.inl (1, z.1))
    by_cases e : z.1 < L ∧ T z.1 = 59
    · rw [if_pos e]
      have rb := tb_rng (T := T) (show z.1 + 1 ≤ L by omega)
      exact ⟨by show i < tb T L (z.1 + 1); have := h.1; omega, rb.2, h.2.2⟩
    · rw [if_neg e]
      exact ⟨by show (1 : Int) ≤ 1; omega, by show (1 : Int) ≤ 4; omega, by show 0 ≤ z.1; have := h.1; omega, h.2.1⟩
theorem okD0 : okD vD0 := by
  refine ⟨⟨by decide, by decide, by decide, by decide, fun l l1 l2 => ?_, fun l k l1 l2 => ?_, fun l i j l1 l2 => ?_⟩, fun p q p1 p2 => ?_, fun p p1 p2 => ?_⟩
  · exact absurd l2 (by show ¬ l < 0; omega)
  · exact absurd l2 (by show ¬ l < 0; omega)
  · exact absurd l2 (by show ¬ l < 0; omega)
  · exact absurd p2 (by show ¬ p < 0; omega)
  · exact absurd p2 (by show ¬ p < 0; omega)
theorem sc_ok : ∀ (n : Nat) (i : Int) (D : vD), okD D → 0 ≤ i → i ≤ L → match sc T L n i D with
    | Sum.inl f => okF L f
    | Sum.inr D' => okD D' := by
  intro n
  induction n with
  | zero => intro i D hD _ _; exact hD
  | succ n ih =>
    intro i D hD i1 i2
    unfold sc
    by_cases h : i < L
    · rw [if_pos h]
      have := sm_ok (T := T) (sk_ok (T := T) hD i1 h) i1
      generalize sm T L (sk T L i D) = r at this ⊢
      match r, this with
      | Sum.inl f, w => exact w
      | Sum.inr z, w => exact ih z.1 z.2 w.2.2 (by have := w.1; omega) w.2.1
    · rw [if_neg h]; exact hD
end OKD
