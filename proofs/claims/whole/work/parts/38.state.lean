/-! THE WHOLE STATE: plan, row, rows that can be undone (oldest first), two images, what was seen, the book, the text, the fault's place, the seed -/
abbrev vX : Type := vP × vR × List vR × (Option (vR × Int) × Option (vR × Int)) × List (Int × Int) × List (Int × Int) × List Int × Int × Int
abbrev xP (X : vX) : vP := X.1
abbrev xR (X : vX) : vR := X.2.1
abbrev xH (X : vX) : List vR := X.2.2.1
abbrev xI (X : vX) : Option (vR × Int) := X.2.2.2.1.1
abbrev xJ (X : vX) : Option (vR × Int) := X.2.2.2.1.2
abbrev xS (X : vX) : List (Int × Int) := X.2.2.2.2.1
abbrev xB (X : vX) : List (Int × Int) := X.2.2.2.2.2.1
abbrev xT (X : vX) : List Int := X.2.2.2.2.2.2.1
abbrev xF (X : vX) : Int := X.2.2.2.2.2.2.2.1
abbrev xD (X : vX) : Int := X.2.2.2.2.2.2.2.2
def okI (P : vP) (B : Int) (I : Option (vR × Int)) : Prop := ∀ q, I = some q → okR P B q.1 ∧ 0 ≤ q.2 ∧ q.2 ≤ 2147483647
def okX (B : Int) (X : vX) : Prop := okP (xP X) ∧ okR (xP X) B (xR X) ∧ (∀ q ∈ xH X, okR (xP X) B q) ∧ (xH X).length ≤ 30 ∧ okI (xP X) B (xI X) ∧ okI (xP X) B (xJ X) ∧ ((xS X).length ≤ 6 ∧ ∀ q ∈ xS X, 0 ≤ q.1 ∧ q.1 < vnl (xP X) ∧ 0 ≤ q.2 ∧ q.2 < vsz (xP X) q.1) ∧ ((xB X).length ≤ 20 ∧ ∀ q ∈ xB X, 0 ≤ q.1 ∧ q.1 < vnp (xP X) ∧ 0 ≤ q.2 ∧ q.2 < vnp (xP X)) ∧ ((xT X).length ≤ 200 ∧ ∀ q ∈ xT X, 0 ≤ q ∧ q ≤ 255) ∧ (-1 ≤ xF X ∧ xF X ≤ 200) ∧ 0 ≤ xD X ∧ xD X ≤ 2147483647
/-- the class's rows that can be undone: a ring -/
def cH (P : vP) (Hs : List vR) (M : am_M) : Prop := ∃ nx : Nat, nx < 30 ∧ M 22 1 = (nx : Int) ∧ M 22 2 = (Hs.length : Int) ∧ ∀ (k : Nat) (q : vR), Hs[k]? = some q → cR P q (24 + 4 * ((nx + 30 - Hs.length + k) % 30)) M
/-- an image of the class, at the cell c -/
def cI (P : vP) (I : Option (vR × Int)) (c : Nat) (M : am_M) : Prop := match I with
  | none => M c 2 = 0
  | some q => M c 2 = 1 ∧ M c 1 = q.2 ∧ cR P q.1 (c + 1) M
def cS (l : List (Int × Int)) (M : am_M) : Prop := M 146 4 = (l.length : Int) ∧ ∀ (k : Nat) (q : Int × Int), l[k]? = some q → M 147 (k : Int) = q.1 ∧ M 148 (k : Int) = q.2
def cB (l : List (Int × Int)) (M : am_M) : Prop := M 150 2 = (l.length : Int) ∧ ∀ (k : Nat) (q : Int × Int), l[k]? = some q → M 151 (k : Int) = q.1 ∧ M 152 (k : Int) = q.2
def cT (l : List Int) (M : am_M) : Prop := M 7 2 = (l.length : Int) ∧ ∀ (k : Nat) (q : Int), l[k]? = some q → M 13 (k : Int) = q
def CX (X : vX) (M : am_M) : Prop := cP (xP X) M ∧ cR (xP X) (xR X) 14 M ∧ cH (xP X) (xH X) M ∧ cI (xP X) (xI X) 154 M ∧ cI (xP X) (xJ X) 159 M ∧ cS (xS X) M ∧ cB (xB X) M ∧ cT (xT X) M ∧ M 1 9 = xF X ∧ M 1 10 = xD X
def mH (P : vP) (Hs : List vR) (M : am_M) : Prop := M 164 16 = (Hs.length : Int) ∧ ∀ (k : Nat) (q : vR), Hs[k]? = some q → mR P q (328 + 82 * (k : Int)) M
def mI (P : vP) (I : Option (vR × Int)) (i : Int) (M : am_M) : Prop := match I with
  | none => M 166 i = 0
  | some q => M 166 i = 1 ∧ M 165 (164 + 82 * i + 81) = q.2 ∧ mR P q.1 (164 + 82 * i) M
def mS (l : List (Int × Int)) (M : am_M) : Prop := M 164 20 = (l.length : Int) ∧ ∀ (k : Nat) (q : Int × Int), l[k]? = some q → M 173 (k : Int) = q.1 ∧ M 174 (k : Int) = q.2
def mB (l : List (Int × Int)) (M : am_M) : Prop := M 164 23 = (l.length : Int) ∧ ∀ (k : Nat) (q : Int × Int), l[k]? = some q → M 175 (k : Int) = q.1 ∧ M 176 (k : Int) = q.2
def mT (l : List Int) (M : am_M) : Prop := M 164 11 = (l.length : Int) ∧ ∀ (k : Nat) (q : Int), l[k]? = some q → M 171 (k : Int) = q
def MX (X : vX) (M : am_M) : Prop := mP (xP X) M ∧ mR (xP X) (xR X) 0 M ∧ mH (xP X) (xH X) M ∧ mI (xP X) (xI X) 0 M ∧ mI (xP X) (xJ X) 1 M ∧ mS (xS X) M ∧ mB (xB X) M ∧ mT (xT X) M ∧ M 164 15 = xF X ∧ M 165 81 = xD X
/-- one row more that can be undone -/
def vrem (Hs : List vR) (R : vR) : List vR := if Hs.length = 30 then Hs.drop 1 ++ [R] else Hs ++ [R]
section STATE
variable {S : am_S} {M M1 : am_M} {X : vX} {B : Int}
theorem cS_fr {l : List (Int × Int)} (h : ∀ k, 146 ≤ k → k ≤ 148 → ∀ j, M1 k j = M k j) (c : cS l M) : cS l M1 := ⟨(h 146 (by omega) (by omega) 4).trans c.1, fun k q hq => ⟨(h 147 (by omega) (by omega) _).trans (c.2 k q hq).1, (h 148 (by omega) (by omega) _).trans (c.2 k q hq).2⟩⟩
theorem cB_fr {l : List (Int × Int)} (h : ∀ k, 150 ≤ k → k ≤ 152 → ∀ j, M1 k j = M k j) (c : cB l M) : cB l M1 := ⟨(h 150 (by omega) (by omega) 2).trans c.1, fun k q hq => ⟨(h 151 (by omega) (by omega) _).trans (c.2 k q hq).1, (h 152 (by omega) (by omega) _).trans (c.2 k q hq).2⟩⟩
theorem cT_fr {l : List Int} (h : ∀ j, M1 7 j = M 7 j) (h2 : ∀ j, M1 13 j = M 13 j) (c : cT l M) : cT l M1 := ⟨(h 2).trans c.1, fun k q hq => (h2 _).trans (c.2 k q hq)⟩
theorem cI_fr {P : vP} {I : Option (vR × Int)} {c : Nat} (h : ∀ k, c ≤ k → k ≤ c + 4 → ∀ j, M1 k j = M k j) (ci : cI P I c M) : cI P I c M1 := by
  cases I with
  | none => exact (h c (by omega) (by omega) 2).trans ci
  | some q => exact ⟨(h c (by omega) (by omega) 2).trans ci.1, (h c (by omega) (by omega) 1).trans ci.2.1, cR_fr (fun k h1 h2 => h k (by omega) (by omega)) ci.2.2⟩
theorem cH_fr {P : vP} {Hs : List vR} (h : ∀ k, 22 ≤ k → k ≤ 143 → ∀ j, M1 k j = M k j) (c : cH P Hs M) : cH P Hs M1 := by
  obtain ⟨nx, a1, a2, a3, a4⟩ := c
  exact ⟨nx, a1, (h 22 (by omega) (by omega) 1).trans a2, (h 22 (by omega) (by omega) 2).trans a3, fun k q hq => cR_fr (fun c h1 h2 => h c (by omega) (by omega)) (a4 k q hq)⟩
/-- the class doesn't touch the reference, nor the reference the class -/
theorem CX_fr (h : fr 164 176 M M1) (c : CX X M) : CX X M1 := by
  obtain ⟨a1, a2, a3, a4, a5, a6, a7, a8, a9, a10⟩ := c
  have e : ∀ k, k < 164 → ∀ j, M1 k j = M k j := fun k hk => h k (by omega)
  exact ⟨cP_fr h (by omega) a1, cR_fr (fun k h1 h2 => e k (by omega)) a2, cH_fr (fun k h1 h2 => e k (by omega)) a3, cI_fr (fun k h1 h2 => e k (by omega)) a4, cI_fr (fun k h1 h2 => e k (by omega)) a5, cS_fr (fun k h1 h2 => e k (by omega)) a6, cB_fr (fun k h1 h2 => e k (by omega)) a7, cT_fr (e 7 (by omega)) (e 13 (by omega)) a8, (e 1 (by omega) 9).trans a9, (e 1 (by omega) 10).trans a10⟩
theorem mH_fr {P : vP} {Hs : List vR} (hP : okP P) (h : ∀ j, M1 164 j = M 164 j) (h2 : ∀ j, 328 ≤ j → M1 165 j = M 165 j) (c : mH P Hs M) : mH P Hs M1 := ⟨(h 16).trans c.1, fun k q hq => mR_fr hP (fun j h3 h4 => h2 j (by omega)) (c.2 k q hq)⟩
theorem mI_fr {P : vP} {I : Option (vR × Int)} {i : Int} (hP : okP P) (h : ∀ j, M1 166 j = M 166 j) (h2 : ∀ j, 164 + 82 * i ≤ j → j < 164 + 82 * i + 82 → M1 165 j = M 165 j) (ci : mI P I i M) : mI P I i M1 := by
  cases I with
  | none => exact (h i).trans ci
  | some q => exact ⟨(h i).trans ci.1, (h2 _ (by omega) (by omega)).trans ci.2.1, mR_fr hP (fun j h3 h4 => h2 j (by omega) (by omega)) ci.2.2⟩
theorem mS_fr {l : List (Int × Int)} (h : ∀ k, k = 164 ∨ k = 173 ∨ k = 174 → ∀ j, M1 k j = M k j) (c : mS l M) : mS l M1 := ⟨(h 164 (by omega) 20).trans c.1, fun k q hq => ⟨(h 173 (by omega) _).trans (c.2 k q hq).1, (h 174 (by omega) _).trans (c.2 k q hq).2⟩⟩
theorem mB_fr {l : List (Int × Int)} (h : ∀ k, k = 164 ∨ k = 175 ∨ k = 176 → ∀ j, M1 k j = M k j) (c : mB l M) : mB l M1 := ⟨(h 164 (by omega) 23).trans c.1, fun k q hq => ⟨(h 175 (by omega) _).trans (c.2 k q hq).1, (h 176 (by omega) _).trans (c.2 k q hq).2⟩⟩
theorem mT_fr {l : List Int} (h : ∀ k, k = 164 ∨ k = 171 → ∀ j, M1 k j = M k j) (c : mT l M) : mT l M1 := ⟨(h 164 (by omega) 11).trans c.1, fun k q hq => (h 171 (by omega) _).trans (c.2 k q hq)⟩
theorem MX_fr (hP : okP (xP X)) (h : fr 1 163 M M1) (c : MX X M) : MX X M1 := by
  obtain ⟨a1, a2, a3, a4, a5, a6, a7, a8, a9, a10⟩ := c
  have e : ∀ k, 163 < k → ∀ j, M1 k j = M k j := fun k hk => h k (by omega)
  exact ⟨mP_fr (fun k hk => e k (by omega)) a1, mR_fr hP (fun j _ _ => e 165 (by omega) j) a2, mH_fr hP (e 164 (by omega)) (fun j _ => e 165 (by omega) j) a3, mI_fr hP (e 166 (by omega)) (fun j _ _ => e 165 (by omega) j) a4, mI_fr hP (e 166 (by omega)) (fun j _ _ => e 165 (by omega) j) a5, mS_fr (fun k hk => e k (by omega)) a6, mB_fr (fun k hk => e k (by omega)) a7, mT_fr (fun k hk => e k (by omega)) a8, (e 164 (by omega) 15).trans a9, (e 165 (by omega) 81).trans a10⟩
/-- the row alone changes -/
theorem CX_row {R' : vR} (c : CX X M) (h : fr 14 17 M M1) (cr : cR (xP X) R' 14 M1) : CX (xP X, R', X.2.2) M1 := by
  obtain ⟨a1, a2, a3, a4, a5, a6, a7, a8, a9, a10⟩ := c
  exact ⟨cP_fr h (by omega) a1, cr, cH_fr (fun k h1 h2 => h k (by omega)) a3, cI_fr (fun k h1 h2 => h k (by omega)) a4, cI_fr (fun k h1 h2 => h k (by omega)) a5, cS_fr (fun k h1 h2 => h k (by omega)) a6, cB_fr (fun k h1 h2 => h k (by omega)) a7, cT_fr (h 7 (by omega)) (h 13 (by omega)) a8, (h 1 (by omega) 9).trans a9, (h 1 (by omega) 10).trans a10⟩
theorem MX_row {R' : vR} (hP : okP (xP X)) (c : MX X M) (h : fx 0 M M1) (mr : mR (xP X) R' 0 M1) : MX (xP X, R', X.2.2) M1 := by
  obtain ⟨a1, a2, a3, a4, a5, a6, a7, a8, a9, a10⟩ := c
  exact ⟨mP_fx h a1, mr, mH_fr hP (h.1 164 (by omega)) (fun j hj => h.2 j (by omega)) a3, mI_fr hP (h.1 166 (by omega)) (fun j h1 h2 => h.2 j (by omega)) a4, mI_fr hP (h.1 166 (by omega)) (fun j h1 h2 => h.2 j (by omega)) a5, mS_fr (fun k hk => h.1 k (by omega)) a6, mB_fr (fun k hk => h.1 k (by omega)) a7, mT_fr (fun k hk => h.1 k (by omega)) a8, (h.1 164 (by omega) 15).trans a9, (h.2 81 (by omega)).trans a10⟩
theorem vrem_len (Hs : List vR) (R : vR) (h : Hs.length ≤ 30) : (vrem Hs R).length = min (Hs.length + 1) 30 := by
  unfold vrem
  by_cases h1 : Hs.length = 30
  · rw [if_pos h1, List.length_append, List.length_drop, List.length_singleton]; omega
  · rw [if_neg h1, List.length_append, List.length_singleton]; omega
theorem k_remember (hS : ly S) (ok : okX B X) (c : CX X M) : ∃ M1, am_call 6 [am_r 22, am_r 14] S M = some (none, S, M1) ∧ CX (xP X, xR X, vrem (xH X) (xR X), X.2.2.2) M1 ∧ fr 22 143 M M1 := by
  obtain ⟨hi0, hi1, hi2, hi3⟩ := hS.2.2.2.2.2.1
  obtain ⟨nx, n1, n2, n3, n4⟩ := c.2.2.1
  have hP := ok.1
  have hl := ok.2.2.2.1
  have hb : lf (24 + 4 * nx) := by unfold lf; omega
  have li0 := (hS.2.2.2.2.1 (24 + 4 * nx) hb).1
  obtain ⟨M1, d1, d2, d3⟩ := k_copy (S := S) (b := 24 + 4 * nx) (b' := 14) hS hb (by unfold lf; omega) hP (by omega) c.2.1
  have hr := hi3 nx n1
  have m1 : M1 22 1 = (nx : Int) := (d3 22 (by omega) 1).trans n2
  have m2 : M1 22 2 = ((xH X).length : Int) := (d3 22 (by omega) 2).trans n3
  have m3 : am_wr M1 22 1 (((nx : Int) + 1) % 30) 22 2 = ((xH X).length : Int) := by rw [am_wr_i (by omega)]; exact m2
  have fr1 : fr 22 143 M M1 := fr_mono d3 (by omega) (by omega)
  have fr2 : fr 22 143 M (am_wr (am_wr M1 22 1 (((nx : Int) + 1) % 30)) 22 2 (min (((xH X).length : Int) + 1) 30)) := fr_tr fr1 (fr_tr (fr_wr (by omega)) (fr_wr (by omega)))
  refine ⟨_, ?_, ?_, fr2⟩
  · simp (disch := omega) only [c_Hi_remember, b_Hi_remember_0, b_Hi_remember_13, hi0, hi1, hi2, n2, hr, li0, d1, m1, m3, am_ck_T, am_ck_t, am_cif_t, am_cif_f, am_cif_T, am_cif_F, am_then_s, am_push_s, am_push_n, true_and, and_true, true_or, or_true, Int.cast_ofNat_Int, am_02, am_22, not_true_eq_false, not_false_eq_true]
  · obtain ⟨a1, a2, a3, a4, a5, a6, a7, a8, a9, a10⟩ := c
    refine ⟨?_, cR_fr (fun k h1 h2 => fr2 k (by omega)) a2, ?_, cI_fr (fun k h1 h2 => fr2 k (by omega)) a4, cI_fr (fun k h1 h2 => fr2 k (by omega)) a5, cS_fr (fun k h1 h2 => fr2 k (by omega)) a6, cB_fr (fun k h1 h2 => fr2 k (by omega)) a7, cT_fr (fr2 7 (by omega)) (fr2 13 (by omega)) a8, (fr2 1 (by omega) 9).trans a9, (fr2 1 (by omega) 10).trans a10⟩
    · exact cP_fr fr2 (by omega) a1
    · refine ⟨(nx + 1) % 30, by omega, ?_, ?_, fun k q hq => ?_⟩
      · rw [am_wr_i (by omega), am_wr_s]; omega
      · rw [am_wr_s, vrem_len _ _ hl]; omega
      · have key : cR (xP X) q (24 + 4 * (((nx + 1) % 30 + 30 - (vrem (xH X) (xR X)).length + k) % 30)) M1 := by
          rw [vrem_len _ _ hl]
          unfold vrem at hq
          by_cases h30 : (xH X).length = 30
          · rw [if_pos h30] at hq
            by_cases hk : k < 29
            · rw [List.getElem?_append_left (by rw [List.length_drop]; omega), List.getElem?_drop] at hq
              have t := n4 (1 + k) q hq
              rw [show ((nx + 1) % 30 + 30 - min ((xH X).length + 1) 30 + k) % 30 = (nx + 30 - (xH X).length + (1 + k)) % 30 by omega]
              exact cR_fr (fun c h1 h2 => d3 c (by omega)) t
            · rw [List.getElem?_append_right (by rw [List.length_drop]; omega), List.length_drop] at hq
              have hk2 : k = 29 := by
                have := (List.getElem?_eq_some_iff.mp hq).1
                rw [List.length_singleton] at this
                omega
              subst hk2
              rw [h30] at hq
              cases hq
              rw [show ((nx + 1) % 30 + 30 - min ((xH X).length + 1) 30 + 29) % 30 = nx by omega]
              exact d2
          · rw [if_neg h30] at hq
            by_cases hk : k < (xH X).length
            · rw [List.getElem?_append_left hk] at hq
              have t := n4 k q hq
              rw [show ((nx + 1) % 30 + 30 - min ((xH X).length + 1) 30 + k) % 30 = (nx + 30 - (xH X).length + k) % 30 by omega]
              exact cR_fr (fun c h1 h2 => d3 c (by omega)) t
            · rw [List.getElem?_append_right (by omega)] at hq
              have hk2 : k = (xH X).length := by
                have := (List.getElem?_eq_some_iff.mp hq).1
                rw [List.length_singleton] at this
                omega
              subst hk2
              rw [Nat.sub_self] at hq
              cases hq
              rw [show ((nx + 1) % 30 + 30 - min ((xH X).length + 1) 30 + (xH X).length) % 30 = nx by omega]
              exact d2
        exact cR_fr (fun c h1 h2 j => (am_wr_k (by omega)).trans (am_wr_k (by omega))) key
end STATE
