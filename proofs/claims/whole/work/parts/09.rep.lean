/-! HOW THE MACHINE'S HEAP HOLDS AN ABSTRACT STATE -/
/-- the kit's class numbers, the arrays' classes, the address below the first cell, the script's address -/
abbrev sm_G : Type := va_G × (Nat → ClassId) × Nat × Nat
abbrev sm_b (G : sm_G) : Nat := G.2.2.1
abbrev sm_sb (G : sm_G) : Nat := G.2.2.2
abbrev sm_A (G : sm_G) : Nat → Prop := fun q => sm_b G < q
def sm_tys (G : sm_G) : List (ClassId × FieldType) := [(G.2.1 0, .int), (G.2.1 1, .boolean), (G.2.1 2, .object "PersonLines$Life"), (G.2.1 3, .object "PersonLines$Image")]
def sm_o (G : sm_G) (k : Nat) : Option Nat := if k = 0 then none else some (sm_b G + k)
def sm_v (G : sm_G) (v : am_V) : Value := match v with
  | .inl x => .int (Int32.ofInt x)
  | .inr (.inl x) => .long (Int64.ofInt x)
  | .inr (.inr (.inl k)) => va_rf (sm_o G k)
  | .inr (.inr (.inr _)) => .ref (sm_sb G)
def sm_f (G : sm_G) (S : am_S) (M : am_M) (c k : Nat) : List Value := (List.range (pg_nf c)).map (fun j => if pg_isr c j = true then va_rf (sm_o G (am_rf S k (j : Int))) else .int (Int32.ofInt (M k (j : Int))))
def sm_e (G : sm_G) (S : am_S) (M : am_M) (k : Nat) : va_E :=
  if (am_kd S k).1 = 4 then .inr ((am_kd S k).2, sm_f G S M (am_kd S k).2 k)
  else if (am_kd S k).1 < 2 then .inl (G.2.1 (am_kd S k).1, (am_kd S k).2, .inl (fun j => Int32.ofInt (M k (j : Int))))
  else .inl (G.2.1 (am_kd S k).1, (am_kd S k).2, .inr (.inr (.inr (.inr (fun j => sm_o G (am_rf S k (j : Int)))))))
def sm_w (G : sm_G) (S : am_S) (M : am_M) : va_W := (List.range (am_n S)).map (fun k => (sm_b G + (k + 1), sm_e G S M (k + 1)))
theorem sm_o_pos {G : sm_G} {k : Nat} (h : 0 < k) : sm_o G k = some (sm_b G + k) := by unfold sm_o; rw [if_neg (by omega)]
theorem sm_v_r {G : sm_G} {k : Nat} (h : 0 < k) : sm_v G (am_r k) = .ref (sm_b G + k) := by show va_rf (sm_o G k) = _; rw [sm_o_pos h]; rfl
theorem sm_kd_in {S : am_S} {k : Nat} (h : (am_kd S k).1 ≠ 9) : 0 < k ∧ k ≤ am_n S := by
  unfold am_kd at h
  by_cases hk : 0 < k ∧ k ≤ S.2.1.1
  · exact hk
  · rw [if_neg hk] at h; exact absurd rfl h
theorem sm_w_len (G : sm_G) (S : am_S) (M : am_M) : (sm_w G S M).length = am_n S := by simp [sm_w]
theorem sm_w_get {G : sm_G} {S : am_S} {M : am_M} {k : Nat} (h : 0 < k ∧ k ≤ am_n S) : (sm_w G S M)[k - 1]? = some (sm_b G + k, sm_e G S M k) := by
  have h1 : k - 1 < am_n S := by omega
  have h2 : k - 1 + 1 = k := by omega
  simp [sm_w, h1, h2]
theorem sm_w_inv {G : sm_G} {S : am_S} {M : am_M} {i : Nat} {q : Nat × va_E} (h : (sm_w G S M)[i]? = some q) : i < am_n S ∧ q = (sm_b G + (i + 1), sm_e G S M (i + 1)) := by
  have h1 := (List.getElem?_eq_some_iff.mp h).1
  rw [sm_w_len] at h1
  have h2 := sm_w_get (G := G) (S := S) (M := M) (k := i + 1) ⟨by omega, by omega⟩
  rw [show i + 1 - 1 = i by omega, h] at h2
  exact ⟨h1, Option.some.inj h2⟩
theorem sm_D (G : sm_G) (S : am_S) (M : am_M) : va_D (sm_A G) (sm_w G S M) := by
  refine ⟨fun i j x y hi hj hxy => ?_, fun k q hk => ?_⟩
  · obtain ⟨-, rfl⟩ := sm_w_inv hi
    obtain ⟨-, rfl⟩ := sm_w_inv hj
    have : sm_b G + (i + 1) = sm_b G + (j + 1) := hxy
    omega
  · obtain ⟨-, rfl⟩ := sm_w_inv hk
    show sm_b G < sm_b G + (k + 1)
    omega
theorem sm_w_set {G : sm_G} {S S' : am_S} {M M' : am_M} {k : Nat} (hn : am_n S' = am_n S) (hk : 0 < k ∧ k ≤ am_n S) (ho : ∀ j, j ≠ k → sm_e G S' M' j = sm_e G S M j) : (sm_w G S M).set (k - 1) (sm_b G + k, sm_e G S' M' k) = sm_w G S' M' := by
  apply List.ext_getElem?
  intro i
  by_cases hi : i < am_n S
  · have g1 := sm_w_get (G := G) (S := S') (M := M') (k := i + 1) ⟨by omega, by omega⟩
    rw [show i + 1 - 1 = i by omega] at g1
    rw [g1]
    by_cases hik : i = k - 1
    · rw [hik, List.getElem?_set_self (by rw [sm_w_len]; omega), show k - 1 + 1 = k by omega]
    · rw [List.getElem?_set_ne (fun h => hik h.symm)]
      have g2 := sm_w_get (G := G) (S := S) (M := M) (k := i + 1) ⟨by omega, by omega⟩
      rw [show i + 1 - 1 = i by omega] at g2
      rw [g2, ho (i + 1) (by omega)]
  · rw [List.getElem?_eq_none (by rw [List.length_set, sm_w_len]; omega), List.getElem?_eq_none (by rw [sm_w_len]; omega)]
theorem sm_kd_wr (S : am_S) (M : am_M) {k j : Nat} {i v : Int} {G : sm_G} (h : j ≠ k) : sm_e G S (am_wr M k i v) j = sm_e G S M j := by
  have e : ∀ x : Int, am_wr M k i v j x = M j x := fun x => by unfold am_wr; rw [if_neg (fun q => h q.1)]
  unfold sm_e sm_f
  simp only [e]
theorem sm_e_cp (S : am_S) (M : am_M) {a d j : Nat} {sp dp n : Int} {G : sm_G} (h : j ≠ d) : sm_e G S (am_cp M a sp d dp n) j = sm_e G S M j := by
  have e : ∀ x : Int, am_cp M a sp d dp n j x = M j x := fun x => by unfold am_cp; rw [if_neg (fun q => h q.1)]
  unfold sm_e sm_f
  simp only [e]
theorem sm_kd_set (S : am_S) (k : Nat) (i : Int) (v j : Nat) : am_kd (am_set S k i v) j = am_kd S j := rfl
theorem sm_e_set (S : am_S) (M : am_M) {k j v : Nat} {i : Int} {G : sm_G} (h : j ≠ k) : sm_e G (am_set S k i v) M j = sm_e G S M j := by
  have e : ∀ x : Int, am_rf (am_set S k i v) j x = am_rf S j x := fun x => by unfold am_rf am_set; exact if_neg (fun q => h q.1)
  unfold sm_e sm_f
  simp only [e, sm_kd_set]
theorem sm_e_int {G : sm_G} {S : am_S} {M : am_M} {k : Nat} {t : Nat} (h : (am_kd S k).1 = t) (ht : t < 2) : sm_e G S M k = .inl (G.2.1 t, (am_kd S k).2, .inl (fun j => Int32.ofInt (M k (j : Int)))) := by
  unfold sm_e
  rw [if_neg (by omega), if_pos (by omega), h]
theorem sm_e_ref {G : sm_G} {S : am_S} {M : am_M} {k : Nat} {t : Nat} (h : (am_kd S k).1 = t) (ht : t = 2 ∨ t = 3) : sm_e G S M k = .inl (G.2.1 t, (am_kd S k).2, .inr (.inr (.inr (.inr (fun j => sm_o G (am_rf S k (j : Int))))))) := by
  unfold sm_e
  rw [if_neg (by omega), if_neg (by omega), h]
theorem sm_e_obj {G : sm_G} {S : am_S} {M : am_M} {k c : Nat} (h : am_kd S k = (4, c)) : sm_e G S M k = .inr (c, sm_f G S M c k) := by
  unfold sm_e
  rw [h, if_pos rfl]
theorem sm_f_len (G : sm_G) (S : am_S) (M : am_M) (c k : Nat) : (sm_f G S M c k).length = pg_nf c := by simp [sm_f]
theorem sm_f_get {G : sm_G} {S : am_S} {M : am_M} {c k j : Nat} (h : j < pg_nf c) : (sm_f G S M c k)[j]? = some (if pg_isr c j = true then va_rf (sm_o G (am_rf S k (j : Int))) else .int (Int32.ofInt (M k (j : Int)))) := by
  simp [sm_f, h]
theorem sm_f_wr {G : sm_G} {S : am_S} {M : am_M} {c k b : Nat} {x : Int} (h : b < pg_nf c) (hr : ¬ pg_isr c b = true) : (sm_f G S M c k).set b (.int (Int32.ofInt x)) = sm_f G S (am_wr M k (b : Int) x) c k := by
  apply List.ext_getElem?
  intro i
  by_cases hi : i < pg_nf c
  · rw [sm_f_get hi]
    by_cases hib : i = b
    · subst hib
      rw [List.getElem?_set_self (by rw [sm_f_len]; exact hi), if_neg hr]
      unfold am_wr
      rw [if_pos ⟨rfl, rfl⟩]
    · rw [List.getElem?_set_ne (fun h => hib h.symm), sm_f_get hi]
      have e : am_wr M k (b : Int) x k (i : Int) = M k (i : Int) := by unfold am_wr; rw [if_neg (fun q => hib (by have := q.2; omega))]
      rw [e]
  · rw [List.getElem?_eq_none (by rw [List.length_set, sm_f_len]; omega), List.getElem?_eq_none (by rw [sm_f_len]; omega)]
theorem sm_f_sr {G : sm_G} {S : am_S} {M : am_M} {c k b x : Nat} (h : b < pg_nf c) (hr : pg_isr c b = true) : (sm_f G S M c k).set b (va_rf (sm_o G x)) = sm_f G (am_set S k (b : Int) x) M c k := by
  apply List.ext_getElem?
  intro i
  by_cases hi : i < pg_nf c
  · rw [sm_f_get hi]
    by_cases hib : i = b
    · subst hib
      rw [List.getElem?_set_self (by rw [sm_f_len]; exact hi), if_pos hr]
      have e : am_rf (am_set S k (i : Int) x) k (i : Int) = x := by unfold am_rf am_set; exact if_pos ⟨rfl, rfl⟩
      rw [e]
    · rw [List.getElem?_set_ne (fun h => hib h.symm), sm_f_get hi]
      have e : am_rf (am_set S k (b : Int) x) k (i : Int) = am_rf S k (i : Int) := by unfold am_rf am_set; exact if_neg (fun q => hib (by have := q.2; omega))
      rw [e]
  · rw [List.getElem?_eq_none (by rw [List.length_set, sm_f_len]; omega), List.getElem?_eq_none (by rw [sm_f_len]; omega)]
/-! numbers -/
theorem sm_ti {x : Int} (h : am_Ri x) : (Int32.ofInt x).toInt = x := Int32.toInt_ofInt_of_le (by have := h.1; omega) (by have := h.2; omega)
theorem sm_tl {x : Int} (h : am_Rl x) : (Int64.ofInt x).toInt = x := Int64.toInt_ofInt_of_le (by have := h.1; omega) (by have := h.2; omega)
theorem sm_le {x y : Int} (hx : am_Ri x) (hy : am_Ri y) : Int32.ofInt x ≤ Int32.ofInt y ↔ x ≤ y := by rw [Int32.le_iff_toInt_le, sm_ti hx, sm_ti hy]
theorem sm_lt {x y : Int} (hx : am_Ri x) (hy : am_Ri y) : Int32.ofInt x < Int32.ofInt y ↔ x < y := by rw [Int32.lt_iff_toInt_lt, sm_ti hx, sm_ti hy]
theorem sm_eq {x y : Int} (hx : am_Ri x) (hy : am_Ri y) : Int32.ofInt x = Int32.ofInt y ↔ x = y := by rw [← Int32.toInt_inj, sm_ti hx, sm_ti hy]
theorem sm_z : Int32.ofInt 0 = 0 := rfl
theorem sm_R0 : am_Ri 0 := ⟨by omega, by omega⟩
theorem sm_cl {i : Int} (h : 0 ≤ i) (h2 : i ≤ 2147483647) : (Int32.ofInt i).toNatClampNeg = i.toNat := by
  rw [← Int32.toNat_toInt, sm_ti ⟨by omega, h2⟩]
theorem sm_in {i : Int} {n : Nat} (h : 0 ≤ i) (h2 : i < (n : Int)) (h3 : i ≤ 2147483647) : vp_in (Int32.ofInt i) n := by
  rw [vp_in_iff, sm_ti ⟨by omega, h3⟩]
  exact ⟨h, h2⟩
theorem sm_n0 {i : Int} (h : 0 ≤ i) (h2 : i ≤ 2147483647) : ¬ Int32.ofInt i < 0 := by
  rw [← sm_z, sm_lt ⟨by omega, h2⟩ sm_R0]; omega
