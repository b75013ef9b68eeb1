/-! rows: single changes, frames -/
/-- only the cells lo .. hi change -/
def fr (lo hi : Nat) (M M1 : am_M) : Prop := ∀ k, (k < lo ∨ hi < k) → ∀ j, M1 k j = M k j
theorem fr_rf {lo hi : Nat} {M : am_M} : fr lo hi M M := fun _ _ _ => rfl
theorem fr_tr {lo hi : Nat} {M M1 M2 : am_M} (h1 : fr lo hi M M1) (h2 : fr lo hi M1 M2) : fr lo hi M M2 := fun k hk j => (h2 k hk j).trans (h1 k hk j)
theorem fr_wr {lo hi k : Nat} {M : am_M} {i v : Int} (h : lo ≤ k ∧ k ≤ hi) : fr lo hi M (am_wr M k i v) := fun k' hk j => am_wr_k (by omega)
theorem fr_mono {lo hi lo' hi' : Nat} {M M1 : am_M} (h : fr lo hi M M1) (h1 : lo' ≤ lo) (h2 : hi ≤ hi') : fr lo' hi' M M1 := fun k hk j => h k (by omega) j
/-- only the places x .. x + 80 of the reference's w change -/
def fx (x : Int) (M M1 : am_M) : Prop := fr 165 165 M M1 ∧ ∀ j, (j < x ∨ x + 81 ≤ j) → M1 165 j = M 165 j
theorem fx_rf {x : Int} {M : am_M} : fx x M M := ⟨fr_rf, fun _ _ => rfl⟩
theorem fx_tr {x : Int} {M M1 M2 : am_M} (h1 : fx x M M1) (h2 : fx x M1 M2) : fx x M M2 := ⟨fr_tr h1.1 h2.1, fun j hj => (h2.2 j hj).trans (h1.2 j hj)⟩
theorem fx_wr {x i v : Int} {M : am_M} (h : x ≤ i ∧ i < x + 81) : fx x M (am_wr M 165 i v) := ⟨fr_wr (by omega), fun j hj => am_wr_i (by omega)⟩
/-- and the seed's place behind them -/
def fy (x : Int) (M M1 : am_M) : Prop := fr 165 165 M M1 ∧ ∀ j, (j < x ∨ x + 82 ≤ j) → M1 165 j = M 165 j
theorem fy_rf {x : Int} {M : am_M} : fy x M M := ⟨fr_rf, fun _ _ => rfl⟩
theorem fy_tr {x : Int} {M M1 M2 : am_M} (h1 : fy x M M1) (h2 : fy x M1 M2) : fy x M M2 := ⟨fr_tr h1.1 h2.1, fun j hj => (h2.2 j hj).trans (h1.2 j hj)⟩
theorem fy_wr {x i v : Int} {M : am_M} (h : x ≤ i ∧ i < x + 82) : fy x M (am_wr M 165 i v) := ⟨fr_wr (by omega), fun j hj => am_wr_i (by omega)⟩
theorem fx_fy {x : Int} {M M1 : am_M} (h : fx x M M1) : fy x M M1 := ⟨h.1, fun j hj => h.2 j (by omega)⟩
def vSn (R : vR) (p q v : Int) : vR := ((fun a c => if (a = p ∧ c = q) ∨ (a = q ∧ c = p) then v else R.1 a c), R.2)
def vSg (R : vR) (p v : Int) : vR := (R.1, (fun q => if q = p then v else R.2.1 q), R.2.2)
def vSe (R : vR) (l v : Int) : vR := (R.1, R.2.1, (fun k => if k = l then v else R.2.2.1 k), R.2.2.2)
def vSd (R : vR) (v : Int) : vR := (R.1, R.2.1, R.2.2.1, v, R.2.2.2.2)
def vSr (R : vR) (v : Int) : vR := (R.1, R.2.1, R.2.2.1, R.2.2.2.1, v, R.2.2.2.2.2)
def vSy (R : vR) (v : Int) : vR := (R.1, R.2.1, R.2.2.1, R.2.2.2.1, R.2.2.2.2.1, v)
section ROWS
variable {M M1 : am_M} {P : vP} {R : vR} {B : Int} {b : Nat} {x : Int}
theorem cP_fr {lo hi : Nat} (h : fr lo hi M M1) (hl : 6 < lo) (cp : cP P M) : cP P M1 :=
  ⟨(h 2 (by omega) 0).trans cp.1, (h 2 (by omega) 1).trans cp.2.1, fun l a c => ⟨(h 5 (by omega) l).trans (cp.2.2.1 l a c).1, (h 4 (by omega) l).trans (cp.2.2.1 l a c).2⟩, fun l k a c d e => (h 6 (by omega) _).trans (cp.2.2.2 l k a c d e)⟩
theorem mP_fr (h : ∀ k, k = 164 ∨ k = 168 ∨ k = 169 ∨ k = 170 → ∀ j, M1 k j = M k j) (mp : mP P M) : mP P M1 :=
  ⟨(h 164 (by omega) 6).trans mp.1, (h 164 (by omega) 8).trans mp.2.1, fun l a c => ⟨(h 169 (by omega) l).trans (mp.2.2.1 l a c).1, (h 170 (by omega) l).trans (mp.2.2.1 l a c).2⟩, fun l k a c d e => (h 168 (by omega) _).trans (mp.2.2.2 l k a c d e)⟩
theorem cR_fr (h : ∀ k, b ≤ k → k ≤ b + 3 → ∀ j, M1 k j = M k j) (cr : cR P R b M) : cR P R b M1 :=
  ⟨fun p q a c d e => (h _ (by omega) (by omega) _).trans (cr.1 p q a c d e), fun p a c => (h _ (by omega) (by omega) _).trans (cr.2.1 p a c), fun l a c => (h _ (by omega) (by omega) _).trans (cr.2.2.1 l a c), (h _ (by omega) (by omega) _).trans cr.2.2.2.1, (h _ (by omega) (by omega) _).trans cr.2.2.2.2.1, (h _ (by omega) (by omega) _).trans cr.2.2.2.2.2⟩
theorem mR_fr (hP : okP P) (h : ∀ j, x ≤ j → j < x + 81 → M1 165 j = M 165 j) (mr : mR P R x M) : mR P R x M1 := by
  have hP1 := hP.1
  have hP2 := hP.2.1
  have hP3 := hP.2.2.1
  have hP4 := hP.2.2.2.1
  exact ⟨fun p q a c d e => (h _ (by omega) (by omega)).trans (mr.1 p q a c d e), fun p a c => (h _ (by omega) (by omega)).trans (mr.2.1 p a c), fun l a c => (h _ (by omega) (by omega)).trans (mr.2.2.1 l a c), (h _ (by omega) (by omega)).trans mr.2.2.2.1, (h _ (by omega) (by omega)).trans mr.2.2.2.2.1, (h _ (by omega) (by omega)).trans mr.2.2.2.2.2⟩
theorem cR_Sg (cr : cR P R b M) (p v : Int) : cR P (vSg R p v) b (am_wr M (b + 2) p v) := by
  refine ⟨fun a q h1 h2 h3 h4 => (am_wr_k (by omega)).trans (cr.1 a q h1 h2 h3 h4), fun a h1 h2 => ?_, fun l h1 h2 => (am_wr_k (by omega)).trans (cr.2.2.1 l h1 h2), (am_wr_k (by omega)).trans cr.2.2.2.1, (am_wr_k (by omega)).trans cr.2.2.2.2.1, (am_wr_k (by omega)).trans cr.2.2.2.2.2⟩
  show am_wr M (b + 2) p v (b + 2) a = if a = p then v else vgt R a
  by_cases h : a = p
  · rw [if_pos h, h, am_wr_s]
  · rw [if_neg h, am_wr_i h]; exact cr.2.1 a h1 h2
theorem cR_Sn (hP : okP P) (cr : cR P R b M) {p q : Int} (v : Int) (h1 : 0 ≤ p) (h2 : p < vnp P) (h3 : 0 ≤ q) (h4 : q < vnp P) : cR P (vSn R p q v) b (am_wr (am_wr M (b + 1) (p * 8 + q) v) (b + 1) (q * 8 + p) v) := by
  have hP1 := hP.1
  have hP2 := hP.2.1
  have hP3 := hP.2.2.1
  have hP4 := hP.2.2.2.1
  refine ⟨fun a c k1 k2 k3 k4 => ?_, fun a k1 k2 => ((am_wr_k (by omega)).trans (am_wr_k (by omega))).trans (cr.2.1 a k1 k2), fun l k1 k2 => ((am_wr_k (by omega)).trans (am_wr_k (by omega))).trans (cr.2.2.1 l k1 k2), ((am_wr_k (by omega)).trans (am_wr_k (by omega))).trans cr.2.2.2.1, ((am_wr_k (by omega)).trans (am_wr_k (by omega))).trans cr.2.2.2.2.1, ((am_wr_k (by omega)).trans (am_wr_k (by omega))).trans cr.2.2.2.2.2⟩
  show _ = if (a = p ∧ c = q) ∨ (a = q ∧ c = p) then v else vnr R a c
  by_cases h : (a = p ∧ c = q) ∨ (a = q ∧ c = p)
  · rw [if_pos h]
    rcases h with ⟨rfl, rfl⟩ | ⟨rfl, rfl⟩
    · by_cases e : a * 8 + c = c * 8 + a
      · rw [e, am_wr_s]
      · rw [am_wr_i e, am_wr_s]
    · rw [am_wr_s]
  · rw [if_neg h, am_wr_i (by omega), am_wr_i (by omega)]
    exact cr.1 a c k1 k2 k3 k4
theorem cR_Se (cr : cR P R b M) (l v : Int) : cR P (vSe R l v) b (am_wr M (b + 3) l v) := by
  refine ⟨fun a q h1 h2 h3 h4 => (am_wr_k (by omega)).trans (cr.1 a q h1 h2 h3 h4), fun a h1 h2 => (am_wr_k (by omega)).trans (cr.2.1 a h1 h2), fun a h1 h2 => ?_, (am_wr_k (by omega)).trans cr.2.2.2.1, (am_wr_k (by omega)).trans cr.2.2.2.2.1, (am_wr_k (by omega)).trans cr.2.2.2.2.2⟩
  show am_wr M (b + 3) l v (b + 3) a = if a = l then v else ven R a
  by_cases h : a = l
  · rw [if_pos h, h, am_wr_s]
  · rw [if_neg h, am_wr_i h]; exact cr.2.2.1 a h1 h2
theorem cR_Sd (cr : cR P R b M) (v : Int) : cR P (vSd R v) b (am_wr M b 4 v) :=
  ⟨fun a q h1 h2 h3 h4 => (am_wr_k (by omega)).trans (cr.1 a q h1 h2 h3 h4), fun a h1 h2 => (am_wr_k (by omega)).trans (cr.2.1 a h1 h2), fun l h1 h2 => (am_wr_k (by omega)).trans (cr.2.2.1 l h1 h2), am_wr_s, (am_wr_i (by omega)).trans cr.2.2.2.2.1, (am_wr_i (by omega)).trans cr.2.2.2.2.2⟩
theorem cR_Sr (cr : cR P R b M) (v : Int) : cR P (vSr R v) b (am_wr M b 5 v) :=
  ⟨fun a q h1 h2 h3 h4 => (am_wr_k (by omega)).trans (cr.1 a q h1 h2 h3 h4), fun a h1 h2 => (am_wr_k (by omega)).trans (cr.2.1 a h1 h2), fun l h1 h2 => (am_wr_k (by omega)).trans (cr.2.2.1 l h1 h2), (am_wr_i (by omega)).trans cr.2.2.2.1, am_wr_s, (am_wr_i (by omega)).trans cr.2.2.2.2.2⟩
theorem cR_Sy (cr : cR P R b M) (v : Int) : cR P (vSy R v) b (am_wr M b 6 v) :=
  ⟨fun a q h1 h2 h3 h4 => (am_wr_k (by omega)).trans (cr.1 a q h1 h2 h3 h4), fun a h1 h2 => (am_wr_k (by omega)).trans (cr.2.1 a h1 h2), fun l h1 h2 => (am_wr_k (by omega)).trans (cr.2.2.1 l h1 h2), (am_wr_i (by omega)).trans cr.2.2.2.1, (am_wr_i (by omega)).trans cr.2.2.2.2.1, am_wr_s⟩
theorem mR_Sg (hP : okP P) (mr : mR P R x M) {p : Int} (v : Int) (h0 : 0 ≤ p ∧ p < 8) : mR P (vSg R p v) x (am_wr M 165 (x + 64 + p) v) := by
  have hP1 := hP.1
  have hP2 := hP.2.1
  have hP3 := hP.2.2.1
  have hP4 := hP.2.2.2.1
  refine ⟨fun a q h1 h2 h3 h4 => (am_wr_i (by omega)).trans (mr.1 a q h1 h2 h3 h4), fun a h1 h2 => ?_, fun l h1 h2 => (am_wr_i (by omega)).trans (mr.2.2.1 l h1 h2), (am_wr_i (by omega)).trans mr.2.2.2.1, (am_wr_i (by omega)).trans mr.2.2.2.2.1, (am_wr_i (by omega)).trans mr.2.2.2.2.2⟩
  show am_wr M 165 (x + 64 + p) v 165 (x + 64 + a) = if a = p then v else vgt R a
  by_cases h : a = p
  · rw [if_pos h, h, am_wr_s]
  · rw [if_neg h, am_wr_i (by omega)]; exact mr.2.1 a h1 h2
theorem mR_Sn (hP : okP P) (mr : mR P R x M) {p q : Int} (v : Int) (h1 : 0 ≤ p) (h2 : p < vnp P) (h3 : 0 ≤ q) (h4 : q < vnp P) : mR P (vSn R p q v) x (am_wr (am_wr M 165 (x + 8 * p + q) v) 165 (x + 8 * q + p) v) := by
  have hP1 := hP.1
  have hP2 := hP.2.1
  have hP3 := hP.2.2.1
  have hP4 := hP.2.2.2.1
  refine ⟨fun a c k1 k2 k3 k4 => ?_, fun a k1 k2 => ((am_wr_i (by omega)).trans (am_wr_i (by omega))).trans (mr.2.1 a k1 k2), fun l k1 k2 => ((am_wr_i (by omega)).trans (am_wr_i (by omega))).trans (mr.2.2.1 l k1 k2), ((am_wr_i (by omega)).trans (am_wr_i (by omega))).trans mr.2.2.2.1, ((am_wr_i (by omega)).trans (am_wr_i (by omega))).trans mr.2.2.2.2.1, ((am_wr_i (by omega)).trans (am_wr_i (by omega))).trans mr.2.2.2.2.2⟩
  show _ = if (a = p ∧ c = q) ∨ (a = q ∧ c = p) then v else vnr R a c
  by_cases h : (a = p ∧ c = q) ∨ (a = q ∧ c = p)
  · rw [if_pos h]
    rcases h with ⟨rfl, rfl⟩ | ⟨rfl, rfl⟩
    · by_cases e : x + 8 * a + c = x + 8 * c + a
      · rw [e, am_wr_s]
      · rw [am_wr_i e, am_wr_s]
    · rw [am_wr_s]
  · rw [if_neg h, am_wr_i (by omega), am_wr_i (by omega)]
    exact mr.1 a c k1 k2 k3 k4
theorem mR_Se (hP : okP P) (mr : mR P R x M) {l : Int} (v : Int) (h0 : 0 ≤ l ∧ l < 6) : mR P (vSe R l v) x (am_wr M 165 (x + 72 + l) v) := by
  have hP1 := hP.1
  have hP2 := hP.2.1
  have hP3 := hP.2.2.1
  have hP4 := hP.2.2.2.1
  refine ⟨fun a q h1 h2 h3 h4 => (am_wr_i (by omega)).trans (mr.1 a q h1 h2 h3 h4), fun a h1 h2 => (am_wr_i (by omega)).trans (mr.2.1 a h1 h2), fun a h1 h2 => ?_, (am_wr_i (by omega)).trans mr.2.2.2.1, (am_wr_i (by omega)).trans mr.2.2.2.2.1, (am_wr_i (by omega)).trans mr.2.2.2.2.2⟩
  show am_wr M 165 (x + 72 + l) v 165 (x + 72 + a) = if a = l then v else ven R a
  by_cases h : a = l
  · rw [if_pos h, h, am_wr_s]
  · rw [if_neg h, am_wr_i (by omega)]; exact mr.2.2.1 a h1 h2
theorem mR_Sd (hP : okP P) (mr : mR P R x M) (v : Int) : mR P (vSd R v) x (am_wr M 165 (x + 78) v) := by
  have hP1 := hP.1
  have hP2 := hP.2.1
  have hP3 := hP.2.2.1
  have hP4 := hP.2.2.2.1
  exact ⟨fun a q h1 h2 h3 h4 => (am_wr_i (by omega)).trans (mr.1 a q h1 h2 h3 h4), fun a h1 h2 => (am_wr_i (by omega)).trans (mr.2.1 a h1 h2), fun l h1 h2 => (am_wr_i (by omega)).trans (mr.2.2.1 l h1 h2), am_wr_s, (am_wr_i (by omega)).trans mr.2.2.2.2.1, (am_wr_i (by omega)).trans mr.2.2.2.2.2⟩
theorem mR_Sr (hP : okP P) (mr : mR P R x M) (v : Int) : mR P (vSr R v) x (am_wr M 165 (x + 80) v) := by
  have hP1 := hP.1
  have hP2 := hP.2.1
  have hP3 := hP.2.2.1
  have hP4 := hP.2.2.2.1
  exact ⟨fun a q h1 h2 h3 h4 => (am_wr_i (by omega)).trans (mr.1 a q h1 h2 h3 h4), fun a h1 h2 => (am_wr_i (by omega)).trans (mr.2.1 a h1 h2), fun l h1 h2 => (am_wr_i (by omega)).trans (mr.2.2.1 l h1 h2), (am_wr_i (by omega)).trans mr.2.2.2.1, am_wr_s, (am_wr_i (by omega)).trans mr.2.2.2.2.2⟩
theorem mR_Sy (hP : okP P) (mr : mR P R x M) (v : Int) : mR P (vSy R v) x (am_wr M 165 (x + 79) v) := by
  have hP1 := hP.1
  have hP2 := hP.2.1
  have hP3 := hP.2.2.1
  have hP4 := hP.2.2.2.1
  exact ⟨fun a q h1 h2 h3 h4 => (am_wr_i (by omega)).trans (mr.1 a q h1 h2 h3 h4), fun a h1 h2 => (am_wr_i (by omega)).trans (mr.2.1 a h1 h2), fun l h1 h2 => (am_wr_i (by omega)).trans (mr.2.2.1 l h1 h2), (am_wr_i (by omega)).trans mr.2.2.2.1, (am_wr_i (by omega)).trans mr.2.2.2.2.1, am_wr_s⟩
theorem okR_Sg (hR : okR P B R) {p v : Int} (h : 0 ≤ v ∧ v < vnp P) : okR P B (vSg R p v) := by
  obtain ⟨a1, a2, a3⟩ := hR
  refine ⟨a1, fun q h1 h2 => ⟨(a2 q h1 h2).1, ?_⟩, a3⟩
  show 0 ≤ (if q = p then v else vgt R q) ∧ (if q = p then v else vgt R q) < vnp P
  by_cases hq : q = p
  · rw [if_pos hq]; exact h
  · rw [if_neg hq]; exact (a2 q h1 h2).2
theorem okR_Sn (hR : okR P B R) {p q v : Int} (hpq : p ≠ q) (h : 0 ≤ v ∧ v ≤ 9) : okR P B (vSn R p q v) := by
  obtain ⟨a1, a2, a3⟩ := hR
  refine ⟨fun a c h1 h2 h3 h4 => ?_, fun a h1 h2 => ⟨?_, (a2 a h1 h2).2⟩, a3⟩
  · have k := a1 a c h1 h2 h3 h4
    show 0 ≤ (if (a = p ∧ c = q) ∨ (a = q ∧ c = p) then v else vnr R a c) ∧ (if (a = p ∧ c = q) ∨ (a = q ∧ c = p) then v else vnr R a c) ≤ 9 ∧ (if (a = p ∧ c = q) ∨ (a = q ∧ c = p) then v else vnr R a c) = (if (c = p ∧ a = q) ∨ (c = q ∧ a = p) then v else vnr R c a)
    by_cases hq : (a = p ∧ c = q) ∨ (a = q ∧ c = p)
    · rw [if_pos hq, if_pos (by omega)]; exact ⟨h.1, h.2, rfl⟩
    · rw [if_neg hq, if_neg (by omega)]; exact k
  · show (if (a = p ∧ a = q) ∨ (a = q ∧ a = p) then v else vnr R a a) = 9
    rw [if_neg (by omega)]; exact (a2 a h1 h2).1
theorem okR_Sr {B' : Int} (hR : okR P B R) {v : Int} (h : 0 ≤ v ∧ v ≤ B' ∧ B ≤ B') : okR P B' (vSr R v) := by
  obtain ⟨a1, a2, a3, a4, a5, a6, a7, a8, a9, a10⟩ := hR
  have b1 := a10.1
  exact ⟨a1, a2, a3, a4, a5, a6, h.1, h.2.1, a9, (show vdy R ≤ 9030 + B' by omega), a10.2⟩
theorem okR_Sy (hR : okR P B R) {v : Int} (h : 0 ≤ v ∧ v ≤ 9030 + B) : okR P B (vSy R v) := by
  obtain ⟨a1, a2, a3, a4, a5, a6, a7, a8, a9, a10⟩ := hR
  exact ⟨a1, a2, a3, a4, a5, a6, a7, a8, h.1, h.2, a10.2⟩
theorem okR_Sd (hR : okR P B R) {v : Int} (h : 0 ≤ v ∧ v < 256) (h2 : ∀ p, vnp P ≤ p → p < 8 → am_and (am_shr v p) 1 = 0) : okR P B (vSd R v) := by
  obtain ⟨a1, a2, a3, a4, a5, a6, a7, a8, a9, a10⟩ := hR
  exact ⟨a1, a2, a3, a4, h.1, h.2, a7, a8, a9, a10.1, h2⟩
theorem okR_B {B' : Int} (hR : okR P B R) (h : B ≤ B') : okR P B' R := by
  obtain ⟨a1, a2, a3, a4, a5, a6, a7, a8, a9, a10⟩ := hR
  have b1 := a10.1
  exact ⟨a1, a2, a3, a4, a5, a6, a7, by omega, a9, by omega, a10.2⟩
end ROWS
