/-! RUNS: by fuel, then their limit, which satisfies its own equation -/
def am_in (z : Nat) (as : List am_V) (x : Option am_Z) : Option am_Z := match pg_aok z as with
  | true => x
  | false => none
theorem am_in_some {z : Nat} {as : List am_V} {x : Option am_Z} {r : am_Z} (h : am_in z as x = some r) : pg_aok z as = true ∧ x = some r := by
  unfold am_in at h
  cases hk : pg_aok z as with
  | true => rw [hk] at h; exact ⟨rfl, h⟩
  | false => rw [hk] at h; cases h
theorem am_in_t {z : Nat} {as : List am_V} {x : Option am_Z} (h : pg_aok z as = true) : am_in z as x = x := by unfold am_in; rw [h]
noncomputable def am_run : Nat → Nat → am_J
  | 0, _, _, _, _, _, _ => none
  | f + 1, z, pc, ls, st, S, M => match pg_blk z pc with
    | none => none
    | some is => am_RB (am_run f z) (fun z as S M => am_in z as (am_run f z 0 (pg_ent z as) [] S M)) is pc ls st S M
noncomputable def am_lim (g : Nat → Option am_Z) : Option am_Z := @dite _ (∃ (f : Nat) (r : am_Z), g f = some r) (Classical.propDecidable _) (fun h => some (Classical.choose (Classical.choose_spec h))) (fun _ => none)
theorem am_lim_none {g : Nat → Option am_Z} (h : ¬ ∃ (f : Nat) (r : am_Z), g f = some r) : am_lim g = none := by unfold am_lim; exact dif_neg h
theorem am_lim_ex {g : Nat → Option am_Z} {r : am_Z} (h : am_lim g = some r) : ∃ f, g f = some r := by
  by_cases hx : ∃ (f : Nat) (r : am_Z), g f = some r
  · unfold am_lim at h
    rw [dif_pos hx] at h
    have h1 := Classical.choose_spec (Classical.choose_spec hx)
    rw [Option.some.inj h] at h1
    exact ⟨_, h1⟩
  · rw [am_lim_none hx] at h; cases h
theorem am_lim_of {g : Nat → Option am_Z} (hm : ∀ (f f' : Nat) (r : am_Z), f ≤ f' → g f = some r → g f' = some r) {r : am_Z} {f : Nat} (h : g f = some r) : am_lim g = some r := by
  have hx : ∃ (f : Nat) (r : am_Z), g f = some r := ⟨f, r, h⟩
  unfold am_lim
  rw [dif_pos hx]
  have h1 := Classical.choose_spec (Classical.choose_spec hx)
  have a := hm _ (max f (Classical.choose hx)) _ (Nat.le_max_right _ _) h1
  have b := hm _ (max f (Classical.choose hx)) _ (Nat.le_max_left _ _) h
  rw [a] at b
  exact b
theorem am_then_some {o : Option am_Z} {f : Option am_V → am_S → am_M → Option am_Z} {r : am_Z} (h : am_then o f = some r) : ∃ v S M, o = some (v, S, M) ∧ f v S M = some r := by
  cases o with
  | none => cases h
  | some q => obtain ⟨v, S, M⟩ := q; exact ⟨v, S, M, rfl, h⟩
theorem am_cif_some {c : Prop} {x y : Option am_Z} {r : am_Z} (h : am_cif c x y = some r) : (c ∧ x = some r) ∨ (¬ c ∧ y = some r) := by
  by_cases hc : c
  · rw [am_cif_t hc] at h; exact Or.inl ⟨hc, h⟩
  · rw [am_cif_f hc] at h; exact Or.inr ⟨hc, h⟩
/-- more answers ahead: the same answer -/
theorem am_do_mono {J J' : am_J} {C C' : am_C} {K K' : am_L → am_K → am_S → am_M → Option am_Z} (hJ : ∀ pc ls st S M r, J pc ls st S M = some r → J' pc ls st S M = some r) (hC : ∀ z as S M r, C z as S M = some r → C' z as S M = some r) (hK : ∀ ls st S M r, K ls st S M = some r → K' ls st S M = some r)
    {nx : Nat} {ls : am_L} {S : am_S} {M : am_M} {a : am_A} {r : am_Z} (h : am_do J C K nx ls S M a = some r) : am_do J' C' K' nx ls S M a = some r := by
  match a, h with
  | .inl (ls', st', M'), h => exact hK _ _ _ _ _ h
  | .inr (.inl (c, t, ls', st')), h =>
    show am_cif c (J' t ls' st' S M) (K' ls' st' S M) = some r
    rcases am_cif_some (show am_cif c (J t ls' st' S M) (K ls' st' S M) = some r from h) with ⟨h1, h2⟩ | ⟨h1, h2⟩
    · rw [am_cif_t h1]; exact hJ _ _ _ _ _ _ h2
    · rw [am_cif_f h1]; exact hK _ _ _ _ _ h2
  | .inr (.inr (.inl (t, ls', st'))), h => exact hJ _ _ _ _ _ _ h
  | .inr (.inr (.inr (.inl v))), h => exact h
  | .inr (.inr (.inr (.inr (.inl (z, as, st'))))), h =>
    obtain ⟨v, S1, M1, h1, h2⟩ := am_then_some (show am_then (C z as S M) (fun r S' M' => J nx ls (am_push r st') S' M') = some r from h)
    show am_then (C' z as S M) (fun r S' M' => J' nx ls (am_push r st') S' M') = some r
    rw [hC _ _ _ _ _ h1]
    exact hJ _ _ _ _ _ _ h2
  | .inr (.inr (.inr (.inr (.inr (.inl (t, x, n, st')))))), h => exact hK _ _ _ _ _ h
  | .inr (.inr (.inr (.inr (.inr (.inr (k, j, v, st')))))), h => exact hK _ _ _ _ _ h
theorem am_RB_mono {J J' : am_J} {C C' : am_C} (hJ : ∀ pc ls st S M r, J pc ls st S M = some r → J' pc ls st S M = some r) (hC : ∀ z as S M r, C z as S M = some r → C' z as S M = some r) :
    ∀ (is : List am_E) (pc : Nat) (ls : am_L) (st : am_K) (S : am_S) (M : am_M) (r : am_Z), am_RB J C is pc ls st S M = some r → am_RB J' C' is pc ls st S M = some r := by
  intro is
  induction is with
  | nil => intro pc ls st S M r h; exact hJ _ _ _ _ _ _ h
  | cons e is ih =>
    intro pc ls st S M r h
    unfold am_RB am_fin at h ⊢
    cases hs : am_step e pc ls st S M with
    | inl a => rw [hs] at h; exact am_do_mono hJ hC (fun ls st S M r h => ih _ ls st S M r h) h
    | inr q =>
      obtain ⟨g, a⟩ := q
      rw [hs] at h
      obtain ⟨hg, h⟩ := am_ck_some (show am_ck g _ = some r from h)
      show am_ck g _ = some r
      rw [am_ck_t hg]
      exact am_do_mono hJ hC (fun ls st S M r h => ih _ ls st S M r h) h
theorem am_run_mono1 : ∀ (f z pc : Nat) (ls : am_L) (st : am_K) (S : am_S) (M : am_M) (r : am_Z), am_run f z pc ls st S M = some r → am_run (f + 1) z pc ls st S M = some r := by
  intro f
  induction f with
  | zero => intro z pc ls st S M r h; cases h
  | succ f ih =>
    intro z pc ls st S M r h
    unfold am_run at h ⊢
    cases hb : pg_blk z pc with
    | none => rw [hb] at h; cases h
    | some is =>
      rw [hb] at h
      exact am_RB_mono (fun pc ls st S M r h => ih z pc ls st S M r h) (fun z as S M r h => by obtain ⟨h1, h2⟩ := am_in_some h; exact (am_in_t h1).trans (ih z 0 _ _ S M r h2)) is pc ls st S M r h
theorem am_run_mono {f f' : Nat} (hf : f ≤ f') {z pc : Nat} {ls : am_L} {st : am_K} {S : am_S} {M : am_M} {r : am_Z} (h : am_run f z pc ls st S M = some r) : am_run f' z pc ls st S M = some r := by
  induction f' with
  | zero =>
    have : f = 0 := by omega
    rw [this] at h; exact h
  | succ f' ih =>
    rcases Nat.lt_or_ge f' f with h1 | h1
    · have : f = f' + 1 := by omega
      rw [this] at h; exact h
    · exact am_run_mono1 _ _ _ _ _ _ _ _ (ih h1)
/-- the run without fuel -/
noncomputable def am_R (z pc : Nat) (ls : am_L) (st : am_K) (S : am_S) (M : am_M) : Option am_Z := am_lim (fun f => am_run f z pc ls st S M)
noncomputable def am_call (z : Nat) (as : List am_V) (S : am_S) (M : am_M) : Option am_Z := am_in z as (am_R z 0 (pg_ent z as) [] S M)
theorem am_R_of {f z pc : Nat} {ls : am_L} {st : am_K} {S : am_S} {M : am_M} {r : am_Z} (h : am_run f z pc ls st S M = some r) : am_R z pc ls st S M = some r := am_lim_of (fun _ _ _ hf h => am_run_mono hf h) h
theorem am_R_ex {z pc : Nat} {ls : am_L} {st : am_K} {S : am_S} {M : am_M} {r : am_Z} (h : am_R z pc ls st S M = some r) : ∃ f, am_run f z pc ls st S M = some r := am_lim_ex h
/-- a block over the limits comes to its end over some fuel -/
theorem am_do_cont {z nx : Nat} {ls : am_L} {S : am_S} {M : am_M} {a : am_A} {r : am_Z} {K : am_L → am_K → am_S → am_M → Option am_Z} {K' : Nat → am_L → am_K → am_S → am_M → Option am_Z} (hK : ∀ ls st S M r, K ls st S M = some r → ∃ f, K' f ls st S M = some r) (hm : ∀ f f' ls st S M r, f ≤ f' → K' f ls st S M = some r → K' f' ls st S M = some r)
    (h : am_do (am_R z) am_call K nx ls S M a = some r) : ∃ f, am_do (am_run f z) (fun z as S M => am_in z as (am_run f z 0 (pg_ent z as) [] S M)) (K' f) nx ls S M a = some r := by
  match a, h with
  | .inl (ls', st', M'), h => exact hK _ _ _ _ _ h
  | .inr (.inl (c, t, ls', st')), h =>
    rcases am_cif_some (show am_cif c (am_R z t ls' st' S M) (K ls' st' S M) = some r from h) with ⟨h1, h2⟩ | ⟨h1, h2⟩
    · obtain ⟨f, hf⟩ := am_R_ex h2
      refine ⟨f, ?_⟩
      show am_cif c _ _ = some r
      rw [am_cif_t h1]; exact hf
    · obtain ⟨f, hf⟩ := hK _ _ _ _ _ h2
      refine ⟨f, ?_⟩
      show am_cif c _ _ = some r
      rw [am_cif_f h1]; exact hf
  | .inr (.inr (.inl (t, ls', st'))), h => exact am_R_ex h
  | .inr (.inr (.inr (.inl v))), h => exact ⟨0, h⟩
  | .inr (.inr (.inr (.inr (.inl (y, as, st'))))), h =>
    obtain ⟨v, S1, M1, h1, h2⟩ := am_then_some (show am_then (am_call y as S M) (fun r S' M' => am_R z nx ls (am_push r st') S' M') = some r from h)
    obtain ⟨h0, h1⟩ := am_in_some h1
    obtain ⟨f1, hf1⟩ := am_R_ex h1
    obtain ⟨f2, hf2⟩ := am_R_ex h2
    refine ⟨max f1 f2, ?_⟩
    show am_then (am_in y as (am_run (max f1 f2) y 0 (pg_ent y as) [] S M)) (fun r S' M' => am_run (max f1 f2) z nx ls (am_push r st') S' M') = some r
    rw [am_in_t h0, am_run_mono (Nat.le_max_left f1 f2) hf1]
    exact am_run_mono (Nat.le_max_right f1 f2) hf2
  | .inr (.inr (.inr (.inr (.inr (.inl (t, x, n, st')))))), h => exact hK _ _ _ _ _ h
  | .inr (.inr (.inr (.inr (.inr (.inr (k, j, v, st')))))), h => exact hK _ _ _ _ _ h
theorem am_RB_cont (z : Nat) : ∀ (is : List am_E) (pc : Nat) (ls : am_L) (st : am_K) (S : am_S) (M : am_M) (r : am_Z), am_RB (am_R z) am_call is pc ls st S M = some r → ∃ f, am_RB (am_run f z) (fun z as S M => am_in z as (am_run f z 0 (pg_ent z as) [] S M)) is pc ls st S M = some r := by
  intro is
  induction is with
  | nil => intro pc ls st S M r h; exact am_R_ex h
  | cons e is ih =>
    intro pc ls st S M r h
    have hm : ∀ (f f' : Nat) (ls : am_L) (st : am_K) (S : am_S) (M : am_M) (r : am_Z), f ≤ f' → am_RB (am_run f z) (fun z as S M => am_in z as (am_run f z 0 (pg_ent z as) [] S M)) is (pc + e.2.1) ls st S M = some r → am_RB (am_run f' z) (fun z as S M => am_in z as (am_run f' z 0 (pg_ent z as) [] S M)) is (pc + e.2.1) ls st S M = some r :=
      fun f f' ls st S M r hf h => am_RB_mono (fun _ _ _ _ _ _ h => am_run_mono hf h) (fun _ _ _ _ _ h => by obtain ⟨h1, h2⟩ := am_in_some h; exact (am_in_t h1).trans (am_run_mono hf h2)) is _ ls st S M r h
    unfold am_RB am_fin at h
    cases hs : am_step e pc ls st S M with
    | inl a =>
      rw [hs] at h
      obtain ⟨f, hf⟩ := am_do_cont (K' := fun f ls st S M => am_RB (am_run f z) (fun z as S M => am_in z as (am_run f z 0 (pg_ent z as) [] S M)) is (pc + e.2.1) ls st S M) (fun ls st S M r h => ih _ ls st S M r h) hm h
      refine ⟨f, ?_⟩
      unfold am_RB am_fin
      rw [hs]; exact hf
    | inr q =>
      obtain ⟨g, a⟩ := q
      rw [hs] at h
      obtain ⟨hg, h⟩ := am_ck_some (show am_ck g _ = some r from h)
      obtain ⟨f, hf⟩ := am_do_cont (K' := fun f ls st S M => am_RB (am_run f z) (fun z as S M => am_in z as (am_run f z 0 (pg_ent z as) [] S M)) is (pc + e.2.1) ls st S M) (fun ls st S M r h => ih _ ls st S M r h) hm h
      refine ⟨f, ?_⟩
      unfold am_RB am_fin
      rw [hs]
      show am_ck g _ = some r
      rw [am_ck_t hg]; exact hf
/-- THE EQUATION OF A RUN, block by block -/
theorem am_at {z pc : Nat} {is : List am_E} (hb : pg_blk z pc = some is) (ls : am_L) (st : am_K) (S : am_S) (M : am_M) : am_R z pc ls st S M = am_RB (am_R z) am_call is pc ls st S M := by
  have h1 : ∀ r, am_RB (am_R z) am_call is pc ls st S M = some r → am_R z pc ls st S M = some r := by
    intro r h
    obtain ⟨f, hf⟩ := am_RB_cont z is pc ls st S M r h
    refine am_R_of (f := f + 1) ?_
    unfold am_run
    rw [hb]; exact hf
  have h2 : ∀ r, am_R z pc ls st S M = some r → am_RB (am_R z) am_call is pc ls st S M = some r := by
    intro r h
    obtain ⟨f, hf⟩ := am_R_ex h
    cases f with
    | zero => cases hf
    | succ f =>
      unfold am_run at hf
      rw [hb] at hf
      exact am_RB_mono (fun _ _ _ _ _ _ h => am_R_of h) (fun _ _ _ _ _ h => by obtain ⟨h1, h2⟩ := am_in_some h; exact (am_in_t h1).trans (am_R_of h2)) is pc ls st S M r hf
  cases hx : am_RB (am_R z) am_call is pc ls st S M with
  | some r => exact h1 r hx
  | none =>
    cases hy : am_R z pc ls st S M with
    | none => rfl
    | some r => rw [h2 r hy] at hx; cases hx
theorem am_call_eq {z : Nat} {as : List am_V} (h : pg_aok z as = true) (S : am_S) (M : am_M) : am_call z as S M = am_R z 0 (pg_ent z as) [] S M := am_in_t h
