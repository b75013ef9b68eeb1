/-! growth, inversion, and the block's walk -/
def am_gr (S : am_S) (r : am_Z) : Prop := am_n S ≤ am_n r.2.1 ∧ am_sl S ≤ am_sl r.2.1 ∧ r.2.1.1 = S.1
theorem am_do_gr {J : am_J} {C : am_C} {K : am_L → am_K → am_S → am_M → Option am_Z} (hJ : ∀ pc ls st S M r, J pc ls st S M = some r → am_gr S r) (hC : ∀ z as S M r, C z as S M = some r → am_gr S r) (hK : ∀ ls st S M r, K ls st S M = some r → am_gr S r)
    {nx : Nat} {ls : am_L} {S : am_S} {M : am_M} {a : am_A} {r : am_Z} (h : am_do J C K nx ls S M a = some r) : am_gr S r := by
  match a, h with
  | .inl (ls', st', M'), h => exact hK _ _ _ _ _ h
  | .inr (.inl (c, t, ls', st')), h =>
    rcases am_cif_some (show am_cif c (J t ls' st' S M) (K ls' st' S M) = some r from h) with ⟨-, h2⟩ | ⟨-, h2⟩
    · exact hJ _ _ _ _ _ _ h2
    · exact hK _ _ _ _ _ h2
  | .inr (.inr (.inl (t, ls', st'))), h => exact hJ _ _ _ _ _ _ h
  | .inr (.inr (.inr (.inl v))), h =>
    have h : some (v, S, M) = some r := h
    cases h
    exact ⟨Nat.le_refl _, Nat.le_refl _, rfl⟩
  | .inr (.inr (.inr (.inr (.inl (y, as, st'))))), h =>
    obtain ⟨v, S1, M1, h1, h2⟩ := am_then_some (show am_then (C y as S M) (fun r S' M' => J nx ls (am_push r st') S' M') = some r from h)
    have g1 := hC _ _ _ _ _ h1
    have g2 := hJ _ _ _ _ _ _ h2
    exact ⟨Nat.le_trans g1.1 g2.1, Nat.le_trans g1.2.1 g2.2.1, g2.2.2.trans g1.2.2⟩
  | .inr (.inr (.inr (.inr (.inr (.inl (t, x, n, st')))))), h =>
    have g := hK _ _ _ _ _ h
    exact ⟨Nat.le_trans (Nat.le_succ _) g.1, Nat.le_trans (Nat.le_add_right _ n) g.2.1, g.2.2⟩
  | .inr (.inr (.inr (.inr (.inr (.inr (k, j, v, st')))))), h =>
    have g := hK _ _ _ _ _ h
    exact ⟨g.1, g.2.1, g.2.2⟩
theorem am_RB_gr {J : am_J} {C : am_C} (hJ : ∀ pc ls st S M r, J pc ls st S M = some r → am_gr S r) (hC : ∀ z as S M r, C z as S M = some r → am_gr S r) :
    ∀ (is : List am_E) (pc : Nat) (ls : am_L) (st : am_K) (S : am_S) (M : am_M) (r : am_Z), am_RB J C is pc ls st S M = some r → am_gr S r := by
  intro is
  induction is with
  | nil => intro pc ls st S M r h; exact hJ _ _ _ _ _ _ h
  | cons e is ih =>
    intro pc ls st S M r h
    unfold am_RB am_fin at h
    cases hs : am_step e pc ls st S M with
    | inl a => rw [hs] at h; exact am_do_gr hJ hC (fun ls st S M r h => ih _ ls st S M r h) h
    | inr q =>
      obtain ⟨g, a⟩ := q
      rw [hs] at h
      exact am_do_gr hJ hC (fun ls st S M r h => ih _ ls st S M r h) (am_ck_some (show am_ck g _ = some r from h)).2
theorem am_run_gr : ∀ (f z pc : Nat) (ls : am_L) (st : am_K) (S : am_S) (M : am_M) (r : am_Z), am_run f z pc ls st S M = some r → am_gr S r := by
  intro f
  induction f with
  | zero => intro z pc ls st S M r h; cases h
  | succ f ih =>
    intro z pc ls st S M r h
    unfold am_run at h
    cases hb : pg_blk z pc with
    | none => rw [hb] at h; cases h
    | some is =>
      rw [hb] at h
      exact am_RB_gr (fun pc ls st S M r h => ih z pc ls st S M r h) (fun z as S M r h => ih z 0 _ _ S M r (am_in_some h).2) is pc ls st S M r h
section AMI
variable {J : am_J} {C : am_C} {K : am_L → am_K → am_S → am_M → Option am_Z} {nx : Nat} {ls0 : am_L} {S0 : am_S} {M0 : am_M} {st : am_K} {r : am_Z}
theorem am_bad_some {P : Prop} (h : am_fin J C K nx ls0 S0 M0 am_bad = some r) : P := (am_ck_some (show am_ck False _ = some r from h)).1.elim
theorem am_p1_some {F : Int → am_K → am_T} (h : am_fin J C K nx ls0 S0 M0 (am_p1 st F) = some r) : ∃ x t, st = am_i x :: t ∧ am_fin J C K nx ls0 S0 M0 (F x t) = some r := by
  unfold am_p1 at h
  split at h
  · exact ⟨_, _, rfl, h⟩
  · exact am_bad_some h
theorem am_p2_some {F : Int → Int → am_K → am_T} (h : am_fin J C K nx ls0 S0 M0 (am_p2 st F) = some r) : ∃ x y t, st = am_i y :: am_i x :: t ∧ am_fin J C K nx ls0 S0 M0 (F x y t) = some r := by
  unfold am_p2 at h
  split at h
  · exact ⟨_, _, _, rfl, h⟩
  · exact am_bad_some h
theorem am_w1_some {F : Int → am_K → am_T} (h : am_fin J C K nx ls0 S0 M0 (am_w1 st F) = some r) : ∃ x t, st = am_l x :: t ∧ am_fin J C K nx ls0 S0 M0 (F x t) = some r := by
  unfold am_w1 at h
  split at h
  · exact ⟨_, _, rfl, h⟩
  · exact am_bad_some h
theorem am_w2_some {F : Int → Int → am_K → am_T} (h : am_fin J C K nx ls0 S0 M0 (am_w2 st F) = some r) : ∃ x y t, st = am_l y :: am_l x :: t ∧ am_fin J C K nx ls0 S0 M0 (F x y t) = some r := by
  unfold am_w2 at h
  split at h
  · exact ⟨_, _, _, rfl, h⟩
  · exact am_bad_some h
theorem am_pr_some {F : Nat → am_K → am_T} (h : am_fin J C K nx ls0 S0 M0 (am_pr st F) = some r) : ∃ x t, st = am_r x :: t ∧ am_fin J C K nx ls0 S0 M0 (F x t) = some r := by
  unfold am_pr at h
  split at h
  · exact ⟨_, _, rfl, h⟩
  · exact am_bad_some h
theorem am_ld_some {ls : am_L} {a : Nat} {F : am_V → am_T} (h : am_fin J C K nx ls0 S0 M0 (am_ld ls a F) = some r) : ∃ x, ls[a]? = some (some x) ∧ am_fin J C K nx ls0 S0 M0 (F x) = some r := by
  unfold am_ld at h
  split at h
  · rename_i x hx
    exact ⟨x, hx, h⟩
  · exact am_bad_some h
theorem am_if_some {c : Prop} [Decidable c] {x y : am_T} (h : am_fin J C K nx ls0 S0 M0 (if c then x else y) = some r) : (c ∧ am_fin J C K nx ls0 S0 M0 x = some r) ∨ (¬ c ∧ am_fin J C K nx ls0 S0 M0 y = some r) := by
  by_cases hc : c
  · rw [if_pos hc] at h; exact Or.inl ⟨hc, h⟩
  · rw [if_neg hc] at h; exact Or.inr ⟨hc, h⟩
theorem am_gd_some {g : Prop} {a : am_A} (h : am_fin J C K nx ls0 S0 M0 (.inr (g, a)) = some r) : g ∧ am_do J C K nx ls0 S0 M0 a = some r := am_ck_some (show am_ck g _ = some r from h)
theorem am_br_some {c : Prop} {t : Nat} {ls : am_L} (h : am_do J C K nx ls0 S0 M0 (am_br c t ls st) = some r) : (c → J t ls st S0 M0 = some r) ∧ (¬ c → K ls st S0 M0 = some r) := by
  rcases am_cif_some (show am_cif c (J t ls st S0 M0) (K ls st S0 M0) = some r from h) with ⟨h1, h2⟩ | ⟨h1, h2⟩
  · exact ⟨fun _ => h2, fun q => absurd h1 q⟩
  · exact ⟨fun q => absurd q h1, fun _ => h2⟩
end AMI
theorem sm_or {a : Prop} (h : false = true ∨ a) : a := h.resolve_left (fun h => Bool.noConfusion h)
/-- a method's end -/
def sm_Rt (p : Program) (l : Launch) (e : Env) (R : Room) (s : State) (m : MethodId) (args : Array Value) (below : List Frame) (meth : Method) (c : Code) (Q : State → Prop) (G : sm_G) (z : Nat) (S0 : am_S) (Fin : am_Z) : Prop :=
  ∀ (pc : Nat) (H : Heap) (locs : List Loc) (A : Array Slot), va_P G.1 pg_cls (sm_w G Fin.2.1 Fin.2.2) H → H.size = sm_b G + am_n Fin.2.1 + 1 → va_S (sm_A G) s.heap H locs →
    (∀ x : Int, Fin.1 = some (am_i x) → ((pg_rt z = some .boolean ∧ (x = 0 ∨ x = 1)) ∨ pg_rt z = some .int) → decode (pg_c z) pc = .ok (.ireturn, 1) → W p l e R s m args below meth c H locs (am_n Fin.2.1 - am_n S0) (am_sl Fin.2.1 - am_sl S0) Q (F0 m pc A [.int (Int32.ofInt x)])) ∧
    (Fin.1 = none → pg_rt z = none → decode (pg_c z) pc = .ok (.return_, 1) → W p l e R s m args below meth c H locs (am_n Fin.2.1 - am_n S0) (am_sl Fin.2.1 - am_sl S0) Q (F0 m pc A []))
section SM5
variable {p : Program} {l : Launch} {e : Env} {R : Room} {s : State} {m : MethodId} {args : Array Value} {below : List Frame} {meth : Method} {c : Code} {Q : State → Prop} {G : sm_G} {z : Nat} {S0 : am_S} {Fin : am_Z}
set_option maxHeartbeats 4000000 in
theorem sm_RB {J : am_J} {Cc : am_C} (C : sm_C p R s m meth c G z S0 Fin) (hR : sm_Rt p l e R s m args below meth c Q G z S0 Fin)
    (hJ : ∀ pc ls st S M, J pc ls st S M = some Fin → sm_W p l e R s m args below meth c Q G z S0 pc ls st S M) (hJg : ∀ pc ls st S M r, J pc ls st S M = some r → am_gr S r) (hC : ∀ y as S M r, Cc y as S M = some r → y < 179 → pg_ht y < pg_ht z → sm_Met l G y as S M r) (hCg : ∀ y as S M r, Cc y as S M = some r → am_gr S r) :
    ∀ (is : List am_E) (pc : Nat) (ls : am_L) (st : am_K) (S : am_S) (M : am_M), pg_okL z pc is = true → am_RB J Cc is pc ls st S M = some Fin → sm_W p l e R s m args below meth c Q G z S0 pc ls st S M := by
  intro is
  induction is with
  | nil => intro pc ls st S M _ h; exact hJ pc ls st S M h
  | cons e0 is ih =>
    obtain ⟨i, n, a, b, v⟩ := e0
    intro pc ls st S M hok h
    change (pg_okE z pc (i, n, a, b, v) && pg_okL z (pc + n) is) = true at hok
    rw [Bool.and_eq_true] at hok
    obtain ⟨hE, hL⟩ := hok
    change (decide (decode (pg_c z) pc = .ok (i, n)) && (pg_isT i || decide (n = pg_len i)) && pg_okA z pc (i, n, a, b, v)) = true at hE
    simp only [Bool.and_eq_true, Bool.or_eq_true, decide_eq_true_eq] at hE
    obtain ⟨⟨hd, hn⟩, hA⟩ := hE
    have hK : ∀ ls st S M, am_RB J Cc is (pc + n) ls st S M = some Fin → sm_W p l e R s m args below meth c Q G z S0 (pc + n) ls st S M := fun ls st S M h => ih (pc + n) ls st S M hL h
    have hKg : ∀ ls st S M r, am_RB J Cc is (pc + n) ls st S M = some r → am_gr S r := fun ls st S M r h => am_RB_gr hJg hCg is (pc + n) ls st S M r h
    clear ih hL
    change am_fin J Cc (fun ls st S M => am_RB J Cc is (pc + n) ls st S M) (pc + n) ls S M (am_step (i, n, a, b, v) pc ls st S M) = some Fin at h
    cases i
    case iconst k => obtain rfl : n = 1 := sm_or hn; exact sm_iconst C hd (of_decide_eq_true hA) (hK _ _ _ _ h)
    case bipush k => obtain rfl : n = 2 := sm_or hn; exact sm_bipush C hd (of_decide_eq_true hA) (hK _ _ _ _ h)
    case sipush k => obtain rfl : n = 3 := sm_or hn; exact sm_sipush C hd (of_decide_eq_true hA) (hK _ _ _ _ h)
    case ldc k => obtain rfl : n = 2 := sm_or hn; exact sm_ldc C hd hA (hK _ _ _ _ h)
    case ldc_w k => obtain rfl : n = 3 := sm_or hn; exact sm_ldcw C hd hA (hK _ _ _ _ h)
    case ldc2_w k => obtain rfl : n = 3 := sm_or hn; exact sm_ldc2 C hd hA (hK _ _ _ _ h)
    case lconst k => obtain rfl : n = 1 := sm_or hn; exact sm_lconst C hd (of_decide_eq_true hA) (hK _ _ _ _ h)
    case iload_n k =>
      obtain rfl : n = 1 := sm_or hn
      obtain ⟨x, hx, h⟩ := am_ld_some h
      match x, hx, h with
      | .inl x, hx, h => exact sm_iload_n C hd (of_decide_eq_true hA) hx (hK _ _ _ _ h)
      | .inr x, hx, h => exact am_bad_some h
    case iload k =>
      obtain rfl : n = 2 := sm_or hn
      obtain ⟨x, hx, h⟩ := am_ld_some h
      match x, hx, h with
      | .inl x, hx, h => exact sm_iload C hd (of_decide_eq_true hA) hx (hK _ _ _ _ h)
      | .inr x, hx, h => exact am_bad_some h
    case lload_n k =>
      obtain rfl : n = 1 := sm_or hn
      obtain ⟨x, hx, h⟩ := am_ld_some h
      match x, hx, h with
      | .inl x, hx, h => exact am_bad_some h
      | .inr (.inl x), hx, h => exact sm_lload_n C hd (of_decide_eq_true hA) hx (hK _ _ _ _ h)
      | .inr (.inr x), hx, h => exact am_bad_some h
    case lload k =>
      obtain rfl : n = 2 := sm_or hn
      obtain ⟨x, hx, h⟩ := am_ld_some h
      match x, hx, h with
      | .inl x, hx, h => exact am_bad_some h
      | .inr (.inl x), hx, h => exact sm_lload C hd (of_decide_eq_true hA) hx (hK _ _ _ _ h)
      | .inr (.inr x), hx, h => exact am_bad_some h
    case aload_n k =>
      obtain rfl : n = 1 := sm_or hn
      obtain ⟨x, hx, h⟩ := am_ld_some h
      match x, hx, h with
      | .inl x, hx, h => exact am_bad_some h
      | .inr (.inl x), hx, h => exact am_bad_some h
      | .inr (.inr x), hx, h => exact sm_aload_n C hd (of_decide_eq_true hA) hx (hK _ _ _ _ h)
    case istore_n k =>
      obtain rfl : n = 1 := sm_or hn
      obtain ⟨x, t, rfl, h⟩ := am_p1_some h
      have hA : (decide ((k : Nat) = a) && pg_s1 z a) = true := hA
      rw [Bool.and_eq_true] at hA
      exact sm_istore_n C hd (of_decide_eq_true hA.1) hA.2 (hK _ _ _ _ h)
    case istore k =>
      obtain rfl : n = 2 := sm_or hn
      obtain ⟨x, t, rfl, h⟩ := am_p1_some h
      have hA : (decide (k = a) && pg_s1 z a) = true := hA
      rw [Bool.and_eq_true] at hA
      exact sm_istore C hd (of_decide_eq_true hA.1) hA.2 (hK _ _ _ _ h)
    case astore_n k =>
      obtain rfl : n = 1 := sm_or hn
      obtain ⟨x, t, rfl, h⟩ := am_pr_some h
      obtain ⟨hx, h⟩ := am_gd_some h
      have hA : (decide ((k : Nat) = a) && pg_s1 z a) = true := hA
      rw [Bool.and_eq_true] at hA
      exact sm_astore_n C hx hd (of_decide_eq_true hA.1) hA.2 (hK _ _ _ _ h)
    case lstore_n k =>
      obtain rfl : n = 1 := sm_or hn
      obtain ⟨x, t, rfl, h⟩ := am_w1_some h
      have hA : (decide ((k : Nat) = a) && decide (a + 1 < pg_mx z) && (pg_lg z).contains a && (decide (a = 0) || !(pg_lg z).contains (a - 1))) = true := hA
      simp only [Bool.and_eq_true, decide_eq_true_eq, Bool.or_eq_true, Bool.not_eq_true', List.contains_eq_mem, decide_eq_false_iff_not] at hA
      exact sm_lstore_n C hd hA.1.1.1 hA.1.1.2 hA.1.2 hA.2 (hK _ _ _ _ h)
    case iinc k q =>
      obtain rfl : n = 3 := sm_or hn
      obtain ⟨x, hx, h⟩ := am_ld_some h
      have hA : (decide (k = a) && decide (q = v) && pg_s1 z a) = true := hA
      simp only [Bool.and_eq_true, decide_eq_true_eq] at hA
      match x, hx, h with
      | .inl x, hx, h => exact sm_iinc C hd hA.1.1 hA.1.2 hA.2 hx (hK _ _ _ _ h)
      | .inr x, hx, h => exact am_bad_some h
    case iadd => obtain rfl : n = 1 := sm_or hn; obtain ⟨x, y, t, rfl, h⟩ := am_p2_some h; exact sm_iadd C hd (hK _ _ _ _ h)
    case isub => obtain rfl : n = 1 := sm_or hn; obtain ⟨x, y, t, rfl, h⟩ := am_p2_some h; exact sm_isub C hd (hK _ _ _ _ h)
    case imul => obtain rfl : n = 1 := sm_or hn; obtain ⟨x, y, t, rfl, h⟩ := am_p2_some h; exact sm_imul C hd (hK _ _ _ _ h)
    case idiv => obtain rfl : n = 1 := sm_or hn; obtain ⟨x, y, t, rfl, h⟩ := am_p2_some h; obtain ⟨hg, h⟩ := am_gd_some h; exact sm_idiv C hg hd (hK _ _ _ _ h)
    case irem => obtain rfl : n = 1 := sm_or hn; obtain ⟨x, y, t, rfl, h⟩ := am_p2_some h; obtain ⟨hg, h⟩ := am_gd_some h; exact sm_irem C hg hd (hK _ _ _ _ h)
    case iand => obtain rfl : n = 1 := sm_or hn; obtain ⟨x, y, t, rfl, h⟩ := am_p2_some h; exact sm_iand C hd (hK _ _ _ _ h)
    case ior => obtain rfl : n = 1 := sm_or hn; obtain ⟨x, y, t, rfl, h⟩ := am_p2_some h; exact sm_ior C hd (hK _ _ _ _ h)
    case ixor => obtain rfl : n = 1 := sm_or hn; obtain ⟨x, y, t, rfl, h⟩ := am_p2_some h; exact sm_ixor C hd (hK _ _ _ _ h)
    case ishl => obtain rfl : n = 1 := sm_or hn; obtain ⟨x, y, t, rfl, h⟩ := am_p2_some h; exact sm_ishl C hd (hK _ _ _ _ h)
    case ishr => obtain rfl : n = 1 := sm_or hn; obtain ⟨x, y, t, rfl, h⟩ := am_p2_some h; exact sm_ishr C hd (hK _ _ _ _ h)
    case iushr => obtain rfl : n = 1 := sm_or hn; obtain ⟨x, y, t, rfl, h⟩ := am_p2_some h; exact sm_iushr C hd (hK _ _ _ _ h)
    case ladd => obtain rfl : n = 1 := sm_or hn; obtain ⟨x, y, t, rfl, h⟩ := am_w2_some h; exact sm_ladd C hd (hK _ _ _ _ h)
    case lmul => obtain rfl : n = 1 := sm_or hn; obtain ⟨x, y, t, rfl, h⟩ := am_w2_some h; exact sm_lmul C hd (hK _ _ _ _ h)
    case ldiv => obtain rfl : n = 1 := sm_or hn; obtain ⟨x, y, t, rfl, h⟩ := am_w2_some h; obtain ⟨hg, h⟩ := am_gd_some h; exact sm_ldiv C hg hd (hK _ _ _ _ h)
    case lrem => obtain rfl : n = 1 := sm_or hn; obtain ⟨x, y, t, rfl, h⟩ := am_w2_some h; obtain ⟨hg, h⟩ := am_gd_some h; exact sm_lrem C hg hd (hK _ _ _ _ h)
    case lcmp => obtain rfl : n = 1 := sm_or hn; obtain ⟨x, y, t, rfl, h⟩ := am_w2_some h; obtain ⟨hg, h⟩ := am_gd_some h; exact sm_lcmp C hg hd (hK _ _ _ _ h)
    case i2l => obtain rfl : n = 1 := sm_or hn; obtain ⟨x, t, rfl, h⟩ := am_p1_some h; obtain ⟨hg, h⟩ := am_gd_some h; exact sm_i2l C hg hd (hK _ _ _ _ h)
    case l2i => obtain rfl : n = 1 := sm_or hn; obtain ⟨x, t, rfl, h⟩ := am_w1_some h; exact sm_l2i C hd (hK _ _ _ _ h)
    case dup =>
      obtain rfl : n = 1 := sm_or hn
      match st, h with
      | .inl x :: t, h => exact sm_dup C (fun _ q => by cases q) hd (hK _ _ _ _ h)
      | .inr (.inl x) :: t, h => exact am_bad_some h
      | .inr (.inr x) :: t, h => exact sm_dup C (fun _ q => by cases q) hd (hK _ _ _ _ h)
      | [], h => exact am_bad_some h
    case dup2 =>
      obtain rfl : n = 1 := sm_or hn
      match st, h with
      | .inl x :: .inr (.inr y) :: t, h => exact sm_dup2 C (fun _ q => by cases q) (fun _ q => by cases q) hd (hK _ _ _ _ h)
      | .inl x :: .inr (.inl y) :: t, h => exact am_bad_some h
      | .inl x :: .inl y :: t, h => exact am_bad_some h
      | .inl x :: [], h => exact am_bad_some h
      | .inr x :: t, h => exact am_bad_some h
      | [], h => exact am_bad_some h
    case pop => obtain rfl : n = 1 := sm_or hn; obtain ⟨x, t, rfl, h⟩ := am_p1_some h; exact sm_pop C (fun _ q => by cases q) hd (hK _ _ _ _ h)
    case goto x => obtain rfl : n = 3 := sm_or hn; exact sm_goto C hd (of_decide_eq_true hA) (hJ _ _ _ _ _ h)
    case if_icmp q o =>
      obtain rfl : n = 3 := sm_or hn
      obtain ⟨x, y, t, rfl, h⟩ := am_p2_some h
      obtain ⟨hg, h⟩ := am_gd_some h
      cases q
      case eq => obtain ⟨h1, h2⟩ := am_br_some h; exact sm_icmp C hg hd (of_decide_eq_true hA) rfl (fun q => hJ _ _ _ _ _ (h1 q)) (fun q => hK _ _ _ _ (h2 q))
      case ne => obtain ⟨h1, h2⟩ := am_br_some h; exact sm_icmp C hg hd (of_decide_eq_true hA) rfl (fun q => hJ _ _ _ _ _ (h1 q)) (fun q => hK _ _ _ _ (h2 q))
      case lt => obtain ⟨h1, h2⟩ := am_br_some h; exact sm_icmp C hg hd (of_decide_eq_true hA) rfl (fun q => hJ _ _ _ _ _ (h1 q)) (fun q => hK _ _ _ _ (h2 q))
      case ge => obtain ⟨h1, h2⟩ := am_br_some h; exact sm_icmp C hg hd (of_decide_eq_true hA) rfl (fun q => hJ _ _ _ _ _ (h1 q)) (fun q => hK _ _ _ _ (h2 q))
      case gt => obtain ⟨h1, h2⟩ := am_br_some h; exact sm_icmp C hg hd (of_decide_eq_true hA) rfl (fun q => hJ _ _ _ _ _ (h1 q)) (fun q => hK _ _ _ _ (h2 q))
      case le => obtain ⟨h1, h2⟩ := am_br_some h; exact sm_icmp C hg hd (of_decide_eq_true hA) rfl (fun q => hJ _ _ _ _ _ (h1 q)) (fun q => hK _ _ _ _ (h2 q))
    case ifCond q o =>
      obtain rfl : n = 3 := sm_or hn
      obtain ⟨x, t, rfl, h⟩ := am_p1_some h
      obtain ⟨hg, h⟩ := am_gd_some h
      cases q
      case eq => obtain ⟨h1, h2⟩ := am_br_some h; exact sm_if C hg hd (of_decide_eq_true hA) rfl (fun q => hJ _ _ _ _ _ (h1 q)) (fun q => hK _ _ _ _ (h2 q))
      case ne => obtain ⟨h1, h2⟩ := am_br_some h; exact sm_if C hg hd (of_decide_eq_true hA) rfl (fun q => hJ _ _ _ _ _ (h1 q)) (fun q => hK _ _ _ _ (h2 q))
      case lt => obtain ⟨h1, h2⟩ := am_br_some h; exact sm_if C hg hd (of_decide_eq_true hA) rfl (fun q => hJ _ _ _ _ _ (h1 q)) (fun q => hK _ _ _ _ (h2 q))
      case ge => obtain ⟨h1, h2⟩ := am_br_some h; exact sm_if C hg hd (of_decide_eq_true hA) rfl (fun q => hJ _ _ _ _ _ (h1 q)) (fun q => hK _ _ _ _ (h2 q))
      case gt => obtain ⟨h1, h2⟩ := am_br_some h; exact sm_if C hg hd (of_decide_eq_true hA) rfl (fun q => hJ _ _ _ _ _ (h1 q)) (fun q => hK _ _ _ _ (h2 q))
      case le => obtain ⟨h1, h2⟩ := am_br_some h; exact sm_if C hg hd (of_decide_eq_true hA) rfl (fun q => hJ _ _ _ _ _ (h1 q)) (fun q => hK _ _ _ _ (h2 q))
    case tableswitch d lo hi offs =>
      obtain ⟨x, t, rfl, h⟩ := am_p1_some h
      obtain ⟨hg, h⟩ := am_gd_some h
      have hA : (decide (0 ≤ (pc : Int) + d) && offs.all (fun x => decide (0 ≤ (pc : Int) + x)) && decide ((offs.size : Int) = hi - lo + 1)) = true := hA
      simp only [Bool.and_eq_true, decide_eq_true_eq, Array.all_eq_true'] at hA
      exact sm_switch C hg hd hA.1.1 hA.1.2 hA.2 (hJ _ _ _ _ _ h)
    case arraylength =>
      obtain rfl : n = 1 := sm_or hn
      match st, h with
      | .inr (.inr (.inl k)) :: t, h => obtain ⟨hg, h⟩ := am_gd_some h; exact sm_alen C hg hd (hK _ _ _ _ h)
      | .inr (.inr (.inr u)) :: t, h => exact sm_slen C hd (hK _ _ _ _ h)
      | .inr (.inl x) :: t, h => exact am_bad_some h
      | .inl x :: t, h => exact am_bad_some h
      | [], h => exact am_bad_some h
    case iaload =>
      obtain rfl : n = 1 := sm_or hn
      obtain ⟨x, t, rfl, h⟩ := am_p1_some h
      match t, h with
      | .inr (.inr (.inl k)) :: t, h => obtain ⟨hg, h⟩ := am_gd_some h; exact sm_iald C hg hd (hK _ _ _ _ h)
      | .inr (.inr (.inr u)) :: t, h => obtain ⟨hg, h⟩ := am_gd_some h; exact sm_sld C hg hd (hK _ _ _ _ h)
      | .inr (.inl x) :: t, h => exact am_bad_some h
      | .inl x :: t, h => exact am_bad_some h
      | [], h => exact am_bad_some h
    case baload => obtain rfl : n = 1 := sm_or hn; obtain ⟨x, t, rfl, h⟩ := am_p1_some h; obtain ⟨k, t, rfl, h⟩ := am_pr_some h; obtain ⟨hg, h⟩ := am_gd_some h; exact sm_bald C hg hd (hK _ _ _ _ h)
    case aaload => obtain rfl : n = 1 := sm_or hn; obtain ⟨x, t, rfl, h⟩ := am_p1_some h; obtain ⟨k, t, rfl, h⟩ := am_pr_some h; obtain ⟨hg, h⟩ := am_gd_some h; exact sm_aald C hg hd (hK _ _ _ _ h)
    case iastore => obtain rfl : n = 1 := sm_or hn; obtain ⟨x, y, t, rfl, h⟩ := am_p2_some h; obtain ⟨k, t, rfl, h⟩ := am_pr_some h; obtain ⟨hg, h⟩ := am_gd_some h; exact sm_iast C hg hd (hK _ _ _ _ h)
    case bastore => obtain rfl : n = 1 := sm_or hn; obtain ⟨x, y, t, rfl, h⟩ := am_p2_some h; obtain ⟨k, t, rfl, h⟩ := am_pr_some h; obtain ⟨hg, h⟩ := am_gd_some h; exact sm_bast C hg hd (hK _ _ _ _ h)
    case aastore => obtain rfl : n = 1 := sm_or hn; obtain ⟨x, t, rfl, h⟩ := am_pr_some h; obtain ⟨y, t, rfl, h⟩ := am_p1_some h; obtain ⟨k, t, rfl, h⟩ := am_pr_some h; obtain ⟨hg, h⟩ := am_gd_some h; exact sm_aast C hg hd (hK _ _ _ _ h)
    case newarray t =>
      obtain rfl : n = 2 := sm_or hn
      obtain ⟨x, r, rfl, h⟩ := am_p1_some h
      obtain ⟨hg, h⟩ := am_gd_some h
      have hA : ((decide (t = .int) && decide (a = 0)) || (decide (t = .boolean) && decide (a = 1))) = true := hA
      simp only [Bool.and_eq_true, Bool.or_eq_true, decide_eq_true_eq] at hA
      have gr := hKg _ _ _ _ _ h
      exact sm_newa C hg gr.1 gr.2.1 hA hd (hK _ _ _ _ h)
    case anewarray k =>
      obtain rfl : n = 3 := sm_or hn
      obtain ⟨x, r, rfl, h⟩ := am_p1_some h
      obtain ⟨hg, h⟩ := am_gd_some h
      have hA : (pg_ql.any (fun q => decide (q.1 = (pg_oc z, k, a))) && (decide (a = 2) || decide (a = 3))) = true := hA
      rw [Bool.and_eq_true, Bool.or_eq_true, decide_eq_true_eq, decide_eq_true_eq] at hA
      have gr := hKg _ _ _ _ _ h
      exact sm_anew C hg gr.1 gr.2.1 hA.1 hA.2 hd (hK _ _ _ _ h)
    case new k =>
      obtain rfl : n = 3 := sm_or hn
      have hA : (pg_nl.any (fun q => decide (q.1 = (pg_oc z, k, a))) && decide (a < 10) && decide (b = pg_nf a)) = true := hA
      rw [Bool.and_eq_true, Bool.and_eq_true, decide_eq_true_eq, decide_eq_true_eq] at hA
      have gr := hKg _ _ _ _ _ h
      exact sm_new C gr.1 gr.2.1 hA.1.2 hA.2 hA.1.1 hd (hK _ _ _ _ h)
    case getfield k =>
      obtain rfl : n = 3 := sm_or hn
      obtain ⟨x, t, rfl, h⟩ := am_pr_some h
      obtain ⟨hg, h⟩ := am_gd_some h
      have hA : (pg_fl.any (fun q => decide (q.1 = (pg_oc z, k, a, b))) && decide (a < 10) && decide (b < pg_nf a) && decide ((v = 1) ↔ (pg_isr a b = true))) = true := hA
      rw [Bool.and_eq_true, Bool.and_eq_true, Bool.and_eq_true, decide_eq_true_eq, decide_eq_true_eq, decide_eq_true_eq] at hA
      by_cases hv : v = 1
      · rw [if_pos hv] at h
        exact sm_get C hg hA.1.1.2 hA.1.2 hA.1.1.1 hd (by rw [if_pos (hA.2.mp hv)]) (hK _ _ _ _ h)
      · rw [if_neg hv] at h
        exact sm_get C hg hA.1.1.2 hA.1.2 hA.1.1.1 hd (by rw [if_neg (fun q => hv (hA.2.mpr q))]) (hK _ _ _ _ h)
    case putfield k =>
      obtain rfl : n = 3 := sm_or hn
      have hA : (pg_fl.any (fun q => decide (q.1 = (pg_oc z, k, a, b))) && decide (a < 10) && decide (b < pg_nf a) && decide ((v = 1) ↔ (pg_isr a b = true)) && decide (v = 1 → (pg_fT a b).2.2.2 = true ∧ (pg_y z).name = "<init>" ∧ pg_oc z = a) && decide (¬ v = 1 → (pg_fT a b).2.2.2 = false ∧ (pg_ft a b = .int ∨ pg_ft a b = .boolean ∧ v = 2))) = true := hA
      rw [Bool.and_eq_true, Bool.and_eq_true, Bool.and_eq_true, Bool.and_eq_true, Bool.and_eq_true, decide_eq_true_eq, decide_eq_true_eq, decide_eq_true_eq, decide_eq_true_eq, decide_eq_true_eq] at hA
      obtain ⟨⟨⟨⟨⟨f1, f2⟩, f3⟩, f4⟩, f5⟩, f6⟩ := hA
      rcases am_if_some h with ⟨hv, h⟩ | ⟨hv, h⟩
      · obtain ⟨x, t, rfl, h3⟩ := am_pr_some h
        obtain ⟨y, t2, rfl, h4⟩ := am_pr_some h3
        obtain ⟨hg, h5⟩ := am_gd_some h4
        obtain ⟨g1, g2, g3⟩ := f5 hv
        exact sm_putr C hg.1 hg.2 f2 f3 f1 hd (f4.mp hv) g1 g2 g3 (hK _ _ _ _ h5)
      · obtain ⟨x, t, rfl, h3⟩ := am_p1_some h
        obtain ⟨y, t2, rfl, h4⟩ := am_pr_some h3
        obtain ⟨hg, h5⟩ := am_gd_some h4
        obtain ⟨g1, g2⟩ := f6 hv
        exact sm_put C hg.1 f2 f3 f1 hd (fun q => hv (f4.mpr q)) g1 (g2.imp id (fun q => ⟨q.1, hg.2 q.2⟩)) (hK _ _ _ _ h5)
    case invokevirtual k =>
      obtain rfl : n = 3 := sm_or hn
      have hA : (pg_ml.any (fun q => decide (q.1 = (pg_oc z, k, a))) && decide (a < 179) && decide (v = (pg_oc a : Int)) && decide (pg_ht a < pg_ht z) && decide (0 < b) && decide (pg_pn a = some (b - 1)) && pg_el.any (fun q => decide (q.1 = a)) && pg_vl.any (fun q => decide (q.1 = a))) = true := hA
      rw [Bool.and_eq_true, Bool.and_eq_true, Bool.and_eq_true, Bool.and_eq_true, Bool.and_eq_true, Bool.and_eq_true, Bool.and_eq_true, decide_eq_true_eq, decide_eq_true_eq, decide_eq_true_eq, decide_eq_true_eq, decide_eq_true_eq] at hA
      obtain ⟨⟨⟨⟨⟨⟨⟨f1, f2⟩, f3⟩, f4⟩, f5⟩, f6⟩, f7⟩, f8⟩ := hA
      rcases am_if_some h with ⟨hl, h⟩ | ⟨-, h⟩
      · cases hq : (st.take b).reverse with
        | nil => rw [hq] at h; exact am_bad_some h
        | cons w as =>
          rw [hq] at h
          match w, hq, h with
          | .inl x, hq, h => exact am_bad_some h
          | .inr (.inl x), hq, h => exact am_bad_some h
          | .inr (.inr (.inr x)), hq, h => exact am_bad_some h
          | .inr (.inr (.inl x)), hq, h =>
            obtain ⟨hg, h⟩ := am_gd_some h
            obtain ⟨r, S1, M1, h1, h2⟩ := am_then_some (show am_then (Cc a (am_r x :: as) S M) (fun r S' M' => J (pc + 3) ls (am_push r (st.drop b)) S' M') = some Fin from h)
            have e1 : st = as.reverse ++ am_r x :: st.drop b := by
              have e2 : st.take b = as.reverse ++ [am_r x] := by rw [← List.reverse_reverse (st.take b), hq, List.reverse_cons]
              have e3 := List.take_append_drop b st
              rw [e2, List.append_assoc] at e3
              exact e3.symm
            have e4 : as.length = b - 1 := by
              have := congrArg List.length hq
              rw [List.length_reverse, List.length_take, List.length_cons] at this
              omega
            have hgr := hCg _ _ _ _ _ h1
            have hgr2 := hJg _ _ _ _ _ _ h2
            have ev : v.toNat = pg_oc a := by omega
            rw [ev] at hg
            have hoc : pg_oc a < 10 := by
              have hfl : ∀ y, y < 179 → pg_vl.any (fun q => decide (q.1 = y)) = true → pg_oc y < 10 := by decide +kernel
              exact hfl a f2 f8
            rw [e1]
            exact sm_callV C (r := (r, S1, M1)) (hC _ _ _ _ _ h1 f2 f4) hg f2 f4 e4 f6 f1 f7 f8 hoc (by rw [List.length_drop]; omega) ⟨hgr.1, hgr.2.1⟩ ⟨hgr2.1, hgr2.2.1⟩ hgr.2.2 hd (hJ _ _ _ _ _ h2)
      · exact am_bad_some h
    case invokespecial k =>
      obtain rfl : n = 3 := sm_or hn
      rcases am_if_some h with ⟨hv, h⟩ | ⟨hv, h⟩
      · have hA : (if v = 1 then (pg_ol.any (fun q => decide (q.1 = (pg_oc z, k))) && decide (1 ≤ pg_ht z)) else _) = true := hA
        rw [if_pos hv, Bool.and_eq_true, decide_eq_true_eq] at hA
        rcases am_if_some h with ⟨hl, h⟩ | ⟨-, h⟩
        · obtain ⟨x, t, rfl, h⟩ := am_pr_some h
          obtain ⟨hg, h⟩ := am_gd_some h
          rw [List.length_cons] at hl
          exact sm_objinit C hg (by omega) hA.1 hA.2 hd (hK _ _ _ _ h)
        · exact am_bad_some h
      · have hA : (if v = 1 then _ else ((pg_ml.any (fun q => decide (q.1 = (pg_oc z, k, a))) || pg_xl.any (fun q => decide (q.1 = (pg_oc z, k, a)))) && decide (a < 179) && decide (pg_ht a < pg_ht z) && decide (0 < b) && decide (pg_pn a = some (b - 1)) && decide ((pg_y a).name = "<init>") && pg_vl.any (fun q => decide (q.1 = a)) && decide (pg_rt a = none))) = true := hA
        rw [if_neg hv, Bool.and_eq_true, Bool.and_eq_true, Bool.and_eq_true, Bool.and_eq_true, Bool.and_eq_true, Bool.and_eq_true, Bool.and_eq_true, Bool.or_eq_true, decide_eq_true_eq, decide_eq_true_eq, decide_eq_true_eq, decide_eq_true_eq, decide_eq_true_eq, decide_eq_true_eq] at hA
        obtain ⟨⟨⟨⟨⟨⟨⟨f1, f2⟩, f4⟩, f5⟩, f6⟩, f7⟩, f8⟩, f9⟩ := hA
        rcases am_if_some h with ⟨hl, h⟩ | ⟨-, h⟩
        · cases hq : (st.take b).reverse with
          | nil => rw [hq] at h; exact am_bad_some h
          | cons w as =>
            rw [hq] at h
            match w, hq, h with
            | .inl x, hq, h => exact am_bad_some h
            | .inr (.inl x), hq, h => exact am_bad_some h
            | .inr (.inr (.inr x)), hq, h => exact am_bad_some h
            | .inr (.inr (.inl x)), hq, h =>
              obtain ⟨hg, h⟩ := am_gd_some h
              obtain ⟨r, S1, M1, h1, h2⟩ := am_then_some (show am_then (Cc a (am_r x :: as) S M) (fun r S' M' => J (pc + 3) ls (am_push r (st.drop b)) S' M') = some Fin from h)
              have e1 : st = as.reverse ++ am_r x :: st.drop b := by
                have e2 : st.take b = as.reverse ++ [am_r x] := by rw [← List.reverse_reverse (st.take b), hq, List.reverse_cons]
                have e3 := List.take_append_drop b st
                rw [e2, List.append_assoc] at e3
                exact e3.symm
              have e4 : as.length = b - 1 := by
                have := congrArg List.length hq
                rw [List.length_reverse, List.length_take, List.length_cons] at this
                omega
              have hgr := hCg _ _ _ _ _ h1
              have hgr2 := hJg _ _ _ _ _ _ h2
              rw [e1]
              exact sm_callI C (r := (r, S1, M1)) (hC _ _ _ _ _ h1 f2 f4) hg f2 f4 e4 f6 f1 f8 f7 f9 (by rw [List.length_drop]; omega) ⟨hgr.1, hgr.2.1⟩ ⟨hgr2.1, hgr2.2.1⟩ hgr.2.2 hd (hJ _ _ _ _ _ h2)
        · exact am_bad_some h
    case invokestatic k =>
      obtain rfl : n = 3 := sm_or hn
      have hA : (if v = 2 then (pg_al.any (fun q => decide (q.1 = (pg_oc z, k))) && decide (1 ≤ pg_ht z)) else if v = 3 then (pg_xx.any (fun q => decide (q.1 = (pg_oc z, k))) && decide (1 ≤ pg_ht z)) else if v = 4 then (pg_xn.any (fun q => decide (q.1 = (pg_oc z, k))) && decide (1 ≤ pg_ht z)) else (pg_ml.any (fun q => decide (q.1 = (pg_oc z, k, a))) && decide (a < 179) && decide (pg_ht a < pg_ht z) && decide (pg_pn a = some b) && pg_sl.any (fun q => decide (q.1 = a)))) = true := hA
      rcases am_if_some h with ⟨hv, h⟩ | ⟨hv, h⟩
      · rw [if_pos hv, Bool.and_eq_true, decide_eq_true_eq] at hA
        split at h
        · rcases am_if_some h with ⟨hl, h⟩ | ⟨-, h⟩
          · obtain ⟨hg, h⟩ := am_gd_some h
            exact sm_copy C hl hg hA.1 hA.2 hd (hK _ _ _ _ h)
          · exact am_bad_some h
        · exact am_bad_some h
      · rw [if_neg hv] at hA
        rcases am_if_some h with ⟨hv3, h⟩ | ⟨hv3, h⟩
        · rw [if_pos hv3, Bool.and_eq_true, decide_eq_true_eq] at hA
          obtain ⟨x, y, t, rfl, h⟩ := am_p2_some h
          rcases am_if_some h with ⟨hl, h⟩ | ⟨-, h⟩
          · obtain ⟨hg, h⟩ := am_gd_some h
            have gr := hKg _ _ _ _ _ h
            exact sm_max C hl hg gr.1 gr.2.1 hA.1 hA.2 hd (hK _ _ _ _ h)
          · exact am_bad_some h
        · rw [if_neg hv3] at hA
          rcases am_if_some h with ⟨hv4, h⟩ | ⟨hv4, h⟩
          · rw [if_pos hv4, Bool.and_eq_true, decide_eq_true_eq] at hA
            obtain ⟨x, y, t, rfl, h⟩ := am_p2_some h
            rcases am_if_some h with ⟨hl, h⟩ | ⟨-, h⟩
            · obtain ⟨hg, h⟩ := am_gd_some h
              have gr := hKg _ _ _ _ _ h
              exact sm_min C hl hg gr.1 gr.2.1 hA.1 hA.2 hd (hK _ _ _ _ h)
            · exact am_bad_some h
          · rw [if_neg hv4, Bool.and_eq_true, Bool.and_eq_true, Bool.and_eq_true, Bool.and_eq_true, decide_eq_true_eq, decide_eq_true_eq, decide_eq_true_eq] at hA
            obtain ⟨⟨⟨⟨f1, f2⟩, f4⟩, f6⟩, f8⟩ := hA
            rcases am_if_some h with ⟨hl, h⟩ | ⟨-, h⟩
            · obtain ⟨r, S1, M1, h1, h2⟩ := am_then_some (show am_then (Cc a (st.take b).reverse S M) (fun r S' M' => J (pc + 3) ls (am_push r (st.drop b)) S' M') = some Fin from h)
              have e1 : st = (st.take b).reverse.reverse ++ st.drop b := by rw [List.reverse_reverse, List.take_append_drop]
              have e4 : (st.take b).reverse.length = b := by rw [List.length_reverse, List.length_take]; omega
              have hgr := hCg _ _ _ _ _ h1
              have hgr2 := hJg _ _ _ _ _ _ h2
              have key := sm_callS (p := p) (l := l) (e := e) (R := R) (s := s) (m := m) (args := args) (below := below) (meth := meth) (c := c) (Q := Q) (ls := ls) (pc := pc) (st := st.drop b) C (r := (r, S1, M1)) (hC _ _ _ _ _ h1 f2 f4) f2 f4 e4 f6 f1 f8 (by rw [List.length_drop]; omega) ⟨hgr.1, hgr.2.1⟩ ⟨hgr2.1, hgr2.2.1⟩ hgr.2.2 hd (hJ _ _ _ _ _ h2)
              rw [← e1] at key
              exact key
            · exact am_bad_some h
    case ireturn =>
      obtain rfl : n = 1 := sm_or hn
      have hA : ((decide (a = 1) && decide (pg_rt z = some .boolean)) || (decide (a = 0) && decide (pg_rt z = some .int))) = true := hA
      simp only [Bool.and_eq_true, Bool.or_eq_true, decide_eq_true_eq] at hA
      match st, h with
      | [.inl x], h =>
        rcases am_if_some h with ⟨ha, h⟩ | ⟨ha, h⟩
        · obtain ⟨hg, h⟩ := am_gd_some h
          have h : some (some (am_i x), S, M) = some Fin := h
          cases h
          intro H locs A hs
          rcases hA with hA | hA
          · exact (hR pc H locs A hs.1 hs.2.1 hs.2.2.1).1 x rfl (Or.inl ⟨hA.2, hg⟩) hd
          · exact absurd (hA.1.symm.trans ha) (by decide)
        · have h : some (some (am_i x), S, M) = some Fin := h
          cases h
          intro H locs A hs
          rcases hA with hA | hA
          · exact absurd hA.1 ha
          · exact (hR pc H locs A hs.1 hs.2.1 hs.2.2.1).1 x rfl (Or.inr hA.2) hd
      | [], h => exact am_bad_some h
      | .inr x :: t, h => exact am_bad_some h
      | .inl x :: y :: t, h => exact am_bad_some h
    case return_ =>
      obtain rfl : n = 1 := sm_or hn
      match st, h with
      | [], h =>
        have h : some (none, S, M) = some Fin := h
        cases h
        intro H locs A hs
        exact (hR pc H locs A hs.1 hs.2.1 hs.2.2.1).2 rfl (of_decide_eq_true hA) hd
      | x :: t, h => exact am_bad_some h
    all_goals exact am_bad_some h
end SM5
