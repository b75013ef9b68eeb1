/-! locals -/
def sm_L (G : sm_G) (z : Nat) (ls : am_L) (A : Array Slot) : Prop := A.size = pg_mx z ∧ lv_wf A ∧ ∀ (i : Nat) (v : am_V), ls[i]? = some (some v) → A[i]? = some (.val (sm_v G v)) ∧ ((sm_v G v).category = 2 → i ∈ pg_lg z)
def sm_al (G : sm_G) (ls : am_L) : List (Nat × Value) := (List.range ls.length).filterMap (fun i => match ls[i]? with
  | some (some v) => some (i, sm_v G v)
  | _ => none)
theorem sm_al_of {G : sm_G} {ls : am_L} {i : Nat} {v : am_V} (h : ls[i]? = some (some v)) : (i, sm_v G v) ∈ sm_al G ls := by
  unfold sm_al
  rw [List.mem_filterMap]
  refine ⟨i, List.mem_range.mpr (List.getElem?_eq_some_iff.mp h).1, ?_⟩
  rw [h]
theorem sm_al_ex {G : sm_G} {ls : am_L} {q : Nat × Value} (h : q ∈ sm_al G ls) : ∃ v, ls[q.1]? = some (some v) ∧ q.2 = sm_v G v := by
  unfold sm_al at h
  obtain ⟨i, -, h2⟩ := List.mem_filterMap.mp h
  cases hl : ls[i]? with
  | none => rw [hl] at h2; cases h2
  | some o =>
    cases o with
    | none => rw [hl] at h2; cases h2
    | some v =>
      rw [hl] at h2
      cases h2
      exact ⟨v, hl, rfl⟩
theorem sm_has {G : sm_G} {z : Nat} {ls : am_L} {A : Array Slot} (h : sm_L G z ls A) : lv_has A (pg_mx z) (sm_al G ls) := by
  refine ⟨h.1, h.2.1, fun q hq => ?_⟩
  obtain ⟨v, h1, h2⟩ := sm_al_ex hq
  rw [h2]
  exact (h.2.2 _ _ h1).1
theorem sm_s1 {z a : Nat} (h : pg_s1 z a = true) : a < pg_mx z ∧ a ∉ pg_lg z ∧ (a = 0 ∨ a - 1 ∉ pg_lg z) := by
  unfold pg_s1 at h
  simp only [Bool.and_eq_true, decide_eq_true_eq, Bool.or_eq_true, Bool.not_eq_true', List.contains_eq_mem, decide_eq_false_iff_not] at h
  exact ⟨h.1.1, h.1.2, h.2⟩
theorem sm_st1 {G : sm_G} {z a : Nat} {ls : am_L} {A A' : Array Slot} {v : am_V} (h : sm_L G z ls A) (hs : pg_s1 z a = true) (hc : (sm_v G v).category = 1)
    (h' : lv_has A' (pg_mx z) ((a, sm_v G v) :: (sm_al G ls).filter (fun q => !(q.1 == a) && !(q.1 + 1 == a && q.2.category == 2)))) : sm_L G z (ls.set a (some v)) A' := by
  obtain ⟨-, -, s3⟩ := sm_s1 hs
  refine ⟨h'.1, h'.2.1, fun i w hi => ?_⟩
  by_cases hia : i = a
  · subst hia
    have hl : i < ls.length := by
      have := (List.getElem?_eq_some_iff.mp hi).1
      rwa [List.length_set] at this
    rw [List.getElem?_set_self hl] at hi
    cases hi
    exact ⟨h'.2.2 (i, sm_v G v) List.mem_cons_self, fun q => by omega⟩
  · rw [List.getElem?_set_ne (fun q => hia q.symm)] at hi
    obtain ⟨h1, h2⟩ := h.2.2 i w hi
    refine ⟨h'.2.2 (i, sm_v G w) (List.mem_cons_of_mem _ (List.mem_filter.mpr ⟨sm_al_of hi, ?_⟩)), h2⟩
    simp only [Bool.and_eq_true, Bool.not_eq_true', beq_eq_false_iff_ne, ne_eq, Bool.and_eq_false_iff]
    refine ⟨hia, ?_⟩
    by_cases hc2 : (sm_v G w).category = 2
    · refine Or.inl (fun q => ?_)
      have q : i + 1 = a := q
      have := h2 hc2
      rcases s3 with s3 | s3
      · omega
      · exact s3 (by rw [← q]; exact this)
    · exact Or.inr hc2
theorem sm_st2 {G : sm_G} {z a : Nat} {ls : am_L} {A A' : Array Slot} {x : Int} (h : sm_L G z ls A) (ha : a ∈ pg_lg z) (s3 : a = 0 ∨ a - 1 ∉ pg_lg z)
    (h' : lv_has A' (pg_mx z) ((a, Value.long (Int64.ofInt x)) :: (sm_al G ls).filter (fun q => !(q.1 == a) && (!(q.1 == a + 1) && !(q.1 + 1 == a && q.2.category == 2))))) : sm_L G z ((ls.set a (some (am_l x))).set (a + 1) none) A' := by
  refine ⟨h'.1, h'.2.1, fun i w hi => ?_⟩
  by_cases hi1 : i = a + 1
  · subst hi1
    have hl : a + 1 < (ls.set a (some (am_l x))).length := by
      have := (List.getElem?_eq_some_iff.mp hi).1
      rwa [List.length_set] at this
    rw [List.getElem?_set_self hl] at hi
    cases hi
  · rw [List.getElem?_set_ne (fun q => hi1 q.symm)] at hi
    by_cases hia : i = a
    · subst hia
      have hl : i < ls.length := by
        have := (List.getElem?_eq_some_iff.mp hi).1
        rwa [List.length_set] at this
      rw [List.getElem?_set_self hl] at hi
      cases hi
      exact ⟨h'.2.2 (i, Value.long (Int64.ofInt x)) List.mem_cons_self, fun _ => ha⟩
    · rw [List.getElem?_set_ne (fun q => hia q.symm)] at hi
      obtain ⟨h1, h2⟩ := h.2.2 i w hi
      refine ⟨h'.2.2 (i, sm_v G w) (List.mem_cons_of_mem _ (List.mem_filter.mpr ⟨sm_al_of hi, ?_⟩)), h2⟩
      simp only [Bool.and_eq_true, Bool.not_eq_true', beq_eq_false_iff_ne, ne_eq, Bool.and_eq_false_iff]
      refine ⟨hia, hi1, ?_⟩
      by_cases hc2 : (sm_v G w).category = 2
      · refine Or.inl (fun q => ?_)
        have q : i + 1 = a := q
        have := h2 hc2
        rcases s3 with s3 | s3
        · omega
        · exact s3 (by rw [← q]; exact this)
      · exact Or.inr hc2
/-! what holds of the tables, through a run -/
def sm_K (G : sm_G) (U : State) : Prop := (∀ w ∈ lw_tbl, pg_gw w = true → ∀ a : Array Value, w.before a U = true) ∧ va_AO "PersonLines$Life" U ∧ va_AO "PersonLines$Image" U ∧ va_K G.1 pg_cls (sm_tys G) U
theorem sm_gw_moved {w : Cond} (hg : pg_gw w = true) {s U : State} (hW : s.WarmedH U.vm) {a a' : Array Value} (h : w.before a s = true) : w.before a' U = true := by
  by_cases hn : ∃ c i y q, w = .methodLinkNest c i y q
  · obtain ⟨c, i, y, q, rfl⟩ := hn
    exact va_Nw.use rfl (va_Nw.warmM hW (va_Nw.of rfl h))
  · have hgw : goodWord w = true := by
      unfold pg_gw at hg
      split at hg
      · rename_i c i y q
        exact absurd ⟨c, i, y, q, rfl⟩ hn
      · exact hg
    exact word_at hW (good_of_word hgw) h
theorem sm_K_moved {G : sm_G} {s U : State} (hW : s.WarmedH U.vm) (h : sm_K G s) : sm_K G U :=
  ⟨fun w hw hg a => sm_gw_moved hg hW (h.1 w hw hg #[]), h.2.1.moved hW.alike, h.2.2.1.moved hW.alike, h.2.2.2.moved hW.alike⟩
def sm_X (G : sm_G) (S : am_S) (U : State) (H : Heap) : Prop := va_X (sm_sb G) (am_sn S) (fun j => Int32.ofInt (am_sx S (j : Int))) U H ∧ sm_sb G ≤ sm_b G
/-- what holds of a method while it runs -/
def sm_C (p : Program) (R : Room) (s : State) (m : MethodId) (meth : Method) (c : Code) (G : sm_G) (z : Nat) (S0 : am_S) (Fin : am_Z) : Prop :=
  p.tables.exec = Jvm.exec ∧ c.code = pg_c z ∧ c.maxLocals = pg_mx z ∧ s.vm.findClass (pg_cn (pg_oc z)) = some m.cls ∧ ((pg_y z).name = "<init>" → meth.name = "<init>") ∧ sm_K G s ∧ s.heap.size = sm_b G + am_n S0 + 1 ∧ (pg_ht z ≤ R.frames ∧ 30 * pg_ht z ≤ R.locals) ∧ (am_n Fin.2.1 - am_n S0 ≤ R.cells ∧ am_sl Fin.2.1 - am_sl S0 ≤ R.slots) ∧ z < 180 ∧ sm_X G S0 s s.heap
/-- the heap and the locals hold the abstract state -/
def sm_St (s : State) (G : sm_G) (z : Nat) (S0 : am_S) (ls : am_L) (S : am_S) (M : am_M) (H : Heap) (locs : List Loc) (A : Array Slot) : Prop :=
  va_P G.1 pg_cls (sm_w G S M) H ∧ H.size = sm_b G + am_n S + 1 ∧ va_S (sm_A G) s.heap H locs ∧ sm_L G z ls A ∧ am_n S0 ≤ am_n S ∧ am_sl S0 ≤ am_sl S ∧ S.1 = S0.1
/-- from there the machine comes to Q -/
def sm_W (p : Program) (l : Launch) (e : Env) (R : Room) (s : State) (m : MethodId) (args : Array Value) (below : List Frame) (meth : Method) (c : Code) (Q : State → Prop) (G : sm_G) (z : Nat) (S0 : am_S) (pc : Nat) (ls : am_L) (st : am_K) (S : am_S) (M : am_M) : Prop :=
  ∀ (H : Heap) (locs : List Loc) (A : Array Slot), sm_St s G z S0 ls S M H locs A → W p l e R s m args below meth c H locs (am_n S - am_n S0) (am_sl S - am_sl S0) Q (F0 m pc A (st.map (sm_v G)))
section SM1
variable {p : Program} {l : Launch} {e : Env} {R : Room} {s : State} {m : MethodId} {args : Array Value} {below : List Frame} {meth : Method} {c : Code} {Q : State → Prop} {G : sm_G} {z : Nat} {S0 : am_S} {Fin : am_Z} {pc : Nat} {ls : am_L} {st : am_K} {S : am_S} {M : am_M}
theorem sm_tb (C : sm_C p R s m meth c G z S0 Fin) {w : Cond} (hw : w ∈ lw_tbl) (hg : pg_gw w = true) : w.before args s = true := C.2.2.2.2.2.1.1 w hw hg args
theorem sm_iconst (C : sm_C p R s m meth c G z S0 Fin) {k v : Int} (hd : decode (pg_c z) pc = .ok (.iconst k, 1)) (hv : k = v) (kk : sm_W p l e R s m args below meth c Q G z S0 (pc + 1) ls (am_i v :: st) S M) : sm_W p l e R s m args below meth c Q G z S0 pc ls st S M := by
  intro H locs A hs
  subst hv
  exact lv_iconst C.1 C.2.1 hd rfl (kk H locs A hs)
theorem sm_bipush (C : sm_C p R s m meth c G z S0 Fin) {k v : Int} (hd : decode (pg_c z) pc = .ok (.bipush k, 2)) (hv : (Int8.ofInt k).toInt32 = Int32.ofInt v) (kk : sm_W p l e R s m args below meth c Q G z S0 (pc + 2) ls (am_i v :: st) S M) : sm_W p l e R s m args below meth c Q G z S0 pc ls st S M := by
  intro H locs A hs
  exact lv_bipush C.1 C.2.1 hd hv (kk H locs A hs)
theorem sm_sipush (C : sm_C p R s m meth c G z S0 Fin) {k v : Int} (hd : decode (pg_c z) pc = .ok (.sipush k, 3)) (hv : (Int16.ofInt k).toInt32 = Int32.ofInt v) (kk : sm_W p l e R s m args below meth c Q G z S0 (pc + 3) ls (am_i v :: st) S M) : sm_W p l e R s m args below meth c Q G z S0 pc ls st S M := by
  intro H locs A hs
  exact lv_sipush C.1 C.2.1 hd hv (kk H locs A hs)
theorem sm_ldc (C : sm_C p R s m meth c G z S0 Fin) {k : Nat} {v : Int} (hd : decode (pg_c z) pc = .ok (.ldc k, 2)) (hv : pg_kl.any (fun q => decide (q.1 = (pg_oc z, k, v))) = true) (kk : sm_W p l e R s m args below meth c Q G z S0 (pc + 2) ls (am_i v :: st) S M) : sm_W p l e R s m args below meth c Q G z S0 pc ls st S M := by
  intro H locs A hs
  exact lv_ldc C.1 C.2.1 C.2.2.2.1 (sm_tb C (pg_key pg_kl_ok hv) rfl) hd (kk H locs A hs)
theorem sm_ldcw (C : sm_C p R s m meth c G z S0 Fin) {k : Nat} {v : Int} (hd : decode (pg_c z) pc = .ok (.ldc_w k, 3)) (hv : pg_kl.any (fun q => decide (q.1 = (pg_oc z, k, v))) = true) (kk : sm_W p l e R s m args below meth c Q G z S0 (pc + 3) ls (am_i v :: st) S M) : sm_W p l e R s m args below meth c Q G z S0 pc ls st S M := by
  intro H locs A hs
  exact lv_ldcw C.1 C.2.1 C.2.2.2.1 (sm_tb C (pg_key pg_kl_ok hv) rfl) hd (kk H locs A hs)
theorem sm_ldc2 (C : sm_C p R s m meth c G z S0 Fin) {k : Nat} {v : Int} (hd : decode (pg_c z) pc = .ok (.ldc2_w k, 3)) (hv : pg_jl.any (fun q => decide (q.1 = (pg_oc z, k, v))) = true) (kk : sm_W p l e R s m args below meth c Q G z S0 (pc + 3) ls (am_l v :: st) S M) : sm_W p l e R s m args below meth c Q G z S0 pc ls st S M := by
  intro H locs A hs
  exact lv_ldc2 C.1 C.2.1 C.2.2.2.1 (sm_tb C (pg_key pg_jl_ok hv) rfl) hd (kk H locs A hs)
theorem sm_lconst (C : sm_C p R s m meth c G z S0 Fin) {k : _root_.Fin 2} {v : Int} (hd : decode (pg_c z) pc = .ok (.lconst k, 1)) (hv : ((k : Nat) : Int) = v) (kk : sm_W p l e R s m args below meth c Q G z S0 (pc + 1) ls (am_l v :: st) S M) : sm_W p l e R s m args below meth c Q G z S0 pc ls st S M := by
  intro H locs A hs
  subst hv
  exact lv_lconst C.1 C.2.1 hd (Int64.ofInt_eq_ofNat).symm (kk H locs A hs)
theorem sm_iload_n (C : sm_C p R s m meth c G z S0 Fin) {k : _root_.Fin 4} {a : Nat} {x : Int} (hd : decode (pg_c z) pc = .ok (.iload_n k, 1)) (hk : (k : Nat) = a) (hl : ls[a]? = some (some (am_i x))) (kk : sm_W p l e R s m args below meth c Q G z S0 (pc + 1) ls (am_i x :: st) S M) : sm_W p l e R s m args below meth c Q G z S0 pc ls st S M := by
  intro H locs A hs
  exact lv_iload_n C.1 C.2.1 hd hk (hs.2.2.2.1.2.2 _ _ hl).1 (kk H locs A hs)
theorem sm_iload (C : sm_C p R s m meth c G z S0 Fin) {k a : Nat} {x : Int} (hd : decode (pg_c z) pc = .ok (.iload k, 2)) (hk : k = a) (hl : ls[a]? = some (some (am_i x))) (kk : sm_W p l e R s m args below meth c Q G z S0 (pc + 2) ls (am_i x :: st) S M) : sm_W p l e R s m args below meth c Q G z S0 pc ls st S M := by
  intro H locs A hs
  subst hk
  exact lv_iload C.1 C.2.1 hd (hs.2.2.2.1.2.2 _ _ hl).1 (kk H locs A hs)
theorem sm_lload_n (C : sm_C p R s m meth c G z S0 Fin) {k : _root_.Fin 4} {a : Nat} {x : Int} (hd : decode (pg_c z) pc = .ok (.lload_n k, 1)) (hk : (k : Nat) = a) (hl : ls[a]? = some (some (am_l x))) (kk : sm_W p l e R s m args below meth c Q G z S0 (pc + 1) ls (am_l x :: st) S M) : sm_W p l e R s m args below meth c Q G z S0 pc ls st S M := by
  intro H locs A hs
  exact lv_lload_n C.1 C.2.1 hd hk (hs.2.2.2.1.2.2 _ _ hl).1 (kk H locs A hs)
theorem sm_lload (C : sm_C p R s m meth c G z S0 Fin) {k a : Nat} {x : Int} (hd : decode (pg_c z) pc = .ok (.lload k, 2)) (hk : k = a) (hl : ls[a]? = some (some (am_l x))) (kk : sm_W p l e R s m args below meth c Q G z S0 (pc + 2) ls (am_l x :: st) S M) : sm_W p l e R s m args below meth c Q G z S0 pc ls st S M := by
  intro H locs A hs
  subst hk
  exact lv_lload C.1 C.2.1 hd (hs.2.2.2.1.2.2 _ _ hl).1 (kk H locs A hs)
theorem sm_aload_n (C : sm_C p R s m meth c G z S0 Fin) {k : _root_.Fin 4} {a : Nat} {x : Nat ⊕ Unit} (hd : decode (pg_c z) pc = .ok (.aload_n k, 1)) (hk : (k : Nat) = a) (hl : ls[a]? = some (some (.inr (.inr x)))) (kk : sm_W p l e R s m args below meth c Q G z S0 (pc + 1) ls (.inr (.inr x) :: st) S M) : sm_W p l e R s m args below meth c Q G z S0 pc ls st S M := by
  intro H locs A hs
  have h1 := (hs.2.2.2.1.2.2 _ _ hl).1
  have k1 := kk H locs A hs
  cases x with
  | inr u => exact lv_aload_n C.1 C.2.1 hd hk h1 k1
  | inl k0 =>
    by_cases h0 : k0 = 0
    · subst h0
      exact lv_aload_nN C.1 C.2.1 hd hk h1 k1
    · have e : sm_v G (.inr (.inr (.inl k0))) = .ref (sm_b G + k0) := sm_v_r (by omega)
      rw [List.map_cons, e] at k1
      rw [e] at h1
      exact lv_aload_n C.1 C.2.1 hd hk h1 k1
theorem sm_istore_n (C : sm_C p R s m meth c G z S0 Fin) {k : _root_.Fin 4} {a : Nat} {x : Int} (hd : decode (pg_c z) pc = .ok (.istore_n k, 1)) (hk : (k : Nat) = a) (h1 : pg_s1 z a = true) (kk : sm_W p l e R s m args below meth c Q G z S0 (pc + 1) (ls.set a (some (am_i x))) st S M) : sm_W p l e R s m args below meth c Q G z S0 pc ls (am_i x :: st) S M := by
  intro H locs A hs
  exact lv_istore_n C.1 C.2.1 hd hk (sm_has hs.2.2.2.1) (sm_s1 h1).1 rfl (fun A' h' => kk H locs A' ⟨hs.1, hs.2.1, hs.2.2.1, sm_st1 (v := am_i x) hs.2.2.2.1 h1 rfl h', hs.2.2.2.2⟩)
theorem sm_istore (C : sm_C p R s m meth c G z S0 Fin) {k a : Nat} {x : Int} (hd : decode (pg_c z) pc = .ok (.istore k, 2)) (hk : k = a) (h1 : pg_s1 z a = true) (kk : sm_W p l e R s m args below meth c Q G z S0 (pc + 2) (ls.set a (some (am_i x))) st S M) : sm_W p l e R s m args below meth c Q G z S0 pc ls (am_i x :: st) S M := by
  intro H locs A hs
  subst hk
  exact lv_istore C.1 C.2.1 hd (sm_has hs.2.2.2.1) (sm_s1 h1).1 rfl (fun A' h' => kk H locs A' ⟨hs.1, hs.2.1, hs.2.2.1, sm_st1 (v := am_i x) hs.2.2.2.1 h1 rfl h', hs.2.2.2.2⟩)
theorem sm_astore_n (C : sm_C p R s m meth c G z S0 Fin) {k : _root_.Fin 4} {a x : Nat} (hx : 0 < x) (hd : decode (pg_c z) pc = .ok (.astore_n k, 1)) (hk : (k : Nat) = a) (h1 : pg_s1 z a = true) (kk : sm_W p l e R s m args below meth c Q G z S0 (pc + 1) (ls.set a (some (am_r x))) st S M) : sm_W p l e R s m args below meth c Q G z S0 pc ls (am_r x :: st) S M := by
  intro H locs A hs
  have e : sm_v G (am_r x) = .ref (sm_b G + x) := sm_v_r hx
  rw [List.map_cons, e]
  refine lv_astore_n C.1 C.2.1 hd hk (sm_has hs.2.2.2.1) (sm_s1 h1).1 rfl (fun A' h' => kk H locs A' ⟨hs.1, hs.2.1, hs.2.2.1, sm_st1 (v := am_r x) hs.2.2.2.1 h1 (by rw [e]; rfl) ?_, hs.2.2.2.2⟩)
  rw [e]; exact h'
theorem sm_lstore_n (C : sm_C p R s m meth c G z S0 Fin) {k : _root_.Fin 4} {a : Nat} {x : Int} (hd : decode (pg_c z) pc = .ok (.lstore_n k, 1)) (hk : (k : Nat) = a) (ha : a + 1 < pg_mx z) (h1 : a ∈ pg_lg z) (h2 : a = 0 ∨ a - 1 ∉ pg_lg z) (kk : sm_W p l e R s m args below meth c Q G z S0 (pc + 1) ((ls.set a (some (am_l x))).set (a + 1) none) st S M) : sm_W p l e R s m args below meth c Q G z S0 pc ls (am_l x :: st) S M := by
  intro H locs A hs
  exact lv_lstore_n C.1 C.2.1 hd hk (sm_has hs.2.2.2.1) ha rfl (fun A' h' => kk H locs A' ⟨hs.1, hs.2.1, hs.2.2.1, sm_st2 hs.2.2.2.1 h1 h2 h', hs.2.2.2.2⟩)
theorem sm_iinc (C : sm_C p R s m meth c G z S0 Fin) {k a : Nat} {x n v : Int} (hd : decode (pg_c z) pc = .ok (.iinc k n, 3)) (hk : k = a) (hn : n = v) (h1 : pg_s1 z a = true) (hl : ls[a]? = some (some (am_i x))) (kk : sm_W p l e R s m args below meth c Q G z S0 (pc + 3) (ls.set a (some (am_i (x + v)))) st S M) : sm_W p l e R s m args below meth c Q G z S0 pc ls st S M := by
  intro H locs A hs
  subst hk; subst hn
  obtain ⟨j, hj⟩ := List.getElem?_of_mem (sm_al_of (G := G) hl)
  exact lv_iinc (v := Int32.ofInt (x + n)) C.1 C.2.1 hd (sm_has hs.2.2.2.1) hj (Int32.ofInt_add x n).symm (sm_s1 h1).1 rfl (fun A' h' => kk H locs A' ⟨hs.1, hs.2.1, hs.2.2.1, sm_st1 (v := am_i (x + n)) hs.2.2.2.1 h1 rfl h', hs.2.2.2.2⟩)
theorem sm_iadd (C : sm_C p R s m meth c G z S0 Fin) {x y : Int} (hd : decode (pg_c z) pc = .ok (.iadd, 1)) (kk : sm_W p l e R s m args below meth c Q G z S0 (pc + 1) ls (am_i (x + y) :: st) S M) : sm_W p l e R s m args below meth c Q G z S0 pc ls (am_i y :: am_i x :: st) S M := by
  intro H locs A hs
  refine lv_iadd C.1 C.2.1 hd ?_
  rw [← Int32.ofInt_add]; exact kk H locs A hs
theorem sm_isub (C : sm_C p R s m meth c G z S0 Fin) {x y : Int} (hd : decode (pg_c z) pc = .ok (.isub, 1)) (kk : sm_W p l e R s m args below meth c Q G z S0 (pc + 1) ls (am_i (x - y) :: st) S M) : sm_W p l e R s m args below meth c Q G z S0 pc ls (am_i y :: am_i x :: st) S M := by
  intro H locs A hs
  refine lv_isub C.1 C.2.1 hd ?_
  rw [← Int32.ofInt_sub]; exact kk H locs A hs
theorem sm_imul (C : sm_C p R s m meth c G z S0 Fin) {x y : Int} (hd : decode (pg_c z) pc = .ok (.imul, 1)) (kk : sm_W p l e R s m args below meth c Q G z S0 (pc + 1) ls (am_i (x * y) :: st) S M) : sm_W p l e R s m args below meth c Q G z S0 pc ls (am_i y :: am_i x :: st) S M := by
  intro H locs A hs
  refine lv_imul C.1 C.2.1 hd ?_
  rw [← Int32.ofInt_mul]; exact kk H locs A hs
theorem sm_div0 {x y : Int} (h : 0 ≤ x ∧ x ≤ 2147483647 ∧ 0 < y ∧ y ≤ 2147483647) : ¬ Int32.ofInt y = 0 ∧ Int32.ofInt x / Int32.ofInt y = Int32.ofInt (x / y) := by
  have hx : am_Ri x := ⟨by omega, by omega⟩
  have hy : am_Ri y := ⟨by omega, by omega⟩
  have hq0 : 0 ≤ x / y := Int.ediv_nonneg h.1 (by omega)
  have hq1 : x / y ≤ x := Int.ediv_le_self y h.1
  refine ⟨?_, ?_⟩
  · rw [← sm_z, sm_eq hy sm_R0]; omega
  · rw [← Int32.toInt_inj, Int32.toInt_div, sm_ti hx, sm_ti hy, sm_ti ⟨by omega, by omega⟩, Int.tdiv_eq_ediv_of_nonneg h.1]
    exact Int.bmod_eq_of_le (by omega) (by omega)
theorem sm_idiv (C : sm_C p R s m meth c G z S0 Fin) {x y : Int} (h : 0 ≤ x ∧ x ≤ 2147483647 ∧ 0 < y ∧ y ≤ 2147483647) (hd : decode (pg_c z) pc = .ok (.idiv, 1)) (kk : sm_W p l e R s m args below meth c Q G z S0 (pc + 1) ls (am_i (x / y) :: st) S M) : sm_W p l e R s m args below meth c Q G z S0 pc ls (am_i y :: am_i x :: st) S M := by
  intro H locs A hs
  refine lv_idiv C.1 C.2.1 hd (sm_div0 h).1 ?_
  rw [(sm_div0 h).2]; exact kk H locs A hs
theorem sm_irem (C : sm_C p R s m meth c G z S0 Fin) {x y : Int} (h : 0 ≤ x ∧ x ≤ 2147483647 ∧ 0 < y ∧ y ≤ 2147483647) (hd : decode (pg_c z) pc = .ok (.irem, 1)) (kk : sm_W p l e R s m args below meth c Q G z S0 (pc + 1) ls (am_i (x % y) :: st) S M) : sm_W p l e R s m args below meth c Q G z S0 pc ls (am_i y :: am_i x :: st) S M := by
  intro H locs A hs
  refine lv_irem C.1 C.2.1 hd (sm_div0 h).1 ?_
  rw [(sm_div0 h).2, ← Int32.ofInt_mul, ← Int32.ofInt_sub, Int.mul_comm (x / y) y, ← Int.emod_def]; exact kk H locs A hs
theorem sm_iand (C : sm_C p R s m meth c G z S0 Fin) {x y : Int} (hd : decode (pg_c z) pc = .ok (.iand, 1)) (kk : sm_W p l e R s m args below meth c Q G z S0 (pc + 1) ls (am_i (am_and x y) :: st) S M) : sm_W p l e R s m args below meth c Q G z S0 pc ls (am_i y :: am_i x :: st) S M := by
  intro H locs A hs
  refine lv_iand C.1 C.2.1 hd ?_
  have k1 := kk H locs A hs
  rw [List.map_cons, show sm_v G (am_i (am_and x y)) = .int (Int32.ofInt x &&& Int32.ofInt y) from congrArg Value.int (Int32.ofInt_toInt _)] at k1
  exact k1
theorem sm_ior (C : sm_C p R s m meth c G z S0 Fin) {x y : Int} (hd : decode (pg_c z) pc = .ok (.ior, 1)) (kk : sm_W p l e R s m args below meth c Q G z S0 (pc + 1) ls (am_i (am_or x y) :: st) S M) : sm_W p l e R s m args below meth c Q G z S0 pc ls (am_i y :: am_i x :: st) S M := by
  intro H locs A hs
  refine lv_ior C.1 C.2.1 hd ?_
  have k1 := kk H locs A hs
  rw [List.map_cons, show sm_v G (am_i (am_or x y)) = .int (Int32.ofInt x ||| Int32.ofInt y) from congrArg Value.int (Int32.ofInt_toInt _)] at k1
  exact k1
theorem sm_ixor (C : sm_C p R s m meth c G z S0 Fin) {x y : Int} (hd : decode (pg_c z) pc = .ok (.ixor, 1)) (kk : sm_W p l e R s m args below meth c Q G z S0 (pc + 1) ls (am_i (am_xor x y) :: st) S M) : sm_W p l e R s m args below meth c Q G z S0 pc ls (am_i y :: am_i x :: st) S M := by
  intro H locs A hs
  refine lv_ixor C.1 C.2.1 hd ?_
  have k1 := kk H locs A hs
  rw [List.map_cons, show sm_v G (am_i (am_xor x y)) = .int (Int32.ofInt x ^^^ Int32.ofInt y) from congrArg Value.int (Int32.ofInt_toInt _)] at k1
  exact k1
theorem sm_ishl (C : sm_C p R s m meth c G z S0 Fin) {x y : Int} (hd : decode (pg_c z) pc = .ok (.ishl, 1)) (kk : sm_W p l e R s m args below meth c Q G z S0 (pc + 1) ls (am_i (am_shl x y) :: st) S M) : sm_W p l e R s m args below meth c Q G z S0 pc ls (am_i y :: am_i x :: st) S M := by
  intro H locs A hs
  refine lv_ishl C.1 C.2.1 hd ?_
  have k1 := kk H locs A hs
  rw [List.map_cons, show sm_v G (am_i (am_shl x y)) = .int (Int32.ofInt x <<< (Int32.ofInt y &&& 31)) from congrArg Value.int (Int32.ofInt_toInt _)] at k1
  exact k1
theorem sm_ishr (C : sm_C p R s m meth c G z S0 Fin) {x y : Int} (hd : decode (pg_c z) pc = .ok (.ishr, 1)) (kk : sm_W p l e R s m args below meth c Q G z S0 (pc + 1) ls (am_i (am_shr x y) :: st) S M) : sm_W p l e R s m args below meth c Q G z S0 pc ls (am_i y :: am_i x :: st) S M := by
  intro H locs A hs
  refine lv_ishr C.1 C.2.1 hd ?_
  have k1 := kk H locs A hs
  rw [List.map_cons, show sm_v G (am_i (am_shr x y)) = .int (Int32.ofInt x >>> (Int32.ofInt y &&& 31)) from congrArg Value.int (Int32.ofInt_toInt _)] at k1
  exact k1
theorem sm_iushr (C : sm_C p R s m meth c G z S0 Fin) {x y : Int} (hd : decode (pg_c z) pc = .ok (.iushr, 1)) (kk : sm_W p l e R s m args below meth c Q G z S0 (pc + 1) ls (am_i (am_ushr x y) :: st) S M) : sm_W p l e R s m args below meth c Q G z S0 pc ls (am_i y :: am_i x :: st) S M := by
  intro H locs A hs
  have k1 := kk H locs A hs
  exact lv_iushr (v := Int32.ofInt (am_ushr x y)) C.1 C.2.1 hd (Int32.ofInt_toInt _).symm k1
theorem sm_ladd (C : sm_C p R s m meth c G z S0 Fin) {x y : Int} (hd : decode (pg_c z) pc = .ok (.ladd, 1)) (kk : sm_W p l e R s m args below meth c Q G z S0 (pc + 1) ls (am_l (x + y) :: st) S M) : sm_W p l e R s m args below meth c Q G z S0 pc ls (am_l y :: am_l x :: st) S M := by
  intro H locs A hs
  refine lv_ladd C.1 C.2.1 hd ?_
  rw [← Int64.ofInt_add]; exact kk H locs A hs
theorem sm_lmul (C : sm_C p R s m meth c G z S0 Fin) {x y : Int} (hd : decode (pg_c z) pc = .ok (.lmul, 1)) (kk : sm_W p l e R s m args below meth c Q G z S0 (pc + 1) ls (am_l (x * y) :: st) S M) : sm_W p l e R s m args below meth c Q G z S0 pc ls (am_l y :: am_l x :: st) S M := by
  intro H locs A hs
  refine lv_lmul C.1 C.2.1 hd ?_
  rw [← Int64.ofInt_mul]; exact kk H locs A hs
theorem sm_ldiv0 {x y : Int} (h : 0 ≤ x ∧ x ≤ 9223372036854775807 ∧ 0 < y ∧ y ≤ 9223372036854775807) : ¬ Int64.ofInt y = 0 ∧ Int64.ofInt x / Int64.ofInt y = Int64.ofInt (x / y) := by
  have hx : am_Rl x := ⟨by omega, by omega⟩
  have hy : am_Rl y := ⟨by omega, by omega⟩
  have hq0 : 0 ≤ x / y := Int.ediv_nonneg h.1 (by omega)
  have hq1 : x / y ≤ x := Int.ediv_le_self y h.1
  refine ⟨fun h9 => ?_, ?_⟩
  · have h8 := congrArg Int64.toInt h9
    rw [sm_tl hy] at h8
    have h7 : (0 : Int64).toInt = 0 := rfl
    omega
  · rw [← Int64.toInt_inj, Int64.toInt_div, sm_tl hx, sm_tl hy, sm_tl ⟨by omega, by omega⟩, Int.tdiv_eq_ediv_of_nonneg h.1]
    exact Int.bmod_eq_of_le (by omega) (by omega)
theorem sm_ldiv (C : sm_C p R s m meth c G z S0 Fin) {x y : Int} (h : 0 ≤ x ∧ x ≤ 9223372036854775807 ∧ 0 < y ∧ y ≤ 9223372036854775807) (hd : decode (pg_c z) pc = .ok (.ldiv, 1)) (kk : sm_W p l e R s m args below meth c Q G z S0 (pc + 1) ls (am_l (x / y) :: st) S M) : sm_W p l e R s m args below meth c Q G z S0 pc ls (am_l y :: am_l x :: st) S M := by
  intro H locs A hs
  refine lv_ldiv C.1 C.2.1 hd (sm_ldiv0 h).1 ?_
  rw [(sm_ldiv0 h).2]; exact kk H locs A hs
theorem sm_lrem (C : sm_C p R s m meth c G z S0 Fin) {x y : Int} (h : 0 ≤ x ∧ x ≤ 9223372036854775807 ∧ 0 < y ∧ y ≤ 9223372036854775807) (hd : decode (pg_c z) pc = .ok (.lrem, 1)) (kk : sm_W p l e R s m args below meth c Q G z S0 (pc + 1) ls (am_l (x % y) :: st) S M) : sm_W p l e R s m args below meth c Q G z S0 pc ls (am_l y :: am_l x :: st) S M := by
  intro H locs A hs
  refine lv_lrem C.1 C.2.1 hd (sm_ldiv0 h).1 ?_
  rw [(sm_ldiv0 h).2, ← Int64.ofInt_mul, ← Int64.ofInt_sub, Int.mul_comm (x / y) y, ← Int.emod_def]; exact kk H locs A hs
theorem sm_lcmp (C : sm_C p R s m meth c G z S0 Fin) {x y : Int} (h : am_Rl x ∧ am_Rl y) (hd : decode (pg_c z) pc = .ok (.lcmp, 1)) (kk : sm_W p l e R s m args below meth c Q G z S0 (pc + 1) ls (am_i (am_cmp x y) :: st) S M) : sm_W p l e R s m args below meth c Q G z S0 pc ls (am_l y :: am_l x :: st) S M := by
  intro H locs A hs
  refine W.lcmp C.1 C.2.1 hd ?_
  have e : lg_cmp (Int64.ofInt x) (Int64.ofInt y) = Int32.ofInt (am_cmp x y) := by
    have hlt : Int64.ofInt x > Int64.ofInt y ↔ y < x := by
      show Int64.ofInt y < Int64.ofInt x ↔ _
      rw [Int64.lt_iff_toInt_lt, sm_tl h.1, sm_tl h.2]
    have heq : Int64.ofInt x = Int64.ofInt y ↔ x = y := by rw [← Int64.toInt_inj, sm_tl h.1, sm_tl h.2]
    unfold lg_cmp am_cmp
    simp only [hlt, heq]
    by_cases h1 : y < x
    · rw [if_pos h1, if_neg (by omega), if_neg (by omega)]; rfl
    · rw [if_neg h1]
      by_cases h2 : x = y
      · rw [if_pos h2, if_neg (by omega), if_pos h2]; rfl
      · rw [if_neg h2, if_pos (by omega)]; rfl
  rw [e]; exact kk H locs A hs
theorem sm_i2l (C : sm_C p R s m meth c G z S0 Fin) {x : Int} (h : am_Ri x) (hd : decode (pg_c z) pc = .ok (.i2l, 1)) (kk : sm_W p l e R s m args below meth c Q G z S0 (pc + 1) ls (am_l x :: st) S M) : sm_W p l e R s m args below meth c Q G z S0 pc ls (am_i x :: st) S M := by
  intro H locs A hs
  exact lv_i2l (v := Int64.ofInt x) C.1 C.2.1 hd (Int32.toInt64_ofInt (by have := h.1; rw [Int32.toInt_minValue]; omega) (by have := h.2; rw [Int32.toInt_maxValue]; omega)) (kk H locs A hs)
theorem sm_l2i (C : sm_C p R s m meth c G z S0 Fin) {x : Int} (hd : decode (pg_c z) pc = .ok (.l2i, 1)) (kk : sm_W p l e R s m args below meth c Q G z S0 (pc + 1) ls (am_i x :: st) S M) : sm_W p l e R s m args below meth c Q G z S0 pc ls (am_l x :: st) S M := by
  intro H locs A hs
  exact lv_l2i (v := Int32.ofInt x) C.1 C.2.1 hd (Int64.toInt32_ofInt) (kk H locs A hs)
theorem sm_cat1 {v : am_V} (h : ∀ x, v ≠ am_l x) : (sm_v G v).category = 1 := by
  match v with
  | .inl x => rfl
  | .inr (.inl x) => exact absurd rfl (h x)
  | .inr (.inr (.inl k)) =>
    show (va_rf (sm_o G k)).category = 1
    unfold sm_o
    by_cases hk : k = 0
    · rw [if_pos hk]; rfl
    · rw [if_neg hk]; rfl
  | .inr (.inr (.inr u)) => rfl
theorem sm_dup (C : sm_C p R s m meth c G z S0 Fin) {v : am_V} (h : ∀ x, v ≠ am_l x) (hd : decode (pg_c z) pc = .ok (.dup, 1)) (kk : sm_W p l e R s m args below meth c Q G z S0 (pc + 1) ls (v :: v :: st) S M) : sm_W p l e R s m args below meth c Q G z S0 pc ls (v :: st) S M := by
  intro H locs A hs
  exact lv_dup C.1 C.2.1 hd (sm_cat1 h) (kk H locs A hs)
theorem sm_dup2 (C : sm_C p R s m meth c G z S0 Fin) {v w : am_V} (h : ∀ x, v ≠ am_l x) (h2 : ∀ x, w ≠ am_l x) (hd : decode (pg_c z) pc = .ok (.dup2, 1)) (kk : sm_W p l e R s m args below meth c Q G z S0 (pc + 1) ls (v :: w :: v :: w :: st) S M) : sm_W p l e R s m args below meth c Q G z S0 pc ls (v :: w :: st) S M := by
  intro H locs A hs
  exact lv_dup2_11 C.1 C.2.1 hd (sm_cat1 h) (sm_cat1 h2) (kk H locs A hs)
theorem sm_pop (C : sm_C p R s m meth c G z S0 Fin) {v : am_V} (h : ∀ x, v ≠ am_l x) (hd : decode (pg_c z) pc = .ok (.pop, 1)) (kk : sm_W p l e R s m args below meth c Q G z S0 (pc + 1) ls st S M) : sm_W p l e R s m args below meth c Q G z S0 pc ls (v :: st) S M := by
  intro H locs A hs
  exact lv_pop C.1 C.2.1 hd (sm_cat1 h) (kk H locs A hs)
theorem sm_goto (C : sm_C p R s m meth c G z S0 Fin) {x : Int} {a : Nat} (hd : decode (pg_c z) pc = .ok (.goto x, 3)) (ht : (pc : Int) + x = (a : Int)) (kk : sm_W p l e R s m args below meth c Q G z S0 a ls st S M) : sm_W p l e R s m args below meth c Q G z S0 pc ls st S M := by
  intro H locs A hs
  exact lv_goto C.1 C.2.1 hd ht (kk H locs A hs)
end SM1
