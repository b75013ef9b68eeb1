/-! branches, arrays, fields, new cells -/
theorem sm_cls_ok : ∀ c, c < 10 → pg_cls[c]? = some (pg_cn c, pg_fT c, pg_nf c) ∧ (∀ w ∈ u_ws (pg_cn c) (pg_fT c) (pg_nf c), w ∈ lw_tbl) ∧ (∀ k, k < pg_nf c → parseFieldDescriptor (pg_fT c k).2.2.1 = some (pg_ft c k)) ∧ (∀ a, a < pg_nf c → ∀ b, b < pg_nf c → a ≠ b → (pg_fT c a).2.1 ≠ (pg_fT c b).2.1) ∧ (∀ k, k < pg_nf c → (pg_fT c k).1 = pg_cn c) := by
  intro c hc
  match c, hc with
  | 0, _ => exact ⟨rfl, pg_u0, by decide +kernel, by decide +kernel, by decide +kernel⟩
  | 1, _ => exact ⟨rfl, pg_u1, by decide +kernel, by decide +kernel, by decide +kernel⟩
  | 2, _ => exact ⟨rfl, pg_u2, by decide +kernel, by decide +kernel, by decide +kernel⟩
  | 3, _ => exact ⟨rfl, pg_u3, by decide +kernel, by decide +kernel, by decide +kernel⟩
  | 4, _ => exact ⟨rfl, pg_u4, by decide +kernel, by decide +kernel, by decide +kernel⟩
  | 5, _ => exact ⟨rfl, pg_u5, by decide +kernel, by decide +kernel, by decide +kernel⟩
  | 6, _ => exact ⟨rfl, pg_u6, by decide +kernel, by decide +kernel, by decide +kernel⟩
  | 7, _ => exact ⟨rfl, pg_u7, by decide +kernel, by decide +kernel, by decide +kernel⟩
  | 8, _ => exact ⟨rfl, pg_u8, by decide +kernel, by decide +kernel, by decide +kernel⟩
  | 9, _ => exact ⟨rfl, pg_u9, by decide +kernel, by decide +kernel, by decide +kernel⟩
  | c + 10, h => exact absurd h (by omega)
theorem sm_u_good {C : String} {T : u_T} {N : Nat} : ∀ w ∈ u_ws C T N, pg_gw w = true := by
  intro w hw
  unfold u_ws at hw
  obtain ⟨k, -, rfl⟩ := List.mem_map.mp hw
  unfold u_lay
  by_cases h : (T k).2.2.2 = true
  · rw [if_pos h]; rfl
  · rw [if_neg h]; rfl
section SM2
variable {p : Program} {l : Launch} {e : Env} {R : Room} {s : State} {m : MethodId} {args : Array Value} {below : List Frame} {meth : Method} {c : Code} {Q : State → Prop} {G : sm_G} {z : Nat} {S0 : am_S} {Fin : am_Z} {pc : Nat} {ls : am_L} {st : am_K} {S : am_S} {M : am_M}
theorem sm_icmp (C : sm_C p R s m meth c G z S0 Fin) {q : ClassFile.Cond} {x y o : Int} {a : Nat} (h : am_Ri x ∧ am_Ri y) (hd : decode (pg_c z) pc = .ok (.if_icmp q o, 3)) (ht : (pc : Int) + o = (a : Int)) {P : Prop}
    (hP : P = match q with | .eq => x = y | .ne => ¬ x = y | .lt => x < y | .ge => y ≤ x | .gt => y < x | .le => x ≤ y)
    (kt : P → sm_W p l e R s m args below meth c Q G z S0 a ls st S M) (kf : ¬ P → sm_W p l e R s m args below meth c Q G z S0 (pc + 3) ls st S M) : sm_W p l e R s m args below meth c Q G z S0 pc ls (am_i y :: am_i x :: st) S M := by
  intro H locs A hs
  subst hP
  cases q with
  | eq => exact lv_icmp_eq C.1 C.2.1 hd ht (fun d => kt ((sm_eq h.1 h.2).mp d) H locs A hs) (fun d => kf (fun g => d ((sm_eq h.1 h.2).mpr g)) H locs A hs)
  | ne => exact lv_icmp_ne C.1 C.2.1 hd ht (fun d => kt (fun g => d ((sm_eq h.1 h.2).mpr g)) H locs A hs) (fun d => kf (fun g => g ((sm_eq h.1 h.2).mp d)) H locs A hs)
  | lt => exact lv_icmp_lt C.1 C.2.1 hd ht (fun d => kt ((sm_lt h.1 h.2).mp d) H locs A hs) (fun d => kf (fun g => d ((sm_lt h.1 h.2).mpr g)) H locs A hs)
  | ge => exact lv_icmp_ge C.1 C.2.1 hd ht (fun d => kt ((sm_le h.2 h.1).mp d) H locs A hs) (fun d => kf (fun g => d ((sm_le h.2 h.1).mpr g)) H locs A hs)
  | gt => exact lv_icmp_gt C.1 C.2.1 hd ht (fun d => kt ((sm_lt h.2 h.1).mp d) H locs A hs) (fun d => kf (fun g => d ((sm_lt h.2 h.1).mpr g)) H locs A hs)
  | le => exact lv_icmp_le C.1 C.2.1 hd ht (fun d => kt ((sm_le h.1 h.2).mp d) H locs A hs) (fun d => kf (fun g => d ((sm_le h.1 h.2).mpr g)) H locs A hs)
theorem sm_if (C : sm_C p R s m meth c G z S0 Fin) {q : ClassFile.Cond} {x o : Int} {a : Nat} (h : am_Ri x) (hd : decode (pg_c z) pc = .ok (.ifCond q o, 3)) (ht : (pc : Int) + o = (a : Int)) {P : Prop}
    (hP : P = match q with | .eq => x = 0 | .ne => ¬ x = 0 | .lt => x < 0 | .ge => 0 ≤ x | .gt => 0 < x | .le => x ≤ 0)
    (kt : P → sm_W p l e R s m args below meth c Q G z S0 a ls st S M) (kf : ¬ P → sm_W p l e R s m args below meth c Q G z S0 (pc + 3) ls st S M) : sm_W p l e R s m args below meth c Q G z S0 pc ls (am_i x :: st) S M := by
  intro H locs A hs
  subst hP
  have e1 : Int32.ofInt x = 0 ↔ x = 0 := sm_eq h sm_R0
  have e2 : Int32.ofInt x < 0 ↔ x < 0 := sm_lt h sm_R0
  have e3 : 0 < Int32.ofInt x ↔ 0 < x := sm_lt sm_R0 h
  have e4 : Int32.ofInt x ≤ 0 ↔ x ≤ 0 := sm_le h sm_R0
  have e5 : 0 ≤ Int32.ofInt x ↔ 0 ≤ x := sm_le sm_R0 h
  cases q with
  | eq => exact lv_if_eq C.1 C.2.1 hd ht (fun d => kt (e1.mp d) H locs A hs) (fun d => kf (fun g => d (e1.mpr g)) H locs A hs)
  | ne => exact lv_if_ne C.1 C.2.1 hd ht (fun d => kt (fun g => d (e1.mpr g)) H locs A hs) (fun d => kf (fun g => g (e1.mp d)) H locs A hs)
  | lt => exact lv_if_lt C.1 C.2.1 hd ht (fun d => kt (e2.mp d) H locs A hs) (fun d => kf (fun g => d (e2.mpr g)) H locs A hs)
  | ge => exact lv_if_ge C.1 C.2.1 hd ht (fun d => kt (e5.mp d) H locs A hs) (fun d => kf (fun g => d (e5.mpr g)) H locs A hs)
  | gt => exact lv_if_gt C.1 C.2.1 hd ht (fun d => kt (e3.mp d) H locs A hs) (fun d => kf (fun g => d (e3.mpr g)) H locs A hs)
  | le => exact lv_if_le C.1 C.2.1 hd ht (fun d => kt (e4.mp d) H locs A hs) (fun d => kf (fun g => d (e4.mpr g)) H locs A hs)
theorem sm_switch (C : sm_C p R s m meth c G z S0 Fin) {d lo hi : Int} {offs : Array Int} {n : Nat} {x : Int} (h : am_Ri x) (hd : decode (pg_c z) pc = .ok (.tableswitch d lo hi offs, n)) (h0 : 0 ≤ (pc : Int) + d) (h1 : ∀ y ∈ offs, 0 ≤ (pc : Int) + y) (h2 : (offs.size : Int) = hi - lo + 1)
    (kk : sm_W p l e R s m args below meth c Q G z S0 (am_sw pc d lo hi offs x) ls st S M) : sm_W p l e R s m args below meth c Q G z S0 pc ls (am_i x :: st) S M := by
  intro H locs A hs
  have k1 := kk H locs A hs
  by_cases ho : x < lo ∨ hi < x
  · have e : ((am_sw pc d lo hi offs x : Nat) : Int) = (pc : Int) + d := by unfold am_sw; rw [if_pos ho]; omega
    exact lv_tableOut C.1 C.2.1 hd (by rw [sm_ti h]; exact ho) e.symm k1
  · have hlt : (x - lo).toNat < offs.size := by omega
    have hg : offs[(x - lo).toNat]? = some offs[(x - lo).toNat] := Array.getElem?_eq_getElem hlt
    have hm := h1 _ (Array.getElem_mem hlt)
    have e : ((am_sw pc d lo hi offs x : Nat) : Int) = (pc : Int) + offs[(x - lo).toNat] := by
      unfold am_sw
      rw [if_neg ho, hg]
      show ((((pc : Int) + offs[(x - lo).toNat]).toNat : Nat) : Int) = _
      omega
    exact lv_tableIn C.1 C.2.1 hd (by rw [sm_ti h]; omega) (by rw [sm_ti h]; omega) (by rw [sm_ti h]; exact hg) e.symm k1
theorem sm_size {H : Heap} {locs : List Loc} {cells slots : Nat} {g : JFrame} (h : H.size ≤ s.heap.size + cells → W p l e R s m args below meth c H locs cells slots Q g) : W p l e R s m args below meth c H locs cells slots Q g :=
  fun T hT X => h (by rw [← hT]; exact X.heapSize) T hT X
/-- a store behind which the world is the list of the new state -/
theorem sm_stored (C : sm_C p R s m meth c G z S0 Fin) {H : Heap} {locs : List Loc} {A : Array Slot} (hs : sm_St s G z S0 ls S M H locs A) {S' : am_S} {M' : am_M} {k : Nat} (hk : 0 < k ∧ k ≤ am_n S) (hn : S'.2.1 = S.2.1) (hS1 : S'.1 = S.1)
    (kk : sm_W p l e R s m args below meth c Q G z S0 pc ls st S' M') {H1 : Heap} {locs1 : List Loc} (hP : va_P G.1 pg_cls (sm_w G S' M') H1) (hS : va_S (sm_A G) s.heap H1 locs1) : W p l e R s m args below meth c H1 locs1 (am_n S - am_n S0) (am_sl S - am_sl S0) Q (F0 m pc A (st.map (sm_v G))) := by
  refine sm_size (fun hz => ?_)
  have e1 : am_n S' = am_n S := congrArg Prod.fst hn
  have e2 : am_sl S' = am_sl S := congrArg Prod.snd hn
  have hl := (hP _ _ (sm_w_get (G := G) (S := S') (M := M') (k := am_n S') ⟨by omega, Nat.le_refl _⟩)).lt
  have hl : sm_b G + am_n S' < H1.size := hl
  have hc := C.2.2.2.2.2.2.1
  have hle := hs.2.2.2.2.1
  have k1 := kk H1 locs1 A ⟨hP, by omega, hS, hs.2.2.2.1, by rw [e1]; exact hs.2.2.2.2.1, by rw [e2]; exact hs.2.2.2.2.2.1, hS1.trans hs.2.2.2.2.2.2⟩
  rw [e1, e2] at k1
  exact k1
theorem sm_alen (C : sm_C p R s m meth c G z S0 Fin) {k : Nat} (h : (am_kd S k).1 < 4) (hd : decode (pg_c z) pc = .ok (.arraylength, 1)) (kk : sm_W p l e R s m args below meth c Q G z S0 (pc + 1) ls (am_i ((am_kd S k).2 : Int) :: st) S M) : sm_W p l e R s m args below meth c Q G z S0 pc ls (am_r k :: st) S M := by
  intro H locs A hs
  have hin := sm_kd_in (S := S) (k := k) (by omega)
  have hg := sm_w_get (G := G) (S := S) (M := M) hin
  rw [List.map_cons, sm_v_r hin.1]
  have k1 := kk H locs A hs
  have hv : Int32.ofNat (am_kd S k).2 = Int32.ofInt ((am_kd S k).2 : Int) := Int32.ofInt_eq_ofNat.symm
  have hcase : (am_kd S k).1 = 0 ∨ (am_kd S k).1 = 1 ∨ (am_kd S k).1 = 2 ∨ (am_kd S k).1 = 3 := by omega
  rcases hcase with h1 | h1 | h1 | h1
  · rw [sm_e_int h1 (by omega)] at hg
    exact va_alen C.1 C.2.1 C.2.2.2.2.2.1.2.2.2 hs.1 (k - 1) 0 hg (ty := .int) rfl hv hd k1
  · rw [sm_e_int h1 (by omega)] at hg
    exact va_alen C.1 C.2.1 C.2.2.2.2.2.1.2.2.2 hs.1 (k - 1) 1 hg (ty := .boolean) rfl hv hd k1
  · rw [sm_e_ref h1 (Or.inl rfl)] at hg
    exact va_alen C.1 C.2.1 C.2.2.2.2.2.1.2.2.2 hs.1 (k - 1) 2 hg (ty := .object "PersonLines$Life") rfl hv hd k1
  · rw [sm_e_ref h1 (Or.inr rfl)] at hg
    exact va_alen C.1 C.2.1 C.2.2.2.2.2.1.2.2.2 hs.1 (k - 1) 3 hg (ty := .object "PersonLines$Image") rfl hv hd k1
theorem sm_sn_eq {S S0 : am_S} (h : S.1 = S0.1) : am_sn S = am_sn S0 ∧ ∀ j, am_sx S j = am_sx S0 j := ⟨congrArg Prod.fst h, fun j => congrFun (congrArg Prod.snd h) j⟩
theorem sm_slen (C : sm_C p R s m meth c G z S0 Fin) {u : Unit} (hd : decode (pg_c z) pc = .ok (.arraylength, 1)) (kk : sm_W p l e R s m args below meth c Q G z S0 (pc + 1) ls (am_i (am_sn S : Int) :: st) S M) : sm_W p l e R s m args below meth c Q G z S0 pc ls (.inr (.inr (.inr u)) :: st) S M := by
  intro H locs A hs
  have k1 := kk H locs A hs
  obtain ⟨hX, hb⟩ := C.2.2.2.2.2.2.2.2.2.2
  refine va_slen C.1 C.2.1 hX (by have := C.2.2.2.2.2.2.1; omega) (Nat.not_lt.mpr hb) hs.2.2.1 hd ?_
  rw [← Int32.ofInt_eq_ofNat, ← (sm_sn_eq hs.2.2.2.2.2.2).1]
  exact k1
theorem sm_sld (C : sm_C p R s m meth c G z S0 Fin) {u : Unit} {i : Int} (h : 0 ≤ i ∧ i < (am_sn S : Int) ∧ i ≤ 2147483647) (hd : decode (pg_c z) pc = .ok (.iaload, 1)) (kk : sm_W p l e R s m args below meth c Q G z S0 (pc + 1) ls (am_i (am_sx S i) :: st) S M) : sm_W p l e R s m args below meth c Q G z S0 pc ls (am_i i :: .inr (.inr (.inr u)) :: st) S M := by
  intro H locs A hs
  have k1 := kk H locs A hs
  obtain ⟨hX, hb⟩ := C.2.2.2.2.2.2.2.2.2.2
  obtain ⟨e1, e2⟩ := sm_sn_eq hs.2.2.2.2.2.2
  refine va_sld C.1 C.2.1 hX (by have := C.2.2.2.2.2.2.1; omega) (Nat.not_lt.mpr hb) hs.2.2.1 (sm_in h.1 (by rw [← e1]; exact h.2.1) h.2.2) hd ?_
  rw [sm_cl h.1 h.2.2, ← e2, show ((i.toNat : Nat) : Int) = i by omega]
  exact k1
theorem sm_iald (C : sm_C p R s m meth c G z S0 Fin) {k : Nat} {i : Int} (h : (am_kd S k).1 = 0 ∧ 0 ≤ i ∧ i < ((am_kd S k).2 : Int) ∧ i ≤ 2147483647) (hd : decode (pg_c z) pc = .ok (.iaload, 1)) (kk : sm_W p l e R s m args below meth c Q G z S0 (pc + 1) ls (am_i (M k i) :: st) S M) : sm_W p l e R s m args below meth c Q G z S0 pc ls (am_i i :: am_r k :: st) S M := by
  intro H locs A hs
  have hin := sm_kd_in (S := S) (k := k) (by omega)
  have hg := sm_w_get (G := G) (S := S) (M := M) hin
  rw [List.map_cons, List.map_cons, sm_v_r hin.1]
  rw [sm_e_int h.1 (by omega)] at hg
  have k1 := kk H locs A hs
  refine va_iald C.1 C.2.1 C.2.2.2.2.2.1.2.2.2 hs.1 (k - 1) 0 hg rfl (sm_in h.2.1 h.2.2.1 h.2.2.2) hd ?_
  rw [sm_cl h.2.1 h.2.2.2, show ((i.toNat : Nat) : Int) = i by omega]
  exact k1
theorem sm_bald (C : sm_C p R s m meth c G z S0 Fin) {k : Nat} {i : Int} (h : (am_kd S k).1 = 1 ∧ 0 ≤ i ∧ i < ((am_kd S k).2 : Int) ∧ i ≤ 2147483647) (hd : decode (pg_c z) pc = .ok (.baload, 1)) (kk : sm_W p l e R s m args below meth c Q G z S0 (pc + 1) ls (am_i (M k i) :: st) S M) : sm_W p l e R s m args below meth c Q G z S0 pc ls (am_i i :: am_r k :: st) S M := by
  intro H locs A hs
  have hin := sm_kd_in (S := S) (k := k) (by omega)
  have hg := sm_w_get (G := G) (S := S) (M := M) hin
  rw [List.map_cons, List.map_cons, sm_v_r hin.1]
  rw [sm_e_int h.1 (by omega)] at hg
  have k1 := kk H locs A hs
  refine va_zald C.1 C.2.1 C.2.2.2.2.2.1.2.2.2 hs.1 (k - 1) 1 hg rfl (sm_in h.2.1 h.2.2.1 h.2.2.2) hd ?_
  rw [sm_cl h.2.1 h.2.2.2, show ((i.toNat : Nat) : Int) = i by omega]
  exact k1
theorem sm_aald (C : sm_C p R s m meth c G z S0 Fin) {k : Nat} {i : Int} (h : ((am_kd S k).1 = 2 ∨ (am_kd S k).1 = 3) ∧ 0 ≤ i ∧ i < ((am_kd S k).2 : Int) ∧ i ≤ 2147483647) (hd : decode (pg_c z) pc = .ok (.aaload, 1)) (kk : sm_W p l e R s m args below meth c Q G z S0 (pc + 1) ls (am_r (am_rf S k i) :: st) S M) : sm_W p l e R s m args below meth c Q G z S0 pc ls (am_i i :: am_r k :: st) S M := by
  intro H locs A hs
  have hin := sm_kd_in (S := S) (k := k) (by omega)
  have hg := sm_w_get (G := G) (S := S) (M := M) hin
  rw [List.map_cons, List.map_cons, sm_v_r hin.1]
  have k1 := kk H locs A hs
  have e : ((i.toNat : Nat) : Int) = i := by omega
  rcases h.1 with h1 | h1
  · rw [sm_e_ref h1 (Or.inl rfl)] at hg
    refine va_aldq C.1 C.2.1 C.2.2.2.2.2.1.2.2.2 hs.1 (k - 1) 2 hg rfl (sm_in h.2.1 h.2.2.1 h.2.2.2) hd ?_
    rw [sm_cl h.2.1 h.2.2.2, e]
    exact k1
  · rw [sm_e_ref h1 (Or.inr rfl)] at hg
    refine va_aldq C.1 C.2.1 C.2.2.2.2.2.1.2.2.2 hs.1 (k - 1) 3 hg rfl (sm_in h.2.1 h.2.2.1 h.2.2.2) hd ?_
    rw [sm_cl h.2.1 h.2.2.2, e]
    exact k1
theorem sm_upd {M : am_M} {k : Nat} {i x : Int} (h : 0 ≤ i ∧ i ≤ 2147483647) : upd (fun j => Int32.ofInt (M k (j : Int))) (Int32.ofInt i).toNatClampNeg (Int32.ofInt x) = (fun j : Nat => Int32.ofInt (am_wr M k i x k (j : Int))) := by
  rw [sm_cl h.1 h.2]
  funext j
  unfold upd am_wr
  by_cases hj : j = i.toNat
  · rw [if_pos hj, if_pos ⟨rfl, by omega⟩]
  · rw [if_neg hj, if_neg (fun q => hj (by have := q.2; omega))]
theorem sm_iast (C : sm_C p R s m meth c G z S0 Fin) {k : Nat} {i x : Int} (h : (am_kd S k).1 = 0 ∧ 0 ≤ i ∧ i < ((am_kd S k).2 : Int) ∧ i ≤ 2147483647) (hd : decode (pg_c z) pc = .ok (.iastore, 1)) (kk : sm_W p l e R s m args below meth c Q G z S0 (pc + 1) ls st S (am_wr M k i x)) : sm_W p l e R s m args below meth c Q G z S0 pc ls (am_i x :: am_i i :: am_r k :: st) S M := by
  intro H locs A hs
  have hin := sm_kd_in (S := S) (k := k) (by omega)
  have hg := sm_w_get (G := G) (S := S) (M := M) hin
  rw [List.map_cons, List.map_cons, List.map_cons, sm_v_r hin.1]
  rw [sm_e_int h.1 (by omega)] at hg
  refine va_iast C.1 C.2.1 C.2.2.2.2.2.1.2.2.2 hs.1 (sm_D G S M) hs.2.2.1 (k - 1) 0 hg rfl (sm_in h.2.1 h.2.2.1 h.2.2.2) hd (fun H1 locs1 hP1 _ hS1 => ?_)
  refine sm_stored C hs hin rfl rfl kk ?_ hS1
  rw [sm_upd ⟨h.2.1, h.2.2.2⟩, ← sm_e_int (G := G) (M := am_wr M k i x) h.1 (by omega), sm_w_set rfl hin (fun j hj => sm_kd_wr S M hj)] at hP1
  exact hP1
theorem sm_bast (C : sm_C p R s m meth c G z S0 Fin) {k : Nat} {i x : Int} (h : (am_kd S k).1 = 1 ∧ 0 ≤ i ∧ i < ((am_kd S k).2 : Int) ∧ i ≤ 2147483647 ∧ (x = 0 ∨ x = 1)) (hd : decode (pg_c z) pc = .ok (.bastore, 1)) (kk : sm_W p l e R s m args below meth c Q G z S0 (pc + 1) ls st S (am_wr M k i x)) : sm_W p l e R s m args below meth c Q G z S0 pc ls (am_i x :: am_i i :: am_r k :: st) S M := by
  intro H locs A hs
  have hin := sm_kd_in (S := S) (k := k) (by omega)
  have hg := sm_w_get (G := G) (S := S) (M := M) hin
  rw [List.map_cons, List.map_cons, List.map_cons, sm_v_r hin.1]
  rw [sm_e_int h.1 (by omega)] at hg
  refine va_zast C.1 C.2.1 C.2.2.2.2.2.1.2.2.2 hs.1 (sm_D G S M) hs.2.2.1 (k - 1) 1 hg rfl (sm_in h.2.1 h.2.2.1 h.2.2.2.1) hd (fun H1 locs1 hP1 _ hS1 => ?_)
  refine sm_stored C hs hin rfl rfl kk ?_ hS1
  have e : vp_nar .boolean (Int32.ofInt x) = Int32.ofInt x := by rcases h.2.2.2.2 with rfl | rfl <;> rfl
  rw [e, sm_upd ⟨h.2.1, h.2.2.2.1⟩, ← sm_e_int (G := G) (M := am_wr M k i x) h.1 (by omega), sm_w_set rfl hin (fun j hj => sm_kd_wr S M hj)] at hP1
  exact hP1
theorem sm_upq {S : am_S} {k x : Nat} {i : Int} (h : 0 ≤ i ∧ i ≤ 2147483647) (hx : 0 < x) : va_up (fun j : Nat => sm_o G (am_rf S k (j : Int))) (Int32.ofInt i).toNatClampNeg (some (sm_b G + x)) = (fun j : Nat => sm_o G (am_rf (am_set S k i x) k (j : Int))) := by
  rw [sm_cl h.1 h.2]
  funext j
  unfold va_up am_rf am_set
  by_cases hj : j = i.toNat
  · rw [if_pos hj]
    show _ = sm_o G (if k = k ∧ (j : Int) = i then x else _)
    rw [if_pos ⟨rfl, by omega⟩, sm_o_pos hx]
  · rw [if_neg hj]
    show _ = sm_o G (if k = k ∧ (j : Int) = i then x else _)
    rw [if_neg (fun q => hj (by have := q.2; omega))]
theorem sm_aast (C : sm_C p R s m meth c G z S0 Fin) {k x : Nat} {i : Int} (h : (((am_kd S k).1 = 2 ∧ am_kd S x = (4, 3)) ∨ ((am_kd S k).1 = 3 ∧ am_kd S x = (4, 2))) ∧ 0 ≤ i ∧ i < ((am_kd S k).2 : Int) ∧ i ≤ 2147483647) (hd : decode (pg_c z) pc = .ok (.aastore, 1)) (kk : sm_W p l e R s m args below meth c Q G z S0 (pc + 1) ls st (am_set S k i x) M) : sm_W p l e R s m args below meth c Q G z S0 pc ls (am_r x :: am_i i :: am_r k :: st) S M := by
  intro H locs A hs
  have hin := sm_kd_in (S := S) (k := k) (by omega)
  have hxn : (am_kd S x).1 ≠ 9 := by rcases h.1 with ⟨-, h1⟩ | ⟨-, h1⟩ <;> rw [h1] <;> decide
  have hix := sm_kd_in hxn
  have hg := sm_w_get (G := G) (S := S) (M := M) hin
  have hgx := sm_w_get (G := G) (S := S) (M := M) hix
  rw [List.map_cons, List.map_cons, List.map_cons, sm_v_r hin.1, sm_v_r hix.1]
  rcases h.1 with ⟨h1, h2⟩ | ⟨h1, h2⟩
  · rw [sm_e_ref h1 (Or.inl rfl)] at hg
    rw [sm_e_obj h2] at hgx
    refine va_astq C.1 C.2.1 C.2.2.2.2.2.1.2.2.2 hs.1 (sm_D G S M) hs.2.2.1 (k - 1) 2 (x - 1) 3 hg rfl hgx (sm_cls_ok 3 (by omega)).1 (sm_in h.2.1 h.2.2.1 h.2.2.2) hd (fun H1 locs1 hP1 _ hS1 => ?_)
    refine sm_stored (S' := am_set S k i x) C hs hin rfl rfl kk ?_ hS1
    rw [sm_upq ⟨h.2.1, h.2.2.2⟩ hix.1] at hP1
    have e : sm_e G (am_set S k i x) M k = _ := sm_e_ref (G := G) (S := am_set S k i x) (M := M) (k := k) (t := 2) h1 (Or.inl rfl)
    rw [sm_kd_set] at e
    rw [← e, sm_w_set (G := G) (S := S) (M := M) (S' := am_set S k i x) (M' := M) rfl hin (fun j hj => sm_e_set S M hj)] at hP1
    exact hP1
  · rw [sm_e_ref h1 (Or.inr rfl)] at hg
    rw [sm_e_obj h2] at hgx
    refine va_astq C.1 C.2.1 C.2.2.2.2.2.1.2.2.2 hs.1 (sm_D G S M) hs.2.2.1 (k - 1) 3 (x - 1) 2 hg rfl hgx (sm_cls_ok 2 (by omega)).1 (sm_in h.2.1 h.2.2.1 h.2.2.2) hd (fun H1 locs1 hP1 _ hS1 => ?_)
    refine sm_stored (S' := am_set S k i x) C hs hin rfl rfl kk ?_ hS1
    rw [sm_upq ⟨h.2.1, h.2.2.2⟩ hix.1] at hP1
    have e : sm_e G (am_set S k i x) M k = _ := sm_e_ref (G := G) (S := am_set S k i x) (M := M) (k := k) (t := 3) h1 (Or.inr rfl)
    rw [sm_kd_set] at e
    rw [← e, sm_w_set (G := G) (S := S) (M := M) (S' := am_set S k i x) (M' := M) rfl hin (fun j hj => sm_e_set S M hj)] at hP1
    exact hP1
theorem sm_fl {k ci b : Nat} (C : sm_C p R s m meth c G z S0 Fin) (hb : b < pg_nf ci) (hc : ci < 10) (hf : pg_fl.any (fun q => decide (q.1 = (pg_oc z, k, ci, b))) = true) : (Cond.fieldLink (pg_cn (pg_oc z)) k (pg_fT ci b).1 (pg_fT ci b).2.1 (pg_fT ci b).2.2.1).before args s = true := by
  rw [(sm_cls_ok ci hc).2.2.2.2 b hb]
  exact sm_tb C (pg_key pg_fl_ok hf) rfl
theorem sm_get (C : sm_C p R s m meth c G z S0 Fin) {k q ci b : Nat} (hk : am_kd S k = (4, ci)) (hc : ci < 10) (hb : b < pg_nf ci) (hf : pg_fl.any (fun r => decide (r.1 = (pg_oc z, q, ci, b))) = true) (hd : decode (pg_c z) pc = .ok (.getfield q, 3)) {v : am_V} (hv : v = if pg_isr ci b = true then am_r (am_rf S k (b : Int)) else am_i (M k (b : Int)))
    (kk : sm_W p l e R s m args below meth c Q G z S0 (pc + 3) ls (v :: st) S M) : sm_W p l e R s m args below meth c Q G z S0 pc ls (am_r k :: st) S M := by
  intro H locs A hs
  have hin := sm_kd_in (S := S) (k := k) (by rw [hk]; show (4 : Nat) ≠ 9; decide)
  have hg := sm_w_get (G := G) (S := S) (M := M) hin
  rw [sm_e_obj hk] at hg
  rw [List.map_cons, sm_v_r hin.1]
  have k1 := kk H locs A hs
  refine va_get C.1 C.2.1 (args := args) (Ts := u_ws (pg_cn ci) (pg_fT ci) (pg_nf ci)) (fun w hw => sm_tb C ((sm_cls_ok ci hc).2.1 w hw) (sm_u_good w hw)) (fun w hw => hw) C.2.2.2.1 C.2.2.2.2.2.1.2.2.2 hs.1 (k - 1) hg (sm_cls_ok ci hc).1 b hb (sm_fl C hb hc hf) (fun _ h9 => h9) (v := sm_v G v) ?_ hd k1
  rw [sm_f_get hb, hv]
  by_cases hr : pg_isr ci b = true
  · rw [if_pos hr, if_pos hr]; rfl
  · rw [if_neg hr, if_neg hr]; rfl
theorem sm_put (C : sm_C p R s m meth c G z S0 Fin) {k q ci b : Nat} {x : Int} (hk : am_kd S k = (4, ci)) (hc : ci < 10) (hb : b < pg_nf ci) (hf : pg_fl.any (fun r => decide (r.1 = (pg_oc z, q, ci, b))) = true) (hd : decode (pg_c z) pc = .ok (.putfield q, 3)) (hr : ¬ pg_isr ci b = true) (hfin : (pg_fT ci b).2.2.2 = false) (hty : pg_ft ci b = .int ∨ pg_ft ci b = .boolean ∧ (x = 0 ∨ x = 1))
    (kk : sm_W p l e R s m args below meth c Q G z S0 (pc + 3) ls st S (am_wr M k (b : Int) x)) : sm_W p l e R s m args below meth c Q G z S0 pc ls (am_i x :: am_r k :: st) S M := by
  intro H locs A hs
  have hin := sm_kd_in (S := S) (k := k) (by rw [hk]; show (4 : Nat) ≠ 9; decide)
  have hg := sm_w_get (G := G) (S := S) (M := M) hin
  rw [sm_e_obj hk] at hg
  rw [List.map_cons, List.map_cons, sm_v_r hin.1]
  obtain ⟨c1, c2, c3, c4, c5⟩ := sm_cls_ok ci hc
  have hnf : narrow (pg_ft ci b) (sm_v G (am_i x)) = sm_v G (am_i x) ∧ fits (pg_ft ci b) (sm_v G (am_i x)) = true := by
    rcases hty with h | ⟨h, rfl | rfl⟩
    · rw [h]; exact ⟨rfl, rfl⟩
    · rw [h]; exact ⟨rfl, rfl⟩
    · rw [h]; exact ⟨rfl, rfl⟩
  refine va_put C.1 C.2.1 (args := args) (Ts := u_ws (pg_cn ci) (pg_fT ci) (pg_nf ci)) (fun w hw => sm_tb C (c2 w hw) (sm_u_good w hw)) (fun w hw => hw) (pg_ft ci) c3 c4 C.2.2.2.1 C.2.2.2.2.2.1.2.2.2 hs.1 (sm_D G S M) hs.2.2.1 (k - 1) hg c1 b hb (sm_fl C hb hc hf) (fun _ h9 => h9) hfin (c3 b hb) hnf.1 hnf.2 (by rw [sm_f_len]; exact hb) hd (fun H1 locs1 hP1 _ hS1 => ?_)
  refine sm_stored C hs hin rfl rfl kk ?_ hS1
  rw [show sm_v G (am_i x) = Value.int (Int32.ofInt x) from rfl, sm_f_wr hb hr, ← sm_e_obj (G := G) (M := am_wr M k (b : Int) x) hk, sm_w_set rfl hin (fun j hj => sm_kd_wr S M hj)] at hP1
  exact hP1
theorem sm_putr (C : sm_C p R s m meth c G z S0 Fin) {k q ci b x : Nat} (hk : am_kd S k = (4, ci)) (hx : 0 < x) (hc : ci < 10) (hb : b < pg_nf ci) (hf : pg_fl.any (fun r => decide (r.1 = (pg_oc z, q, ci, b))) = true) (hd : decode (pg_c z) pc = .ok (.putfield q, 3)) (hr : pg_isr ci b = true) (hfin : (pg_fT ci b).2.2.2 = true) (hnm : (pg_y z).name = "<init>") (hoc : pg_oc z = ci)
    (kk : sm_W p l e R s m args below meth c Q G z S0 (pc + 3) ls st (am_set S k (b : Int) x) M) : sm_W p l e R s m args below meth c Q G z S0 pc ls (am_r x :: am_r k :: st) S M := by
  intro H locs A hs
  have hin := sm_kd_in (S := S) (k := k) (by rw [hk]; show (4 : Nat) ≠ 9; decide)
  have hg := sm_w_get (G := G) (S := S) (M := M) hin
  rw [sm_e_obj hk] at hg
  rw [List.map_cons, List.map_cons, sm_v_r hin.1, sm_v_r hx]
  obtain ⟨c1, c2, c3, c4, c5⟩ := sm_cls_ok ci hc
  have hnf : narrow (pg_ft ci b) (.ref (sm_b G + x)) = .ref (sm_b G + x) ∧ fits (pg_ft ci b) (.ref (sm_b G + x)) = true := by
    unfold pg_isr at hr
    cases hq : pg_ft ci b with
    | object n => exact ⟨rfl, rfl⟩
    | array n => exact ⟨rfl, rfl⟩
    | _ => rw [hq] at hr; cases hr
  refine va_putF C.1 C.2.1 (args := args) (Ts := u_ws (pg_cn ci) (pg_fT ci) (pg_nf ci)) (fun w hw => sm_tb C (c2 w hw) (sm_u_good w hw)) (fun w hw => hw) (pg_ft ci) c3 c4 C.2.2.2.1 C.2.2.2.2.2.1.2.2.2 hs.1 (sm_D G S M) hs.2.2.1 (k - 1) hg c1 b hb (sm_fl C hb hc hf) (fun _ h9 => h9) hfin (C.2.2.2.2.1 hnm) (by rw [c5 b hb, hoc]) (c3 b hb) hnf.1 hnf.2 (by rw [sm_f_len]; exact hb) hd (fun H1 locs1 hP1 _ hS1 => ?_)
  refine sm_stored (S' := am_set S k (b : Int) x) C hs hin rfl rfl kk ?_ hS1
  have e1 : Value.ref (sm_b G + x) = va_rf (sm_o G x) := by rw [sm_o_pos hx]; rfl
  have e2 : sm_e G (am_set S k (b : Int) x) M k = _ := sm_e_obj (G := G) (S := am_set S k (b : Int) x) (M := M) (k := k) hk
  rw [e1, sm_f_sr hb hr, ← e2, sm_w_set (G := G) (S := S) (M := M) (S' := am_set S k (b : Int) x) (M' := M) rfl hin (fun j hj => sm_e_set S M hj)] at hP1
  exact hP1
end SM2
