/-! calls, returns, and the simulation -/
/-- a method's start and end, by abstract states -/
def sm_Pc (G : sm_G) (as : List am_V) (S : am_S) (M : am_M) : Array Value → State → Prop := fun v U => v = (as.map (sm_v G)).toArray ∧ sm_K G U ∧ va_P G.1 pg_cls (sm_w G S M) U.heap ∧ U.heap.size = sm_b G + am_n S + 1 ∧ sm_X G S U U.heap
def sm_Qc (G : sm_G) (r : am_Z) : Array Value → State → Outcome → State → Prop := fun _ st oc t => oc = .returned (r.1.map (sm_v G)) ∧ va_P G.1 pg_cls (sm_w G r.2.1 r.2.2) t.heap ∧ t.heap.size = sm_b G + am_n r.2.1 + 1 ∧ va_F (sm_A G) st t
def sm_rm (z : Nat) (S S' : am_S) : Room := { frames := pg_ht z, cells := am_n S' - am_n S, slots := am_sl S' - am_sl S, locals := 30 * pg_ht z }
def sm_ws (z : Nat) : List Cond := [.code (pg_y z) (pg_c z) (pg_mx z) (pg_rt z)]
def sm_Met (l : Launch) (G : sm_G) (z : Nat) (as : List am_V) (S : am_S) (M : am_M) (r : am_Z) : Prop := Met l (pg_y z) (sm_ws z) (sm_rm z S r.2.1) (sm_Pc G as S M) (sm_Qc G r) (am_n r.2.1 - am_n S) (am_sl r.2.1 - am_sl S) (sm_A G)
theorem sm_blind (G : sm_G) (as : List am_V) (S : am_S) (M : am_M) : FrameBlind (sm_Pc G as S M) := by
  intro a U g mk h
  obtain ⟨h1, h2, h3, h4, h5, h6⟩ := h
  exact ⟨h1, sm_K_moved (s := U) (U := U.calling g mk a) (State.WarmedH.refl U) h2, h3, h4, va_X.moved (u := U) (U := U.calling g mk a) (Vm.Alike.refl U.vm) h5, h6⟩
theorem sm_cd : ∀ z, z < 179 → Cond.code (pg_y z) (pg_c z) (pg_mx z) (pg_rt z) ∈ lw_tbl := by
  intro z hz
  match z, hz with
  | 0, _ => exact pg_cd0
  | 1, _ => exact pg_cd1
  | 2, _ => exact pg_cd2
  | 3, _ => exact pg_cd3
  | 4, _ => exact pg_cd4
  | 5, _ => exact pg_cd5
  | 6, _ => exact pg_cd6
  | 7, _ => exact pg_cd7
  | 8, _ => exact pg_cd8
  | 9, _ => exact pg_cd9
  | 10, _ => exact pg_cd10
  | 11, _ => exact pg_cd11
  | 12, _ => exact pg_cd12
  | 13, _ => exact pg_cd13
  | 14, _ => exact pg_cd14
  | 15, _ => exact pg_cd15
  | 16, _ => exact pg_cd16
  | 17, _ => exact pg_cd17
  | 18, _ => exact pg_cd18
  | 19, _ => exact pg_cd19
  | 20, _ => exact pg_cd20
  | 21, _ => exact pg_cd21
  | 22, _ => exact pg_cd22
  | 23, _ => exact pg_cd23
  | 24, _ => exact pg_cd24
  | 25, _ => exact pg_cd25
  | 26, _ => exact pg_cd26
  | 27, _ => exact pg_cd27
  | 28, _ => exact pg_cd28
  | 29, _ => exact pg_cd29
  | 30, _ => exact pg_cd30
  | 31, _ => exact pg_cd31
  | 32, _ => exact pg_cd32
  | 33, _ => exact pg_cd33
  | 34, _ => exact pg_cd34
  | 35, _ => exact pg_cd35
  | 36, _ => exact pg_cd36
  | 37, _ => exact pg_cd37
  | 38, _ => exact pg_cd38
  | 39, _ => exact pg_cd39
  | 40, _ => exact pg_cd40
  | 41, _ => exact pg_cd41
  | 42, _ => exact pg_cd42
  | 43, _ => exact pg_cd43
  | 44, _ => exact pg_cd44
  | 45, _ => exact pg_cd45
  | 46, _ => exact pg_cd46
  | 47, _ => exact pg_cd47
  | 48, _ => exact pg_cd48
  | 49, _ => exact pg_cd49
  | 50, _ => exact pg_cd50
  | 51, _ => exact pg_cd51
  | 52, _ => exact pg_cd52
  | 53, _ => exact pg_cd53
  | 54, _ => exact pg_cd54
  | 55, _ => exact pg_cd55
  | 56, _ => exact pg_cd56
  | 57, _ => exact pg_cd57
  | 58, _ => exact pg_cd58
  | 59, _ => exact pg_cd59
  | 60, _ => exact pg_cd60
  | 61, _ => exact pg_cd61
  | 62, _ => exact pg_cd62
  | 63, _ => exact pg_cd63
  | 64, _ => exact pg_cd64
  | 65, _ => exact pg_cd65
  | 66, _ => exact pg_cd66
  | 67, _ => exact pg_cd67
  | 68, _ => exact pg_cd68
  | 69, _ => exact pg_cd69
  | 70, _ => exact pg_cd70
  | 71, _ => exact pg_cd71
  | 72, _ => exact pg_cd72
  | 73, _ => exact pg_cd73
  | 74, _ => exact pg_cd74
  | 75, _ => exact pg_cd75
  | 76, _ => exact pg_cd76
  | 77, _ => exact pg_cd77
  | 78, _ => exact pg_cd78
  | 79, _ => exact pg_cd79
  | 80, _ => exact pg_cd80
  | 81, _ => exact pg_cd81
  | 82, _ => exact pg_cd82
  | 83, _ => exact pg_cd83
  | 84, _ => exact pg_cd84
  | 85, _ => exact pg_cd85
  | 86, _ => exact pg_cd86
  | 87, _ => exact pg_cd87
  | 88, _ => exact pg_cd88
  | 89, _ => exact pg_cd89
  | 90, _ => exact pg_cd90
  | 91, _ => exact pg_cd91
  | 92, _ => exact pg_cd92
  | 93, _ => exact pg_cd93
  | 94, _ => exact pg_cd94
  | 95, _ => exact pg_cd95
  | 96, _ => exact pg_cd96
  | 97, _ => exact pg_cd97
  | 98, _ => exact pg_cd98
  | 99, _ => exact pg_cd99
  | 100, _ => exact pg_cd100
  | 101, _ => exact pg_cd101
  | 102, _ => exact pg_cd102
  | 103, _ => exact pg_cd103
  | 104, _ => exact pg_cd104
  | 105, _ => exact pg_cd105
  | 106, _ => exact pg_cd106
  | 107, _ => exact pg_cd107
  | 108, _ => exact pg_cd108
  | 109, _ => exact pg_cd109
  | 110, _ => exact pg_cd110
  | 111, _ => exact pg_cd111
  | 112, _ => exact pg_cd112
  | 113, _ => exact pg_cd113
  | 114, _ => exact pg_cd114
  | 115, _ => exact pg_cd115
  | 116, _ => exact pg_cd116
  | 117, _ => exact pg_cd117
  | 118, _ => exact pg_cd118
  | 119, _ => exact pg_cd119
  | 120, _ => exact pg_cd120
  | 121, _ => exact pg_cd121
  | 122, _ => exact pg_cd122
  | 123, _ => exact pg_cd123
  | 124, _ => exact pg_cd124
  | 125, _ => exact pg_cd125
  | 126, _ => exact pg_cd126
  | 127, _ => exact pg_cd127
  | 128, _ => exact pg_cd128
  | 129, _ => exact pg_cd129
  | 130, _ => exact pg_cd130
  | 131, _ => exact pg_cd131
  | 132, _ => exact pg_cd132
  | 133, _ => exact pg_cd133
  | 134, _ => exact pg_cd134
  | 135, _ => exact pg_cd135
  | 136, _ => exact pg_cd136
  | 137, _ => exact pg_cd137
  | 138, _ => exact pg_cd138
  | 139, _ => exact pg_cd139
  | 140, _ => exact pg_cd140
  | 141, _ => exact pg_cd141
  | 142, _ => exact pg_cd142
  | 143, _ => exact pg_cd143
  | 144, _ => exact pg_cd144
  | 145, _ => exact pg_cd145
  | 146, _ => exact pg_cd146
  | 147, _ => exact pg_cd147
  | 148, _ => exact pg_cd148
  | 149, _ => exact pg_cd149
  | 150, _ => exact pg_cd150
  | 151, _ => exact pg_cd151
  | 152, _ => exact pg_cd152
  | 153, _ => exact pg_cd153
  | 154, _ => exact pg_cd154
  | 155, _ => exact pg_cd155
  | 156, _ => exact pg_cd156
  | 157, _ => exact pg_cd157
  | 158, _ => exact pg_cd158
  | 159, _ => exact pg_cd159
  | 160, _ => exact pg_cd160
  | 161, _ => exact pg_cd161
  | 162, _ => exact pg_cd162
  | 163, _ => exact pg_cd163
  | 164, _ => exact pg_cd164
  | 165, _ => exact pg_cd165
  | 166, _ => exact pg_cd166
  | 167, _ => exact pg_cd167
  | 168, _ => exact pg_cd168
  | 169, _ => exact pg_cd169
  | 170, _ => exact pg_cd170
  | 171, _ => exact pg_cd171
  | 172, _ => exact pg_cd172
  | 173, _ => exact pg_cd173
  | 174, _ => exact pg_cd174
  | 175, _ => exact pg_cd175
  | 176, _ => exact pg_cd176
  | 177, _ => exact pg_cd177
  | 178, _ => exact pg_cd178
  | z + 179, h => exact absurd h (by omega)
theorem sm_okY {z : Nat} (h : z < 180) : plainName (pg_y z).cls = true ∧ pg_cn (pg_oc z) = (pg_y z).cls ∧ ((pg_y z).cls ≠ "java/lang/invoke/MethodHandle" ∧ (pg_y z).cls ≠ "java/lang/invoke/VarHandle") ∧ pg_mx z ≤ 10 ∧ pg_oc z < 13 ∧ pg_ht z ≤ 8 := by
  have h1 := List.all_eq_true.mp pg_okY_all z (List.mem_range.mpr h)
  unfold pg_okY at h1
  simp only [Bool.and_eq_true, decide_eq_true_eq] at h1
  exact ⟨h1.1.1.1.1.1, h1.1.1.1.1.2, h1.1.1.1.2, h1.1.1.2, h1.1.2, h1.2⟩
section SM4
variable {p : Program} {l : Launch} {e : Env} {R : Room} {s : State} {m : MethodId} {args : Array Value} {below : List Frame} {meth : Method} {c : Code} {Q : State → Prop} {G : sm_G} {z : Nat} {S0 : am_S} {Fin : am_Z} {pc : Nat} {ls : am_L} {st : am_K} {S : am_S} {M : am_M}
/-- behind a call -/
theorem sm_back (C : sm_C p R s m meth c G z S0 Fin) {H : Heap} {locs : List Loc} {A : Array Slot} (hs : sm_St s G z S0 ls S M H locs A) {r : am_Z} {st0 : List Value} {a : Array Value} (hn : am_n S ≤ am_n r.2.1 ∧ am_sl S ≤ am_sl r.2.1) (h1 : r.2.1.1 = S.1)
    (hr : va_Run p l e R s m args below meth c H locs (am_n S - am_n S0) (am_sl S - am_sl S0) (am_n r.2.1 - am_n S) (am_sl r.2.1 - am_sl S) (F0 m pc A st0) (st.map (sm_v G)) (sm_Qc G r a) (sm_A G))
    (kk : sm_W p l e R s m args below meth c Q G z S0 (pc + 3) ls (am_push r.1 st) r.2.1 r.2.2) : W p l e R s m args below meth c H locs (am_n S - am_n S0) (am_sl S - am_sl S0) Q (F0 m pc A st0) := by
  intro T hT X
  obtain ⟨v, st₀, t, T', L, h0, X', hL, e1, e2, ⟨hv, hP, hz, hF⟩, stp⟩ := hr T hT X
  have hv : v = r.1.map (sm_v G) := Outcome.returned.inj hv
  subst hv
  have hS := hs.2.2.1
  have hle := hs.2.2.2.2.1
  have hle2 := hs.2.2.2.2.2.1
  obtain ⟨f1, f2⟩ := hF
  rw [h0] at f1 f2
  have hS' : va_S (sm_A G) s.heap T'.heap (locs ++ L) := by
    refine ⟨Nat.le_trans hS.1 (by rw [e1]; exact f1), fun q q1 q2 => ?_, fun q hq => ?_⟩
    · rw [e1, f2 q (Nat.lt_of_lt_of_le q1 hS.1) q2]; exact hS.2.1 q q1 q2
    · rcases List.mem_append.mp hq with h | h
      · exact hS.2.2 q h
      · exact hL q h
  have k1 := kk T'.heap (locs ++ L) A ⟨by rw [e1]; exact hP, by rw [e1]; exact hz, hS', hs.2.2.2.1, by omega, by omega, h1.trans hs.2.2.2.2.2.2⟩
  have ec : am_n r.2.1 - am_n S0 = am_n S - am_n S0 + (am_n r.2.1 - am_n S) := by omega
  have es : am_sl r.2.1 - am_sl S0 = am_sl S - am_sl S0 + (am_sl r.2.1 - am_sl S) := by omega
  rw [ec, es] at k1
  obtain ⟨t2, a1, b1⟩ := k1 T' rfl X'
  refine ⟨t2, stp t2 ?_, b1⟩
  have ef : ({ F0 m pc A st0 with pc := (F0 m pc A st0).pc + 3, stack := (r.1.map (sm_v G)).toList ++ st.map (sm_v G) } : JFrame) = F0 m (pc + 3) A ((am_push r.1 st).map (sm_v G)) := by
    cases r.1 with
    | none => rfl
    | some v => rfl
  rw [ef]
  exact a1
theorem sm_callB (C : sm_C p R s m meth c G z S0 Fin) {y n q : Nat} {r : am_Z} (hy : y < 179) (hh : pg_ht y < pg_ht z) (hp : pg_pn y = some n) (hl : (Cond.methodLink (pg_cn (pg_oc z)) q (pg_y y)).before args s = true) : CallB R s args (pg_cn (pg_oc z)) q (pg_y y) (pg_c y) (pg_mx y) (pg_rt y) (sm_ws y) (sm_rm y S r.2.1) (am_n r.2.1 - am_n S) (am_sl r.2.1 - am_sl S) n := by
  obtain ⟨o1, o2, o3, o4, o5, o6⟩ := sm_okY (z := y) (by omega)
  have hrm := C.2.2.2.2.2.2.2.1
  have hcode := sm_cd y hy
  have hz : pg_zl.any (fun q => decide (q.1 = pg_oc y)) = true := by
    have : ∀ ci, ci < 13 → pg_zl.any (fun q => decide (q.1 = ci)) = true := by decide +kernel
    exact this _ o5
  have hini : (Cond.initialized (pg_y y).cls).before args s = true := by
    have h := sm_tb (args := args) C (pg_key pg_zl_ok hz) rfl
    unfold pg_zC at h
    rw [o2] at h
    exact h
  refine ⟨rfl, rfl, by show pg_ht y + 1 ≤ _; omega, by show 8 + (pg_mx y + 11) + 30 * pg_ht y ≤ _; omega, ?_, List.mem_singleton.mpr rfl, sm_tb C hcode rfl, hini, o3, fun sig h => ?_, hl⟩
  · intro w hw a' U hW
    rw [List.mem_singleton.mp hw]
    exact word_at hW (good_of_word (by rfl)) (sm_tb (args := args) C hcode rfl)
  · unfold pg_pn at hp
    rw [h] at hp
    exact (Option.some.inj hp).symm
theorem sm_pre (C : sm_C p R s m meth c G z S0 Fin) {H : Heap} {locs : List Loc} {A : Array Slot} (hs : sm_St s G z S0 ls S M H locs A) {as : List am_V} : ∀ U : State, U.heap = H → s.WarmedH U.vm → sm_Pc G as S M (as.map (sm_v G)).toArray U := by
  intro U hU hW
  obtain ⟨hX, hb⟩ := C.2.2.2.2.2.2.2.2.2.2
  obtain ⟨e1, e2⟩ := sm_sn_eq hs.2.2.2.2.2.2
  refine ⟨rfl, sm_K_moved hW C.2.2.2.2.2.1, by rw [hU]; exact hs.1, by rw [hU]; exact hs.2.1, ?_, hb⟩
  rw [hU]
  have h1 := (hX.kept (H1 := H) (hs.2.2.1.2.1 _ (by have := C.2.2.2.2.2.2.1; omega) (Nat.not_lt.mpr hb))).moved hW.alike
  have e3 : (fun j : Nat => Int32.ofInt (am_sx S (j : Int))) = fun j : Nat => Int32.ofInt (am_sx S0 (j : Int)) := by funext j; rw [e2]
  rw [e1, e3]
  exact h1
theorem sm_fits (C : sm_C p R s m meth c G z S0 Fin) {H : Heap} {locs : List Loc} {A : Array Slot} (hs : sm_St s G z S0 ls S M H locs A) {r : am_Z} (hn : am_n S ≤ am_n r.2.1 ∧ am_sl S ≤ am_sl r.2.1) (hf : am_n r.2.1 ≤ am_n Fin.2.1 ∧ am_sl r.2.1 ≤ am_sl Fin.2.1) : am_n S - am_n S0 + (am_n r.2.1 - am_n S) ≤ R.cells ∧ am_sl S - am_sl S0 + (am_sl r.2.1 - am_sl S) ≤ R.slots := by
  have a := C.2.2.2.2.2.2.2.2.1
  have b := hs.2.2.2.2.1
  have d := hs.2.2.2.2.2.1
  exact ⟨by omega, by omega⟩
theorem sm_rest {G : sm_G} {st : am_K} {m : MethodId} {pc : Nat} {A : Array Slot} {st0 : List Value} (h : st.length ≤ 4) : 2 * (F0 m pc A st0).monitorRoom + ((st.map (sm_v G)).map fun v => v.category).sum ≤ 8 := lv_room (by have := sm_cats (G := G) h; omega)
theorem sm_callV (C : sm_C p R s m meth c G z S0 Fin) {y q k n : Nat} {as : List am_V} {r : am_Z} (hM : sm_Met l G y (am_r k :: as) S M r) (hk : am_kd S k = (4, pg_oc y)) (hy : y < 179) (hh : pg_ht y < pg_ht z) (hn1 : as.length = n) (hp : pg_pn y = some n) (hf : pg_ml.any (fun t => decide (t.1 = (pg_oc z, q, y))) = true) (hse : pg_el.any (fun t => decide (t.1 = y)) = true) (hin : pg_vl.any (fun t => decide (t.1 = y)) = true) (hc : pg_oc y < 10)
    (hrl : st.length ≤ 4) (hn : am_n S ≤ am_n r.2.1 ∧ am_sl S ≤ am_sl r.2.1) (hN : am_n r.2.1 ≤ am_n Fin.2.1 ∧ am_sl r.2.1 ≤ am_sl Fin.2.1) (h1 : r.2.1.1 = S.1) (hd : decode (pg_c z) pc = .ok (.invokevirtual q, 3))
    (kk : sm_W p l e R s m args below meth c Q G z S0 (pc + 3) ls (am_push r.1 st) r.2.1 r.2.2) : sm_W p l e R s m args below meth c Q G z S0 pc ls (as.reverse ++ am_r k :: st) S M := by
  intro H locs A hs
  have hi := sm_kd_in (S := S) (k := k) (by rw [hk]; show (4 : Nat) ≠ 9; decide)
  have hg := sm_w_get (G := G) (S := S) (M := M) hi
  rw [sm_e_obj hk] at hg
  have hpre := sm_pre C hs (as := am_r k :: as)
  rw [List.map_cons, sm_v_r hi.1] at hpre
  have hrecv := va_recv C.2.2.2.2.2.1.2.2.2 hs.1 (sm_cls_ok (pg_oc y) hc).1 hg
  refine sm_back C hs hn h1 (a := (Value.ref (sm_b G + k) :: as.map (sm_v G)).toArray) ?_ kk
  have hmv := sm_tb (args := args) C (pg_key pg_vl_ok hin) rfl
  have hms := sm_tb (args := args) C (pg_key pg_el_ok hse) rfl
  refine va_runV (As := as.map (sm_v G)) (rest := st.map (sm_v G)) (Ts := []) (b := sm_b G + k) (n := n) (C := pg_cn (pg_oc y)) (nL := pg_mx z) ⟨C.1, C.2.1, C.2.2.1, C.2.2.2.1, fun w hw => by cases hw⟩ hM ⟨sm_callB C hy hh hp (sm_tb C (pg_key pg_ml_ok hf) rfl), hmv, hms⟩ ⟨sm_blind _ _ _ _, hrecv, hpre⟩ rfl (by rw [List.length_map]; exact hn1) hs.2.2.2.1.1 ?_ (sm_rest hrl) hd (sm_fits C hs hn hN)
  show (as.reverse ++ am_r k :: st).map (sm_v G) = _
  rw [List.map_append, List.map_cons, List.map_reverse, sm_v_r hi.1]
theorem sm_callS (C : sm_C p R s m meth c G z S0 Fin) {y q n : Nat} {as : List am_V} {r : am_Z} (hM : sm_Met l G y as S M r) (hy : y < 179) (hh : pg_ht y < pg_ht z) (hn1 : as.length = n) (hp : pg_pn y = some n) (hf : pg_ml.any (fun t => decide (t.1 = (pg_oc z, q, y))) = true) (hin : pg_sl.any (fun t => decide (t.1 = y)) = true)
    (hrl : st.length ≤ 4) (hn : am_n S ≤ am_n r.2.1 ∧ am_sl S ≤ am_sl r.2.1) (hN : am_n r.2.1 ≤ am_n Fin.2.1 ∧ am_sl r.2.1 ≤ am_sl Fin.2.1) (h1 : r.2.1.1 = S.1) (hd : decode (pg_c z) pc = .ok (.invokestatic q, 3))
    (kk : sm_W p l e R s m args below meth c Q G z S0 (pc + 3) ls (am_push r.1 st) r.2.1 r.2.2) : sm_W p l e R s m args below meth c Q G z S0 pc ls (as.reverse ++ st) S M := by
  intro H locs A hs
  refine sm_back C hs hn h1 (a := (as.map (sm_v G)).toArray) ?_ kk
  refine va_runS (As := as.map (sm_v G)) (rest := st.map (sm_v G)) (Ts := []) (n := n) (nL := pg_mx z) ⟨C.1, C.2.1, C.2.2.1, C.2.2.2.1, fun w hw => by cases hw⟩ hM ⟨sm_callB C hy hh hp (sm_tb C (pg_key pg_ml_ok hf) rfl), sm_tb (args := args) C (pg_key pg_sl_ok hin) rfl⟩ ⟨sm_blind _ _ _ _, sm_pre C hs⟩ rfl (by rw [List.length_map]; exact hn1) hs.2.2.2.1.1 ?_ (sm_rest hrl) hd (sm_fits C hs hn hN)
  show (as.reverse ++ st).map (sm_v G) = _
  rw [List.map_append, List.map_reverse]
theorem sm_callI (C : sm_C p R s m meth c G z S0 Fin) {y q k n : Nat} {as : List am_V} {r : am_Z} (hM : sm_Met l G y (am_r k :: as) S M r) (hk : 0 < k) (hy : y < 179) (hh : pg_ht y < pg_ht z) (hn1 : as.length = n) (hp : pg_pn y = some n) (hf : pg_ml.any (fun t => decide (t.1 = (pg_oc z, q, y))) = true ∨ pg_xl.any (fun t => decide (t.1 = (pg_oc z, q, y))) = true) (hin : pg_vl.any (fun t => decide (t.1 = y)) = true) (hnm : (pg_y y).name = "<init>") (hrt : pg_rt y = none)
    (hrl : st.length ≤ 4) (hn : am_n S ≤ am_n r.2.1 ∧ am_sl S ≤ am_sl r.2.1) (hN : am_n r.2.1 ≤ am_n Fin.2.1 ∧ am_sl r.2.1 ≤ am_sl Fin.2.1) (h1 : r.2.1.1 = S.1) (hd : decode (pg_c z) pc = .ok (.invokespecial q, 3))
    (kk : sm_W p l e R s m args below meth c Q G z S0 (pc + 3) ls (am_push r.1 st) r.2.1 r.2.2) : sm_W p l e R s m args below meth c Q G z S0 pc ls (as.reverse ++ am_r k :: st) S M := by
  intro H locs A hs
  have hpre := sm_pre C hs (as := am_r k :: as)
  rw [List.map_cons, sm_v_r hk] at hpre
  refine sm_back C hs hn h1 (a := (Value.ref (sm_b G + k) :: as.map (sm_v G)).toArray) ?_ kk
  have hmv := sm_tb (args := args) C (pg_key pg_vl_ok hin) rfl
  have hst : (F0 m pc A ((as.reverse ++ am_r k :: st).map (sm_v G))).stack = (as.map (sm_v G)).reverse ++ Value.ref (sm_b G + k) :: st.map (sm_v G) := by
    show (as.reverse ++ am_r k :: st).map (sm_v G) = _
    rw [List.map_append, List.map_cons, List.map_reverse, sm_v_r hk]
  rcases hf with hf | hf
  · have hB := sm_callB (r := r) (S := S) (args := args) C hy hh hp (sm_tb C (pg_key pg_ml_ok hf) rfl)
    rw [hrt] at hB
    exact va_runI (As := as.map (sm_v G)) (rest := st.map (sm_v G)) (Ts := []) (b := sm_b G + k) (n := n) (nL := pg_mx z) ⟨C.1, C.2.1, C.2.2.1, C.2.2.2.1, fun w hw => by cases hw⟩ hM ⟨hB, hnm, hmv⟩ ⟨sm_blind _ _ _ _, hpre⟩ rfl (by rw [List.length_map]; exact hn1) hs.2.2.2.1.1 hst (sm_rest hrl) hd (sm_fits C hs hn hN)
  · obtain ⟨o1, o2, o3, o4, o5, o6⟩ := sm_okY (z := y) (by omega)
    have hrm := C.2.2.2.2.2.2.2.1
    have hcode := sm_cd y hy
    have hz : pg_zl.any (fun q => decide (q.1 = pg_oc y)) = true := by
      have : ∀ ci, ci < 13 → pg_zl.any (fun q => decide (q.1 = ci)) = true := by decide +kernel
      exact this _ o5
    have hini : (Cond.initialized (pg_y y).cls).before args s = true := by
      have h := sm_tb (args := args) C (pg_key pg_zl_ok hz) rfl
      unfold pg_zC at h
      rw [o2] at h
      exact h
    have hB : va_CN R s args (pg_cn (pg_oc z)) q (pg_y y) "PersonLines" (pg_c y) (pg_mx y) (pg_rt y) (sm_ws y) (sm_rm y S r.2.1) (am_n r.2.1 - am_n S) (am_sl r.2.1 - am_sl S) n := by
      refine ⟨⟨rfl, rfl, by show pg_ht y + 1 ≤ _; omega, by show 8 + (pg_mx y + 11) + 30 * pg_ht y ≤ _; omega, ?_, List.mem_singleton.mpr rfl⟩, sm_tb C hcode rfl, hini, o3, fun sig h => ?_, sm_tb C (pg_key pg_xl_ok hf) rfl⟩
      · intro w hw a' U hW
        rw [List.mem_singleton.mp hw]
        exact word_at hW (good_of_word (by rfl)) (sm_tb (args := args) C hcode rfl)
      · unfold pg_pn at hp
        rw [h] at hp
        exact (Option.some.inj hp).symm
    rw [hrt] at hB
    exact va_runIN (As := as.map (sm_v G)) (rest := st.map (sm_v G)) (Ts := []) (b := sm_b G + k) (n := n) (nL := pg_mx z) ⟨C.1, C.2.1, C.2.2.1, C.2.2.2.1, fun w hw => by cases hw⟩ hM ⟨hB, hnm, hmv⟩ ⟨sm_blind _ _ _ _, hpre⟩ rfl (by rw [List.length_map]; exact hn1) hs.2.2.2.1.1 hst (sm_rest hrl) hd (sm_fits C hs hn hN)
end SM4
