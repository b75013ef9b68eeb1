/-! THE SIMULATION: what the abstract machine answers, the machine answers -/
theorem sm_look {pc : Nat} {is : List am_E} : ∀ {l : List (Nat × List am_E)}, pg_look pc l = some is → (pc, is) ∈ l := by
  intro l
  induction l with
  | nil => intro h; cases h
  | cons q l ih =>
    intro h
    unfold pg_look at h
    by_cases hq : q.1 = pc
    · rw [if_pos hq] at h
      have e : q = (pc, is) := by rw [← hq, ← Option.some.inj h]
      rw [e]; exact List.mem_cons_self
    · rw [if_neg hq] at h
      exact List.mem_cons_of_mem _ (ih h)
theorem sm_okB {z pc : Nat} {is : List am_E} (hz : z < 180) (h : pg_blk z pc = some is) : pg_okL z pc is = true := by
  have h1 := pg_ok_all z hz
  unfold pg_okM at h1
  exact List.all_eq_true.mp h1 _ (sm_look h)
section SM6
variable {p : Program} {l : Launch} {e : Env} {R : Room} {s : State} {m : MethodId} {args : Array Value} {below : List Frame} {meth : Method} {c : Code} {Q : State → Prop} {G : sm_G} {z : Nat} {S0 : am_S} {Fin : am_Z}
theorem sm_run (C : sm_C p R s m meth c G z S0 Fin) (hR : sm_Rt p l e R s m args below meth c Q G z S0 Fin) (hC : ∀ y as S M r, am_call y as S M = some r → y < 179 → pg_ht y < pg_ht z → sm_Met l G y as S M r) :
    ∀ (f pc : Nat) (ls : am_L) (st : am_K) (S : am_S) (M : am_M), am_run f z pc ls st S M = some Fin → sm_W p l e R s m args below meth c Q G z S0 pc ls st S M := by
  intro f
  induction f with
  | zero => intro pc ls st S M h; cases h
  | succ f ih =>
    intro pc ls st S M h
    unfold am_run at h
    cases hb : pg_blk z pc with
    | none => rw [hb] at h; cases h
    | some is =>
      rw [hb] at h
      refine sm_RB C hR (fun pc ls st S M h => ih pc ls st S M h) (fun pc ls st S M r h => am_run_gr f z pc ls st S M r h) (fun y as S M r h h1 h2 => ?_) (fun y as S M r h => am_run_gr f y 0 _ _ S M r (am_in_some h).2) is pc ls st S M (sm_okB C.2.2.2.2.2.2.2.2.2.1 hb) h
      obtain ⟨g1, g2⟩ := am_in_some h
      exact hC y as S M r ((am_in_t g1).trans (am_R_of g2)) h1 h2
end SM6
/-- the locals at a method's entry -/
theorem sm_args_mem {G : sm_G} {lg : List Nat} : ∀ {as : List am_V} {k i : Nat} {v : am_V}, pg_lok lg k (pg_spread as) = true → (pg_spread as)[i]? = some (some v) → (k + i, sm_v G v) ∈ lv_args k (as.map (sm_v G)) ∧ ((sm_v G v).category = 2 → k + i ∈ lg) := by
  intro as
  induction as with
  | nil => intro k i v _ h; simp [pg_spread] at h
  | cons w as ih =>
    intro k i v hok h
    match w, hok, h with
    | .inr (.inl x), hok, h =>
      have hok : (lg.contains k && pg_lok lg (k + 1) (none :: pg_spread as)) = true := hok
      rw [Bool.and_eq_true] at hok
      have hok2 : pg_lok lg (k + 1 + 1) (pg_spread as) = true := hok.2
      have h : (some (.inr (.inl x)) :: none :: pg_spread as)[i]? = some (some v) := h
      show _ ∈ ((k, sm_v G (.inr (.inl x))) :: lv_args (if (sm_v G (.inr (.inl x))).category = 2 then k + 2 else k + 1) (as.map (sm_v G))) ∧ _
      match i, h with
      | 0, h =>
        cases h
        exact ⟨List.mem_cons_self, fun _ => by simpa using hok.1⟩
      | 1, h => cases h
      | i + 2, h =>
        have h3 := ih (k := k + 1 + 1) (i := i) hok2 h
        rw [show k + 1 + 1 + i = k + (i + 2) by omega] at h3
        exact ⟨List.mem_cons_of_mem _ h3.1, h3.2⟩
    | .inl x, hok, h =>
      have hok2 : pg_lok lg (k + 1) (pg_spread as) = true := hok
      have h : (some (.inl x) :: pg_spread as)[i]? = some (some v) := h
      show _ ∈ ((k, sm_v G (.inl x)) :: lv_args (if (sm_v G (.inl x)).category = 2 then k + 2 else k + 1) (as.map (sm_v G))) ∧ _
      match i, h with
      | 0, h =>
        cases h
        exact ⟨List.mem_cons_self, fun q => absurd q (show ¬ (1 : Nat) = 2 by decide)⟩
      | i + 1, h =>
        have h3 := ih (k := k + 1) (i := i) hok2 h
        rw [show k + 1 + i = k + (i + 1) by omega] at h3
        exact ⟨List.mem_cons_of_mem _ h3.1, h3.2⟩
    | .inr (.inr x), hok, h =>
      have hok2 : pg_lok lg (k + 1) (pg_spread as) = true := hok
      have h : (some (.inr (.inr x)) :: pg_spread as)[i]? = some (some v) := h
      have hcat : (sm_v G (.inr (.inr x))).category = 1 := sm_cat1 (fun _ q => by cases q)
      show _ ∈ ((k, sm_v G (.inr (.inr x))) :: lv_args (if (sm_v G (.inr (.inr x))).category = 2 then k + 2 else k + 1) (as.map (sm_v G))) ∧ _
      rw [if_neg (by omega)]
      match i, h with
      | 0, h =>
        cases h
        exact ⟨List.mem_cons_self, fun q => absurd q (by omega)⟩
      | i + 1, h =>
        have h3 := ih (k := k + 1) (i := i) hok2 h
        rw [show k + 1 + i = k + (i + 1) by omega] at h3
        exact ⟨List.mem_cons_of_mem _ h3.1, h3.2⟩
theorem sm_spread_len {G : sm_G} : ∀ (as : List am_V), (lg_sl (as.map (sm_v G))).length = (pg_spread as).length := by
  intro as
  induction as with
  | nil => rfl
  | cons w as ih =>
    have e : lg_sl ((w :: as).map (sm_v G)) = (if (sm_v G w).category = 2 then [.val (sm_v G w), .second] else [.val (sm_v G w)]) ++ lg_sl (as.map (sm_v G)) := by
      unfold lg_sl
      rw [List.map_cons, List.flatMap_cons]
    rw [e, List.length_append, ih]
    match w with
    | .inr (.inl x) =>
      show (if (2 : Nat) = 2 then [_, _] else [_]).length + _ = (pg_spread as).length + 1 + 1
      rw [if_pos rfl]
      show 2 + _ = _
      omega
    | .inl x =>
      show (if (1 : Nat) = 2 then [_, _] else [_]).length + _ = (pg_spread as).length + 1
      rw [if_neg (by decide)]
      show 1 + _ = _
      omega
    | .inr (.inr x) =>
      rw [if_neg (by rw [sm_cat1 (fun _ q => by cases q)]; decide)]
      show 1 + _ = (pg_spread as).length + 1
      omega
theorem sm_entry {G : sm_G} {z : Nat} {as : List am_V} (h : pg_aok z as = true) : sm_L G z (pg_ent z as) ((lg_sl (as.map (sm_v G)) ++ List.replicate (pg_mx z - (lg_sl (as.map (sm_v G))).length) Slot.unset).toArray) := by
  unfold pg_aok at h
  rw [Bool.and_eq_true] at h
  have hle : (pg_spread as).length ≤ pg_mx z := Nat.le_of_ble_eq_true h.2
  have hh := lv_entry (as.map (sm_v G)) (n := pg_mx z) (by rw [sm_spread_len]; exact hle)
  refine ⟨hh.1, hh.2.1, fun i v hi => ?_⟩
  unfold pg_ent at hi
  have hi2 : (pg_spread as)[i]? = some (some v) := by
    by_cases hl : i < (pg_spread as).length
    · rw [List.getElem?_append_left hl] at hi; exact hi
    · rw [List.getElem?_append_right (by omega), List.getElem?_replicate] at hi
      by_cases h9 : i - (pg_spread as).length < pg_mx z - (pg_spread as).length
      · rw [if_pos h9] at hi; cases hi
      · rw [if_neg h9] at hi; cases hi
  have h3 := sm_args_mem (G := G) (k := 0) h.1 hi2
  rw [Nat.zero_add] at h3
  exact ⟨hh.2.2 _ h3.1, h3.2⟩
/-- EVERY METHOD KEEPS ITS ABSTRACT CONTRACT -/
theorem sm_main (l : Launch) (G : sm_G) : ∀ (h z : Nat), pg_ht z < h → z < 179 → ∀ (as : List am_V) (S : am_S) (M : am_M) (r : am_Z), am_call z as S M = some r → sm_Met l G z as S M r := by
  intro h
  induction h with
  | zero => intro z hz; exact absurd hz (by omega)
  | succ h ih =>
    intro z hz hz2 as S M r hc
    obtain ⟨haok, hc⟩ := am_in_some hc
    obtain ⟨f, hf⟩ := am_R_ex hc
    obtain ⟨o1, o2, o3, o4, o5, o6⟩ := sm_okY (z := z) (by omega)
    have hgr := am_run_gr f z 0 _ _ S M r hf
    refine Met.ofW (cc := pg_c z) (maxL := pg_mx z) (ret := pg_rt z) o1 rfl ?_
    intro p e s m args below meth c s₁ B hml hv
    obtain ⟨rfl, hK, hP, hsz, hX⟩ := hv
    have hname := name_of_methodNamed B.named B.method
    have hown : s.vm.findClass (pg_cn (pg_oc z)) = some m.cls := by rw [o2]; exact findClass_of_methodNamed B.named
    have C : sm_C p (sm_rm z S r.2.1) s m meth c G z S r := ⟨B.exec, B.bytes, hml, hown, fun h => hname.1.trans h, hK, hsz, ⟨Nat.le_refl _, Nat.le_refl _⟩, ⟨Nat.le_refl _, Nat.le_refl _⟩, by omega, hX⟩
    rw [lg_entry_eq]
    have hlocks := B.notSynchronized
    have hret := B.returns
    have hR : sm_Rt p l e (sm_rm z S r.2.1) s m ((as.map (sm_v G)).toArray) below meth c (MQ below (sm_Qc G r) ((as.map (sm_v G)).toArray) s (am_n r.2.1 - am_n S) (am_sl r.2.1 - am_sl S) (sm_A G)) G z S r := by
      intro pc H locs A hP1 hz1 hS1
      refine ⟨fun x hx hrt hd => ?_, fun hx hrt hd => ?_⟩
      · have hq : ∀ t : State, t.heap = H → s.WarmedH t.vm → sm_Qc G r ((as.map (sm_v G)).toArray) s (.returned (some (.int (Int32.ofInt x)))) t := fun t ht _ => ⟨by rw [hx]; rfl, by rw [ht]; exact hP1, by rw [ht]; exact hz1, hS1.F ht⟩
        rcases hrt with ⟨hrt, hx01⟩ | hrt
        · refine W.zret (ty := .boolean) B.exec B.bytes (hret.trans hrt) ?_ hq hS1.2.2 hd
          rcases hx01 with rfl | rfl <;> rfl
        · exact W.iret B.exec B.bytes (hret.trans hrt) hq hS1.2.2 hd
      · exact W.vret B.exec B.bytes (hret.trans hrt) (fun t ht _ => ⟨by rw [hx]; rfl, by rw [ht]; exact hP1, by rw [ht]; exact hz1, hS1.F ht⟩) hS1.2.2 hd
    have key := sm_run C hR (fun y as S M r hc h1 h2 => ih y (by omega) h1 as S M r hc) f 0 (pg_ent z as) [] S M hf s.heap [] _ ⟨hP, hsz, va_S.rf, sm_entry haok, Nat.le_refl _, Nat.le_refl _, rfl⟩
    rw [Nat.sub_self, Nat.sub_self] at key
    exact key
