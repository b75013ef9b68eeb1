/-! THE ABSTRACT MACHINE: ints are whole numbers (up to 2^32), cells have numbers from 1 on (0: null), a memory of ints by cell and place, refs apart. -/
abbrev am_V : Type := Int ⊕ (Int ⊕ (Nat ⊕ Unit))
abbrev am_i (x : Int) : am_V := .inl x
abbrev am_l (x : Int) : am_V := .inr (.inl x)
abbrev am_r (k : Nat) : am_V := .inr (.inr (.inl k))
abbrev am_q : am_V := .inr (.inr (.inr ()))
abbrev am_L : Type := List (Option am_V)
abbrev am_K : Type := List am_V
abbrev am_M : Type := Nat → Int → Int
/-- the script (how many, which), cells and slots made, kinds of cells, refs of cells -/
abbrev am_S : Type := (Nat × (Int → Int)) × (Nat × Nat) × (Nat → Nat × Nat) × (Nat → Int → Nat)
def am_n (S : am_S) : Nat := S.2.1.1
def am_sl (S : am_S) : Nat := S.2.1.2
/-- kinds: (0, n) ints, (1, n) booleans, (2, n) Lifes, (3, n) Images, (4, c) an object of class c; (9, 0): no cell -/
def am_kd (S : am_S) (k : Nat) : Nat × Nat := if 0 < k ∧ k ≤ S.2.1.1 then S.2.2.1 k else (9, 0)
def am_rf (S : am_S) (k : Nat) (j : Int) : Nat := S.2.2.2 k j
def am_sn (S : am_S) : Nat := S.1.1
def am_sx (S : am_S) (j : Int) : Int := S.1.2 j
def am_new (S : am_S) (kd : Nat × Nat) (n : Nat) : am_S := (S.1, (S.2.1.1 + 1, S.2.1.2 + n), (fun k => if k = S.2.1.1 + 1 then kd else S.2.2.1 k), (fun k j => if k = S.2.1.1 + 1 then 0 else S.2.2.2 k j))
def am_set (S : am_S) (k : Nat) (j : Int) (v : Nat) : am_S := (S.1, S.2.1, S.2.2.1, (fun k' j' => if k' = k ∧ j' = j then v else S.2.2.2 k' j'))
def am_zr (M : am_M) (k : Nat) : am_M := fun k' j => if k' = k then 0 else M k' j
def am_wr (M : am_M) (k : Nat) (i v : Int) : am_M := fun k' j => if k' = k ∧ j = i then v else M k' j
def am_cp (M : am_M) (s : Nat) (sp : Int) (d : Nat) (dp n : Int) : am_M := fun k j => if k = d ∧ dp ≤ j ∧ j < dp + n then M s (sp + (j - dp)) else M k j
abbrev am_Ri (x : Int) : Prop := -2147483648 ≤ x ∧ x ≤ 2147483647
abbrev am_Rl (x : Int) : Prop := -9223372036854775808 ≤ x ∧ x ≤ 9223372036854775807
def am_and (x y : Int) : Int := (Int32.ofInt x &&& Int32.ofInt y).toInt
def am_or (x y : Int) : Int := (Int32.ofInt x ||| Int32.ofInt y).toInt
def am_xor (x y : Int) : Int := (Int32.ofInt x ^^^ Int32.ofInt y).toInt
def am_shl (x y : Int) : Int := (Int32.ofInt x <<< (Int32.ofInt y &&& 31)).toInt
def am_shr (x y : Int) : Int := (Int32.ofInt x >>> (Int32.ofInt y &&& 31)).toInt
def am_ushr (x y : Int) : Int := ((Int32.ofInt x).toUInt32 >>> ((Int32.ofInt y).toUInt32 &&& Int32.toUInt32 31)).toInt32.toInt
def am_cmp (x y : Int) : Int := if x < y then -1 else if x = y then 0 else 1
def am_sw (pc : Nat) (d lo hi : Int) (offs : Array Int) (x : Int) : Nat := if x < lo ∨ hi < x then ((pc : Int) + d).toNat else ((pc : Int) + (offs[(x - lo).toNat]?).getD 0).toNat
/-- what an instruction does: goes on; branches; jumps; returns; calls; makes a cell; sets a ref -/
abbrev am_A : Type := (am_L × am_K × am_M) ⊕ ((Prop × Nat × am_L × am_K) ⊕ ((Nat × am_L × am_K) ⊕ (Option am_V ⊕ ((Nat × List am_V × am_K) ⊕ ((Nat × Nat × Nat × am_K) ⊕ (Nat × Int × Nat × am_K))))))
abbrev am_T : Type := am_A ⊕ (Prop × am_A)
abbrev am_nx (ls : am_L) (st : am_K) (M : am_M) : am_A := .inl (ls, st, M)
abbrev am_br (c : Prop) (t : Nat) (ls : am_L) (st : am_K) : am_A := .inr (.inl (c, t, ls, st))
abbrev am_go (t : Nat) (ls : am_L) (st : am_K) : am_A := .inr (.inr (.inl (t, ls, st)))
abbrev am_rt (v : Option am_V) : am_A := .inr (.inr (.inr (.inl v)))
abbrev am_cl (z : Nat) (as : List am_V) (st : am_K) : am_A := .inr (.inr (.inr (.inr (.inl (z, as, st)))))
abbrev am_al (t x n : Nat) (st : am_K) : am_A := .inr (.inr (.inr (.inr (.inr (.inl (t, x, n, st))))))
abbrev am_sr (k : Nat) (j : Int) (v : Nat) (st : am_K) : am_A := .inr (.inr (.inr (.inr (.inr (.inr (k, j, v, st))))))
def am_bad : am_T := .inr (False, am_rt none)
/-- an instruction with its length and what was resolved -/
abbrev am_E : Type := Instr × Nat × Nat × Nat × Int
def am_p1 (st : am_K) (f : Int → am_K → am_T) : am_T := match st with
  | .inl x :: r => f x r
  | _ => am_bad
def am_p2 (st : am_K) (f : Int → Int → am_K → am_T) : am_T := match st with
  | .inl y :: .inl x :: r => f x y r
  | _ => am_bad
def am_w1 (st : am_K) (f : Int → am_K → am_T) : am_T := match st with
  | .inr (.inl x) :: r => f x r
  | _ => am_bad
def am_w2 (st : am_K) (f : Int → Int → am_K → am_T) : am_T := match st with
  | .inr (.inl y) :: .inr (.inl x) :: r => f x y r
  | _ => am_bad
def am_pr (st : am_K) (f : Nat → am_K → am_T) : am_T := match st with
  | .inr (.inr (.inl k)) :: r => f k r
  | _ => am_bad
def am_ld (ls : am_L) (a : Nat) (f : am_V → am_T) : am_T := match ls[a]? with
  | some (some x) => f x
  | _ => am_bad
def am_step (e : am_E) (pc : Nat) (ls : am_L) (st : am_K) (S : am_S) (M : am_M) : am_T :=
  match e with
  | (i, _, a, b, v) => match i with
    | .iconst _ => .inl (am_nx ls (am_i v :: st) M)
    | .bipush _ => .inl (am_nx ls (am_i v :: st) M)
    | .sipush _ => .inl (am_nx ls (am_i v :: st) M)
    | .ldc _ => .inl (am_nx ls (am_i v :: st) M)
    | .ldc_w _ => .inl (am_nx ls (am_i v :: st) M)
    | .ldc2_w _ => .inl (am_nx ls (am_l v :: st) M)
    | .lconst _ => .inl (am_nx ls (am_l v :: st) M)
    | .iload_n _ => am_ld ls a (fun x => match x with | .inl x => .inl (am_nx ls (am_i x :: st) M) | _ => am_bad)
    | .iload _ => am_ld ls a (fun x => match x with | .inl x => .inl (am_nx ls (am_i x :: st) M) | _ => am_bad)
    | .lload_n _ => am_ld ls a (fun x => match x with | .inr (.inl x) => .inl (am_nx ls (am_l x :: st) M) | _ => am_bad)
    | .lload _ => am_ld ls a (fun x => match x with | .inr (.inl x) => .inl (am_nx ls (am_l x :: st) M) | _ => am_bad)
    | .aload_n _ => am_ld ls a (fun x => match x with | .inr (.inr x) => .inl (am_nx ls (.inr (.inr x) :: st) M) | _ => am_bad)
    | .istore_n _ => am_p1 st (fun x r => .inl (am_nx (ls.set a (some (am_i x))) r M))
    | .istore _ => am_p1 st (fun x r => .inl (am_nx (ls.set a (some (am_i x))) r M))
    | .lstore_n _ => am_w1 st (fun x r => .inl (am_nx ((ls.set a (some (am_l x))).set (a + 1) none) r M))
    | .astore_n _ => am_pr st (fun x r => .inr (0 < x, am_nx (ls.set a (some (am_r x))) r M))
    | .iinc _ _ => am_ld ls a (fun x => match x with | .inl x => .inl (am_nx (ls.set a (some (am_i (x + v)))) st M) | _ => am_bad)
    | .iadd => am_p2 st (fun x y r => .inl (am_nx ls (am_i (x + y) :: r) M))
    | .isub => am_p2 st (fun x y r => .inl (am_nx ls (am_i (x - y) :: r) M))
    | .imul => am_p2 st (fun x y r => .inl (am_nx ls (am_i (x * y) :: r) M))
    | .idiv => am_p2 st (fun x y r => .inr (0 ≤ x ∧ x ≤ 2147483647 ∧ 0 < y ∧ y ≤ 2147483647, am_nx ls (am_i (x / y) :: r) M))
    | .irem => am_p2 st (fun x y r => .inr (0 ≤ x ∧ x ≤ 2147483647 ∧ 0 < y ∧ y ≤ 2147483647, am_nx ls (am_i (x % y) :: r) M))
    | .iand => am_p2 st (fun x y r => .inl (am_nx ls (am_i (am_and x y) :: r) M))
    | .ior => am_p2 st (fun x y r => .inl (am_nx ls (am_i (am_or x y) :: r) M))
    | .ixor => am_p2 st (fun x y r => .inl (am_nx ls (am_i (am_xor x y) :: r) M))
    | .ishl => am_p2 st (fun x y r => .inl (am_nx ls (am_i (am_shl x y) :: r) M))
    | .ishr => am_p2 st (fun x y r => .inl (am_nx ls (am_i (am_shr x y) :: r) M))
    | .iushr => am_p2 st (fun x y r => .inl (am_nx ls (am_i (am_ushr x y) :: r) M))
    | .ladd => am_w2 st (fun x y r => .inl (am_nx ls (am_l (x + y) :: r) M))
    | .lmul => am_w2 st (fun x y r => .inl (am_nx ls (am_l (x * y) :: r) M))
    | .ldiv => am_w2 st (fun x y r => .inr (0 ≤ x ∧ x ≤ 9223372036854775807 ∧ 0 < y ∧ y ≤ 9223372036854775807, am_nx ls (am_l (x / y) :: r) M))
    | .lrem => am_w2 st (fun x y r => .inr (0 ≤ x ∧ x ≤ 9223372036854775807 ∧ 0 < y ∧ y ≤ 9223372036854775807, am_nx ls (am_l (x % y) :: r) M))
    | .lcmp => am_w2 st (fun x y r => .inr (am_Rl x ∧ am_Rl y, am_nx ls (am_i (am_cmp x y) :: r) M))
    | .i2l => am_p1 st (fun x r => .inr (am_Ri x, am_nx ls (am_l x :: r) M))
    | .l2i => am_w1 st (fun x r => .inl (am_nx ls (am_i x :: r) M))
    | .dup => match st with
      | .inl x :: r => .inl (am_nx ls (am_i x :: am_i x :: r) M)
      | .inr (.inr x) :: r => .inl (am_nx ls (.inr (.inr x) :: .inr (.inr x) :: r) M)
      | _ => am_bad
    | .dup2 => match st with
      | .inl x :: .inr (.inr y) :: r => .inl (am_nx ls (am_i x :: .inr (.inr y) :: am_i x :: .inr (.inr y) :: r) M)
      | _ => am_bad
    | .pop => am_p1 st (fun _ r => .inl (am_nx ls r M))
    | .goto _ => .inl (am_go a ls st)
    | .if_icmp c _ => am_p2 st (fun x y r => .inr (am_Ri x ∧ am_Ri y, match c with
      | .eq => am_br (x = y) a ls r
      | .ne => am_br (¬ x = y) a ls r
      | .lt => am_br (x < y) a ls r
      | .ge => am_br (y ≤ x) a ls r
      | .gt => am_br (y < x) a ls r
      | .le => am_br (x ≤ y) a ls r))
    | .ifCond c _ => am_p1 st (fun x r => .inr (am_Ri x, match c with
      | .eq => am_br (x = 0) a ls r
      | .ne => am_br (¬ x = 0) a ls r
      | .lt => am_br (x < 0) a ls r
      | .ge => am_br (0 ≤ x) a ls r
      | .gt => am_br (0 < x) a ls r
      | .le => am_br (x ≤ 0) a ls r))
    | .tableswitch d lo hi offs => am_p1 st (fun x r => .inr (am_Ri x, am_go (am_sw pc d lo hi offs x) ls r))
    | .arraylength => match st with
      | .inr (.inr (.inl k)) :: r => .inr ((am_kd S k).1 < 4, am_nx ls (am_i ((am_kd S k).2 : Int) :: r) M)
      | .inr (.inr (.inr _)) :: r => .inl (am_nx ls (am_i (am_sn S : Int) :: r) M)
      | _ => am_bad
    | .iaload => am_p1 st (fun i r => match r with
      | .inr (.inr (.inl k)) :: r => .inr ((am_kd S k).1 = 0 ∧ 0 ≤ i ∧ i < ((am_kd S k).2 : Int) ∧ i ≤ 2147483647, am_nx ls (am_i (M k i) :: r) M)
      | .inr (.inr (.inr _)) :: r => .inr (0 ≤ i ∧ i < (am_sn S : Int) ∧ i ≤ 2147483647, am_nx ls (am_i (am_sx S i) :: r) M)
      | _ => am_bad)
    | .baload => am_p1 st (fun i r => am_pr r (fun k r => .inr ((am_kd S k).1 = 1 ∧ 0 ≤ i ∧ i < ((am_kd S k).2 : Int) ∧ i ≤ 2147483647, am_nx ls (am_i (M k i) :: r) M)))
    | .aaload => am_p1 st (fun i r => am_pr r (fun k r => .inr (((am_kd S k).1 = 2 ∨ (am_kd S k).1 = 3) ∧ 0 ≤ i ∧ i < ((am_kd S k).2 : Int) ∧ i ≤ 2147483647, am_nx ls (am_r (am_rf S k i) :: r) M)))
    | .iastore => am_p2 st (fun i x r => am_pr r (fun k r => .inr ((am_kd S k).1 = 0 ∧ 0 ≤ i ∧ i < ((am_kd S k).2 : Int) ∧ i ≤ 2147483647, am_nx ls r (am_wr M k i x))))
    | .bastore => am_p2 st (fun i x r => am_pr r (fun k r => .inr ((am_kd S k).1 = 1 ∧ 0 ≤ i ∧ i < ((am_kd S k).2 : Int) ∧ i ≤ 2147483647 ∧ (x = 0 ∨ x = 1), am_nx ls r (am_wr M k i x))))
    | .aastore => am_pr st (fun x r => am_p1 r (fun i r => am_pr r (fun k r => .inr ((((am_kd S k).1 = 2 ∧ am_kd S x = (4, 3)) ∨ ((am_kd S k).1 = 3 ∧ am_kd S x = (4, 2))) ∧ 0 ≤ i ∧ i < ((am_kd S k).2 : Int) ∧ i ≤ 2147483647, am_sr k i x r))))
    | .newarray _ => am_p1 st (fun n r => .inr (0 ≤ n ∧ n ≤ 65536, am_al a n.toNat n.toNat r))
    | .anewarray _ => am_p1 st (fun n r => .inr (0 ≤ n ∧ n ≤ 65536, am_al a n.toNat n.toNat r))
    | .new _ => .inl (am_al 4 a b st)
    | .getfield _ => am_pr st (fun k r => .inr (am_kd S k = (4, a), if v = 1 then am_nx ls (am_r (am_rf S k (b : Int)) :: r) M else am_nx ls (am_i (M k (b : Int)) :: r) M))
    | .putfield _ => if v = 1 then am_pr st (fun x r => am_pr r (fun k r => .inr (am_kd S k = (4, a) ∧ 0 < x, am_sr k (b : Int) x r)))
        else am_p1 st (fun x r => am_pr r (fun k r => .inr (am_kd S k = (4, a) ∧ (v = 2 → x = 0 ∨ x = 1), am_nx ls r (am_wr M k (b : Int) x))))
    | .invokevirtual _ => if b ≤ st.length ∧ st.length ≤ b + 4 then (match (st.take b).reverse with
      | .inr (.inr (.inl k)) :: as => .inr (am_kd S k = (4, v.toNat), am_cl a (am_r k :: as) (st.drop b))
      | _ => am_bad) else am_bad
    | .invokespecial _ => if v = 1 then (if st.length ≤ 5 then am_pr st (fun k r => .inr (0 < k, am_nx ls r M)) else am_bad)
        else if b ≤ st.length ∧ st.length ≤ b + 4 then (match (st.take b).reverse with
      | .inr (.inr (.inl k)) :: as => .inr (0 < k, am_cl a (am_r k :: as) (st.drop b))
      | _ => am_bad) else am_bad
    | .invokestatic _ => if v = 2 then (match st with
      | .inl n :: .inl dp :: .inr (.inr (.inl d)) :: .inl sp :: .inr (.inr (.inl s)) :: r => if r.length ≤ 4 then .inr ((am_kd S s).1 = 0 ∧ (am_kd S d).1 = 0 ∧ 0 ≤ sp ∧ 0 ≤ dp ∧ 0 ≤ n ∧ sp + n ≤ ((am_kd S s).2 : Int) ∧ dp + n ≤ ((am_kd S d).2 : Int) ∧ sp + n ≤ 2147483647 ∧ dp + n ≤ 2147483647, am_nx ls r (am_cp M s sp d dp n)) else am_bad
      | _ => am_bad) else if v = 3 then am_p2 st (fun x y r => if r.length ≤ 4 then .inr (am_Ri x ∧ am_Ri y, am_nx ls (am_i (max x y) :: r) M) else am_bad)
      else if v = 4 then am_p2 st (fun x y r => if r.length ≤ 4 then .inr (am_Ri x ∧ am_Ri y, am_nx ls (am_i (min x y) :: r) M) else am_bad)
      else if b ≤ st.length ∧ st.length ≤ b + 4 then .inl (am_cl a (st.take b).reverse (st.drop b)) else am_bad
    | .ireturn => match st with
      | [.inl x] => if a = 1 then .inr (x = 0 ∨ x = 1, am_rt (some (am_i x))) else .inl (am_rt (some (am_i x)))
      | _ => am_bad
    | .return_ => match st with
      | [] => .inl (am_rt none)
      | _ => am_bad
    | _ => am_bad
/-- what a run gives: the answer, the cells, the memory -/
abbrev am_Z : Type := Option am_V × am_S × am_M
noncomputable def am_cif {α : Type} (c : Prop) (x y : α) : α := @ite α c (Classical.propDecidable c) x y
theorem am_cif_t {α : Type} {c : Prop} {x y : α} (h : c) : am_cif c x y = x := by unfold am_cif; exact if_pos h
theorem am_cif_f {α : Type} {c : Prop} {x y : α} (h : ¬ c) : am_cif c x y = y := by unfold am_cif; exact if_neg h
noncomputable def am_ck (c : Prop) (x : Option am_Z) : Option am_Z := am_cif c x none
theorem am_ck_t {c : Prop} {x : Option am_Z} (h : c) : am_ck c x = x := am_cif_t h
theorem am_ck_some {c : Prop} {x : Option am_Z} {r : am_Z} (h : am_ck c x = some r) : c ∧ x = some r := by
  by_cases hc : c
  · rw [am_ck_t hc] at h; exact ⟨hc, h⟩
  · unfold am_ck at h; rw [am_cif_f hc] at h; cases h
def am_then (o : Option am_Z) (f : Option am_V → am_S → am_M → Option am_Z) : Option am_Z := match o with
  | none => none
  | some (r, S, M) => f r S M
def am_push (r : Option am_V) (st : am_K) : am_K := match r with
  | none => st
  | some v => v :: st
abbrev am_J : Type := Nat → am_L → am_K → am_S → am_M → Option am_Z
abbrev am_C : Type := Nat → List am_V → am_S → am_M → Option am_Z
noncomputable def am_do (J : am_J) (C : am_C) (K : am_L → am_K → am_S → am_M → Option am_Z) (nx : Nat) (ls : am_L) (S : am_S) (M : am_M) (a : am_A) : Option am_Z := match a with
  | .inl (ls', st', M') => K ls' st' S M'
  | .inr (.inl (c, t, ls', st')) => am_cif c (J t ls' st' S M) (K ls' st' S M)
  | .inr (.inr (.inl (t, ls', st'))) => J t ls' st' S M
  | .inr (.inr (.inr (.inl v))) => some (v, S, M)
  | .inr (.inr (.inr (.inr (.inl (z, as, st'))))) => am_then (C z as S M) (fun r S' M' => J nx ls (am_push r st') S' M')
  | .inr (.inr (.inr (.inr (.inr (.inl (t, x, n, st')))))) => K ls (am_r (am_n S + 1) :: st') (am_new S (t, x) n) (am_zr M (am_n S + 1))
  | .inr (.inr (.inr (.inr (.inr (.inr (k, j, v, st')))))) => K ls st' (am_set S k j v) M
noncomputable def am_fin (J : am_J) (C : am_C) (K : am_L → am_K → am_S → am_M → Option am_Z) (nx : Nat) (ls : am_L) (S : am_S) (M : am_M) (t : am_T) : Option am_Z := match t with
  | .inl a => am_do J C K nx ls S M a
  | .inr (g, a) => am_ck g (am_do J C K nx ls S M a)
noncomputable def am_RB (J : am_J) (C : am_C) : List am_E → Nat → am_L → am_K → am_S → am_M → Option am_Z
  | [], pc, ls, st, S, M => J pc ls st S M
  | e :: is, pc, ls, st, S, M => am_fin J C (fun ls st S M => am_RB J C is (pc + e.2.1) ls st S M) (pc + e.2.1) ls S M (am_step e pc ls st S M)
