/-! The pure machine: one step. -/
/-- a program: fetch, cells and slots that a method may make, how many locals it has, the script; method 0 is the law -/
abbrev qP : Type := (Nat → Nat → Option qI) × (Nat → Nat) × (Nat → Nat) × (Nat → Nat) × Nat × (Nat → Int)
def q_r32 (x : Int) : Prop := -2147483648 ≤ x ∧ x < 2147483648
def q_r64 (x : Int) : Prop := -9223372036854775808 ≤ x ∧ x < 9223372036854775808
def q_tag (S : qS) (r : Nat) : Option Nat := match S[r]? with
  | some z => some z.1
  | none => none
def q_len (S : qS) (r : Nat) : Nat := match S[r]? with
  | some z => z.2.1
  | none => 0
def q_ref (S : qS) (r k : Nat) : Option Nat := match S[r]? with
  | some z => z.2.2.getD k none
  | none => none
def q_u (f : Int → Int) (j v : Int) : Int → Int := fun i => if i = j then v else f i
def q_up (s : qM) (r : Nat) (j v : Int) : qM := fun q => if q = r then q_u (s r) j v else s q
def q_z (s : qM) (r : Nat) : qM := fun q => if q = r then (fun _ => 0) else s q
/-- a reference is put into an object's slot -/
def q_pr (S : qS) (r k : Nat) (v : Option Nat) : qS := match S[r]? with
  | some z => S.set r (z.1, z.2.1, z.2.2.set k v)
  | none => S
def q_ld (ls : List (Option qV)) (i : Nat) : Option qV := match ls[i]? with
  | some (some v) => some v
  | _ => none
def q_kl (ls : List (Option qV)) (i : Nat) : List (Option qV) := match i with
  | 0 => ls
  | j + 1 => match q_ld ls j with
    | some (.inr (.inl _)) => ls.set j none
    | _ => ls
def q_st (ls : List (Option qV)) (i : Nat) (v : qV) : List (Option qV) := (q_kl ls i).set i (some v)
def q_st2 (ls : List (Option qV)) (i : Nat) (v : qV) : List (Option qV) := ((q_kl ls i).set i (some v)).set (i + 1) none
def q_cat (v : qV) : Nat := match v with
  | .inr (.inl _) => 2
  | _ => 1
def q_sum (st : List qV) : Nat := match st with
  | [] => 0
  | v :: r => q_cat v + q_sum r
def q_and (x y : Int) : Int := (Int32.ofInt x &&& Int32.ofInt y).toInt
def q_land (x y : Int) : Int := (Int64.ofInt x &&& Int64.ofInt y).toInt
def q_lor (x y : Int) : Int := (Int64.ofInt x ||| Int64.ofInt y).toInt
def q_lxor (x y : Int) : Int := (Int64.ofInt x ^^^ Int64.ofInt y).toInt
def q_lushr (x y : Int) : Int := ((Int64.ofInt x).toUInt64 >>> ((Int32.ofInt y).toInt64.toUInt64 &&& Int64.toUInt64 63)).toInt64.toInt
def q_lshl (x y : Int) : Int := (Int64.ofInt x <<< ((Int32.ofInt y).toInt64 &&& 63)).toInt
def q_lcmp (x y : Int) : Int := if x > y then 1 else if x = y then 0 else -1
def q_cmp (c : Jvm.ClassFile.Cond) (x y : Int) : Prop := match c with
  | .eq => x = y
  | .ne => x ≠ y
  | .lt => x < y
  | .ge => y ≤ x
  | .gt => y < x
  | .le => x ≤ y
/-- locals, stack, shapes, contents, cells, slots behind an instruction; what it asks -/
abbrev qD : Type := Prop × List (Option qV) × List qV × qS × qM × Nat × Nat
def q_kind (κ : Nat) (x : Int) : Prop := if κ = 3 then 0 ≤ x ∧ x ≤ 1 else True
/-- constants and locals -/
def q_sim1 (i : Instr) (v : Int) (a : List Nat) (ls : List (Option qV)) (st : List qV) (S : qS) (s : qM) (kc ks : Nat) : Option qD := match i with
  | .iconst _ => some (True, ls, .inl v :: st, S, s, kc, ks)
  | .bipush _ => some (True, ls, .inl v :: st, S, s, kc, ks)
  | .sipush _ => some (True, ls, .inl v :: st, S, s, kc, ks)
  | .ldc _ => some (True, ls, .inl v :: st, S, s, kc, ks)
  | .lconst _ => some (True, ls, .inr (.inl v) :: st, S, s, kc, ks)
  | .ldc2_w _ => some (True, ls, .inr (.inl v) :: st, S, s, kc, ks)
  | .iload _ => match q_ld ls (q_a a 0) with
    | some (.inl x) => some (True, ls, .inl x :: st, S, s, kc, ks)
    | _ => none
  | .iload_n _ => match q_ld ls (q_a a 0) with
    | some (.inl x) => some (True, ls, .inl x :: st, S, s, kc, ks)
    | _ => none
  | .lload _ => match q_ld ls (q_a a 0) with
    | some (.inr (.inl x)) => some (True, ls, .inr (.inl x) :: st, S, s, kc, ks)
    | _ => none
  | .lload_n _ => match q_ld ls (q_a a 0) with
    | some (.inr (.inl x)) => some (True, ls, .inr (.inl x) :: st, S, s, kc, ks)
    | _ => none
  | .aload _ => match q_ld ls (q_a a 0) with
    | some (.inr (.inr (.inl (some r)))) => some (True, ls, .inr (.inr (.inl (some r))) :: st, S, s, kc, ks)
    | some (.inr (.inr (.inr u))) => some (True, ls, .inr (.inr (.inr u)) :: st, S, s, kc, ks)
    | _ => none
  | .aload_n _ => match q_ld ls (q_a a 0) with
    | some (.inr (.inr (.inl (some r)))) => some (True, ls, .inr (.inr (.inl (some r))) :: st, S, s, kc, ks)
    | some (.inr (.inr (.inr u))) => some (True, ls, .inr (.inr (.inr u)) :: st, S, s, kc, ks)
    | _ => none
  | .istore _ => match st with
    | .inl x :: r => some (q_a a 0 < ls.length, q_st ls (q_a a 0) (.inl x), r, S, s, kc, ks)
    | _ => none
  | .istore_n _ => match st with
    | .inl x :: r => some (q_a a 0 < ls.length, q_st ls (q_a a 0) (.inl x), r, S, s, kc, ks)
    | _ => none
  | .lstore _ => match st with
    | .inr (.inl x) :: r => some (q_a a 0 + 1 < ls.length, q_st2 ls (q_a a 0) (.inr (.inl x)), r, S, s, kc, ks)
    | _ => none
  | .lstore_n _ => match st with
    | .inr (.inl x) :: r => some (q_a a 0 + 1 < ls.length, q_st2 ls (q_a a 0) (.inr (.inl x)), r, S, s, kc, ks)
    | _ => none
  | .astore _ => match st with
    | .inr (.inr (.inl (some r0))) :: r => some (q_a a 0 < ls.length, q_st ls (q_a a 0) (.inr (.inr (.inl (some r0)))), r, S, s, kc, ks)
    | _ => none
  | .astore_n _ => match st with
    | .inr (.inr (.inl (some r0))) :: r => some (q_a a 0 < ls.length, q_st ls (q_a a 0) (.inr (.inr (.inl (some r0)))), r, S, s, kc, ks)
    | _ => none
  | .iinc _ _ => match q_ld ls (q_a a 0) with
    | some (.inl x) => some (q_a a 0 < ls.length ∧ q_r32 (x + v), q_st ls (q_a a 0) (.inl (x + v)), st, S, s, kc, ks)
    | _ => none
  | .goto _ => none
  | _ => none
/-- the stack and arithmetic -/
def q_sim2 (i : Instr) (ls : List (Option qV)) (st : List qV) (S : qS) (s : qM) (kc ks : Nat) : Option qD := match i with
  | .iadd => match st with
    | .inl y :: .inl x :: r => some (q_r32 (x + y), ls, .inl (x + y) :: r, S, s, kc, ks)
    | _ => none
  | .isub => match st with
    | .inl y :: .inl x :: r => some (q_r32 (x - y), ls, .inl (x - y) :: r, S, s, kc, ks)
    | _ => none
  | .imul => match st with
    | .inl y :: .inl x :: r => some (q_r32 (x * y), ls, .inl (x * y) :: r, S, s, kc, ks)
    | _ => none
  | .idiv => match st with
    | .inl y :: .inl x :: r => some (0 < y, ls, .inl (x.tdiv y) :: r, S, s, kc, ks)
    | _ => none
  | .irem => match st with
    | .inl y :: .inl x :: r => some (0 < y, ls, .inl (x.tmod y) :: r, S, s, kc, ks)
    | _ => none
  | .iand => match st with
    | .inl y :: .inl x :: r => some (True, ls, .inl (q_and x y) :: r, S, s, kc, ks)
    | _ => none
  | .ladd => match st with
    | .inr (.inl y) :: .inr (.inl x) :: r => some (q_r64 (x + y), ls, .inr (.inl (x + y)) :: r, S, s, kc, ks)
    | _ => none
  | .lmul => match st with
    | .inr (.inl y) :: .inr (.inl x) :: r => some (q_r64 (x * y), ls, .inr (.inl (x * y)) :: r, S, s, kc, ks)
    | _ => none
  | .land => match st with
    | .inr (.inl y) :: .inr (.inl x) :: r => some (True, ls, .inr (.inl (q_land x y)) :: r, S, s, kc, ks)
    | _ => none
  | .lor => match st with
    | .inr (.inl y) :: .inr (.inl x) :: r => some (True, ls, .inr (.inl (q_lor x y)) :: r, S, s, kc, ks)
    | _ => none
  | .lxor => match st with
    | .inr (.inl y) :: .inr (.inl x) :: r => some (True, ls, .inr (.inl (q_lxor x y)) :: r, S, s, kc, ks)
    | _ => none
  | .lushr => match st with
    | .inl y :: .inr (.inl x) :: r => some (True, ls, .inr (.inl (q_lushr x y)) :: r, S, s, kc, ks)
    | _ => none
  | .lshl => match st with
    | .inl y :: .inr (.inl x) :: r => some (True, ls, .inr (.inl (q_lshl x y)) :: r, S, s, kc, ks)
    | _ => none
  | .lcmp => match st with
    | .inr (.inl y) :: .inr (.inl x) :: r => some (True, ls, .inl (q_lcmp x y) :: r, S, s, kc, ks)
    | _ => none
  | .i2l => match st with
    | .inl x :: r => some (True, ls, .inr (.inl x) :: r, S, s, kc, ks)
    | _ => none
  | .dup => match st with
    | v :: r => some (q_cat v = 1, ls, v :: v :: r, S, s, kc, ks)
    | _ => none
  | .dup2 => match st with
    | v :: w :: r => some (q_cat v = 1 ∧ q_cat w = 1, ls, v :: w :: v :: w :: r, S, s, kc, ks)
    | _ => none
  | .pop => match st with
    | v :: r => some (q_cat v = 1, ls, r, S, s, kc, ks)
    | _ => none
  | _ => none
/-- objects and arrays; xl, xs: the script; il: this is the law -/
def q_sim3 (il : Prop) (xl : Nat) (xs : Nat → Int) (mc ms : Nat) (i : Instr) (a : List Nat) (ls : List (Option qV)) (st : List qV) (S : qS) (s : qM) (kc ks : Nat) : Option qD := match i with
  | .getfield _ => match st with
    | .inr (.inr (.inl (some r))) :: z => if q_a a 2 = 1
      then some (q_tag S r = some (3 + q_a a 0) ∧ q_ref S r (q_a a 1) ≠ none, ls, .inr (.inr (.inl (q_ref S r (q_a a 1)))) :: z, S, s, kc, ks)
      else some (q_tag S r = some (3 + q_a a 0), ls, .inl (s r (q_a a 1)) :: z, S, s, kc, ks)
    | _ => none
  | .putfield _ => match st with
    | .inl x :: .inr (.inr (.inl (some r))) :: z => if q_a a 2 = 1 then none
      else some (q_tag S r = some (3 + q_a a 0) ∧ q_kind (q_a a 2) x, ls, z, S, q_up s r (q_a a 1) x, kc, ks)
    | .inr (.inr (.inl v)) :: .inr (.inr (.inl (some r))) :: z => if q_a a 2 = 1
      then some (q_tag S r = some (3 + q_a a 0), ls, z, q_pr S r (q_a a 1) v, s, kc, ks) else none
    | _ => none
  | .arraylength => match st with
    | .inr (.inr (.inl (some r))) :: z => some ((∃ t, t < 3 ∧ q_tag S r = some t) ∧ q_len S r < 2147483648, ls, .inl (q_len S r) :: z, S, s, kc, ks)
    | .inr (.inr (.inr _)) :: z => some (il, ls, .inl xl :: z, S, s, kc, ks)
    | _ => none
  | .iaload => match st with
    | .inl j :: .inr (.inr (.inl (some r))) :: z => some (q_tag S r = some 0 ∧ 0 ≤ j ∧ j < q_len S r, ls, .inl (s r j) :: z, S, s, kc, ks)
    | .inl j :: .inr (.inr (.inr _)) :: z => some (il ∧ 0 ≤ j ∧ j < xl, ls, .inl (xs j.toNat) :: z, S, s, kc, ks)
    | _ => none
  | .baload => match st with
    | .inl j :: .inr (.inr (.inl (some r))) :: z => some (q_tag S r = some 1 ∧ 0 ≤ j ∧ j < q_len S r, ls, .inl (s r j) :: z, S, s, kc, ks)
    | _ => none
  | .laload => match st with
    | .inl j :: .inr (.inr (.inl (some r))) :: z => some (q_tag S r = some 2 ∧ 0 ≤ j ∧ j < q_len S r, ls, .inr (.inl (s r j)) :: z, S, s, kc, ks)
    | _ => none
  | .iastore => match st with
    | .inl x :: .inl j :: .inr (.inr (.inl (some r))) :: z => some (q_tag S r = some 0 ∧ 0 ≤ j ∧ j < q_len S r, ls, z, S, q_up s r j x, kc, ks)
    | _ => none
  | .bastore => match st with
    | .inl x :: .inl j :: .inr (.inr (.inl (some r))) :: z => some (q_tag S r = some 1 ∧ 0 ≤ j ∧ j < q_len S r ∧ 0 ≤ x ∧ x ≤ 1, ls, z, S, q_up s r j x, kc, ks)
    | _ => none
  | .lastore => match st with
    | .inr (.inl x) :: .inl j :: .inr (.inr (.inl (some r))) :: z => some (q_tag S r = some 2 ∧ 0 ≤ j ∧ j < q_len S r, ls, z, S, q_up s r j x, kc, ks)
    | _ => none
  | .new _ => some (kc + 1 ≤ mc ∧ ks + q_a a 1 ≤ ms, ls, .inr (.inr (.inl (some S.length))) :: st, S ++ [(3 + q_a a 0, q_a a 1, List.replicate (q_a a 1) none)], q_z s S.length, kc + 1, ks + q_a a 1)
  | .newarray _ => match st with
    | .inl n :: z => some (0 ≤ n ∧ n ≤ 60000 ∧ kc + 1 ≤ mc ∧ ks + n.toNat ≤ ms, ls, .inr (.inr (.inl (some S.length))) :: z, S ++ [(q_a a 0, n.toNat, [])], q_z s S.length, kc + 1, ks + n.toNat)
    | _ => none
  | _ => none
/-- a switch: the first place whose number it is; else d -/
def q_sw (X : Nat → Prop) (x : Int) (d : Nat) : List Nat → Prop
  | k :: t :: r => (x = (k : Int) → X t) ∧ (x ≠ (k : Int) → q_sw X x d r)
  | _ => X d
/-- the locals of a call -/
def q_en : List qV → List (Option qV)
  | [] => []
  | v :: r => if q_cat v = 2 then some v :: none :: q_en r else some v :: q_en r
def q_pad (n : Nat) (l : List (Option qV)) : List (Option qV) := l ++ List.replicate (n - l.length) none
/-- a call's receiver: of class c -/
def q_rc (S : qS) (k : Nat) (c : Nat) (as : List qV) : Prop := match k with
  | 0 => True
  | _ => match as with
    | .inr (.inr (.inl (some r))) :: _ => q_tag S r = some (3 + c)
    | _ => False
def q_nx (X : qC → Prop) (n : Nat) (d : Option qD) : Prop := match d with
  | some (p, ls, st, S, s, kc, ks) => p ∧ X (n, ls, st, S, s, kc, ks)
  | none => False
/-- one step; X: what later steps come to. Places of a call: method, how many arguments with the receiver, kind (0 static, 1 of an object), class of the receiver, 1 if exceptions are caught here, then exception and place by pairs -/
def q_F (P : qP) (X : Nat → qC → qQ → Prop) (M : Nat) (c : qC) (Q : qQ) : Prop := match c with
  | (pc, ls, st, S, s, kc, ks) => match P.1 M pc with
    | none => False
    | some (len, i, v, a) => match i with
      | .goto _ => X M (q_a a 0, ls, st, S, s, kc, ks) Q
      | .ifCond cn _ => match st with
        | .inl x :: r => (q_cmp cn x 0 → X M (q_a a 0, ls, r, S, s, kc, ks) Q) ∧ (¬ q_cmp cn x 0 → X M (pc + 3, ls, r, S, s, kc, ks) Q)
        | _ => False
      | .if_icmp cn _ => match st with
        | .inl y :: .inl x :: r => (q_cmp cn x y → X M (q_a a 0, ls, r, S, s, kc, ks) Q) ∧ (¬ q_cmp cn x y → X M (pc + 3, ls, r, S, s, kc, ks) Q)
        | _ => False
      | .tableswitch _ _ _ _ => match st with
        | .inl x :: r => q_sw (fun t => X M (t, ls, r, S, s, kc, ks) Q) x (q_a a 0) a.tail
        | _ => False
      | .lookupswitch _ _ => match st with
        | .inl x :: r => q_sw (fun t => X M (t, ls, r, S, s, kc, ks) Q) x (q_a a 0) a.tail
        | _ => False
      | .ireturn => match st with
        | [.inl x] => q_kind (q_a a 0) x ∧ Q (.inl (some (.inl x))) S s
        | _ => False
      | .lreturn => match st with
        | [.inr (.inl x)] => Q (.inl (some (.inr (.inl x)))) S s
        | _ => False
      | .areturn => match st with
        | [.inr (.inr (.inl (some r)))] => Q (.inl (some (.inr (.inr (.inl (some r)))))) S s
        | _ => False
      | .return_ => match st with
        | [] => Q (.inl none) S s
        | _ => False
      | .athrow => False
      | .invokevirtual _ => q_ca X P M (pc, ls, st, S, s, kc, ks) Q a
      | .invokestatic _ => if q_a a 2 = 3
        then match st with
          | .inl y :: .inl x :: r => q_sum r ≤ 8 ∧ X M (pc + 3, ls, .inl (if x < y then y else x) :: r, S, s, kc, ks) Q
          | _ => False
        else q_ca X P M (pc, ls, st, S, s, kc, ks) Q a
      | .invokespecial _ => if q_a a 2 = 2
        then match st with
          | .inr (.inr (.inl (some _))) :: r => q_sum r ≤ 8 ∧ X M (pc + 3, ls, r, S, s, kc, ks) Q
          | _ => False
        else q_ca X P M (pc, ls, st, S, s, kc, ks) Q a
      | .new _ => if q_a a 2 = 1
        then (st = [] ∧ kc + 1 ≤ P.2.1 M ∧ ks + 6 ≤ P.2.2.1 M) ∧ Q (.inr (q_a a 0)) S s
        else q_nx (fun c' => X M c' Q) (pc + len) (q_sim3 (M = 0) P.2.2.2.2.1 P.2.2.2.2.2 (P.2.1 M) (P.2.2.1 M) i a ls st S s kc ks)
      | _ => q_nx (fun c' => X M c' Q) (pc + len) (((q_sim1 i v a ls st S s kc ks).or (q_sim2 i ls st S s kc ks)).or (q_sim3 (M = 0) P.2.2.2.2.1 P.2.2.2.2.2 (P.2.1 M) (P.2.2.1 M) i a ls st S s kc ks))
where
  q_ca (X : Nat → qC → qQ → Prop) (P : qP) (M : Nat) (c : qC) (Q : qQ) (a : List Nat) : Prop := match c with
    | (pc, ls, st, S, s, kc, ks) => q_a a 1 ≤ st.length ∧ q_sum (st.drop (q_a a 1)) ≤ 8 ∧ kc + P.2.1 (q_a a 0) ≤ P.2.1 M ∧ ks + P.2.2.1 (q_a a 0) ≤ P.2.2.1 M ∧
      q_rc S (q_a a 2) (q_a a 3) (st.take (q_a a 1)).reverse ∧
      (q_en (st.take (q_a a 1)).reverse).length ≤ P.2.2.2.1 (q_a a 0) ∧
      ∃ R : qQ, X (q_a a 0) (0, q_pad (P.2.2.2.1 (q_a a 0)) (q_en (st.take (q_a a 1)).reverse), [], S, s, 0, 0) R ∧
        (∀ (v : Option qV) (S' : qS) (s' : qM), R (.inl v) S' s' → X M (pc + 3, ls, v.toList ++ st.drop (q_a a 1), S', s', kc + P.2.1 (q_a a 0), ks + P.2.2.1 (q_a a 0)) Q) ∧
        (∀ (k : Nat) (S' : qS) (s' : qM), R (.inr k) S' s' → q_a a 4 = 1 ∧ q_hd (fun t i => X M (t, (q_kl ls i).set i none, [], S', s', kc + P.2.1 (q_a a 0), ks + P.2.2.1 (q_a a 0)) Q) k (a.drop 5))
  /-- a handler's place behind its astore, the local that it fills -/
  q_hd (X : Nat → Nat → Prop) (k : Nat) : List Nat → Prop
    | e :: t :: i :: r => (k = e → X t i) ∧ (k ≠ e → q_hd X k r)
    | _ => False
