/-! Rules of the least predicate, an instruction each. -/
section QRules
variable {P : qP} {M pc p' len n v0 : Nat} {v : Int} {a : List Nat} {ls ls' : List (Option qV)} {st : List qV} {S : qS} {s : qM} {kc ks : Nat} {Q : qQ} {i : Instr}
def q_isC : Instr → Bool
  | .iconst _ | .bipush _ | .sipush _ | .ldc _ => true
  | _ => false
def q_isL : Instr → Bool
  | .lconst _ | .ldc2_w _ => true
  | _ => false
theorem w_const (hf : P.1 M pc = some (len, i, v, a)) (hi : q_isC i = true) (hn : pc + len = p') (k : q_W P M (p', ls, .inl v :: st, S, s, kc, ks) Q) : q_W P M (pc, ls, st, S, s, kc, ks) Q := by
  subst hn
  refine q_W_in ?_
  unfold q_F
  dsimp only
  rw [hf]
  cases i <;> first | (cases hi; done) | exact ⟨trivial, k⟩
theorem w_lconst (hf : P.1 M pc = some (len, i, v, a)) (hi : q_isL i = true) (hn : pc + len = p') (k : q_W P M (p', ls, .inr (.inl v) :: st, S, s, kc, ks) Q) : q_W P M (pc, ls, st, S, s, kc, ks) Q := by
  subst hn
  refine q_W_in ?_
  unfold q_F
  dsimp only
  rw [hf]
  cases i <;> first | (cases hi; done) | exact ⟨trivial, k⟩
def q_isI : Instr → Nat
  | .iload _ | .iload_n _ => 1
  | .lload _ | .lload_n _ => 2
  | .aload _ | .aload_n _ => 3
  | .istore _ | .istore_n _ => 4
  | .lstore _ | .lstore_n _ => 5
  | .astore _ | .astore_n _ => 6
  | _ => 0
theorem w_iload {x : Int} (hf : P.1 M pc = some (len, i, v, a)) (hi : q_isI i = 1) (hn : pc + len = p') (hl : q_ld ls (q_a a 0) = some (.inl x)) (k : q_W P M (p', ls, .inl x :: st, S, s, kc, ks) Q) : q_W P M (pc, ls, st, S, s, kc, ks) Q := by
  subst hn
  refine q_W_in ?_
  unfold q_F
  dsimp only
  rw [hf]
  cases i <;> first | (cases hi; done) | (simp only [q_sim1, q_sim2, q_sim3, hl, Option.or_some, Option.some_or]; exact ⟨trivial, k⟩)
theorem w_lload {x : Int} (hf : P.1 M pc = some (len, i, v, a)) (hi : q_isI i = 2) (hn : pc + len = p') (hl : q_ld ls (q_a a 0) = some (.inr (.inl x))) (k : q_W P M (p', ls, .inr (.inl x) :: st, S, s, kc, ks) Q) : q_W P M (pc, ls, st, S, s, kc, ks) Q := by
  subst hn
  refine q_W_in ?_
  unfold q_F
  dsimp only
  rw [hf]
  cases i <;> first | (cases hi; done) | (simp only [q_sim1, q_sim2, q_sim3, hl, Option.or_some, Option.some_or]; exact ⟨trivial, k⟩)
theorem w_aload {x : Nat} (hf : P.1 M pc = some (len, i, v, a)) (hi : q_isI i = 3) (hn : pc + len = p') (hl : q_ld ls (q_a a 0) = some (.inr (.inr (.inl (some x))))) (k : q_W P M (p', ls, .inr (.inr (.inl (some x))) :: st, S, s, kc, ks) Q) : q_W P M (pc, ls, st, S, s, kc, ks) Q := by
  subst hn
  refine q_W_in ?_
  unfold q_F
  dsimp only
  rw [hf]
  cases i <;> first | (cases hi; done) | (simp only [q_sim1, q_sim2, q_sim3, hl, Option.or_some, Option.some_or]; exact ⟨trivial, k⟩)
theorem w_xload (hf : P.1 M pc = some (len, i, v, a)) (hi : q_isI i = 3) (hn : pc + len = p') (hl : q_ld ls (q_a a 0) = some (.inr (.inr (.inr ())))) (k : q_W P M (p', ls, .inr (.inr (.inr ())) :: st, S, s, kc, ks) Q) : q_W P M (pc, ls, st, S, s, kc, ks) Q := by
  subst hn
  refine q_W_in ?_
  unfold q_F
  dsimp only
  rw [hf]
  cases i <;> first | (cases hi; done) | (simp only [q_sim1, q_sim2, q_sim3, hl, Option.or_some, Option.some_or]; exact ⟨trivial, k⟩)
theorem w_istore {x : Int} (hf : P.1 M pc = some (len, i, v, a)) (hi : q_isI i = 4) (hn : pc + len = p') (hb : q_a a 0 < ls.length) (hl : q_st ls (q_a a 0) (.inl x) = ls') (k : q_W P M (p', ls', st, S, s, kc, ks) Q) : q_W P M (pc, ls, .inl x :: st, S, s, kc, ks) Q := by
  subst hn; subst hl
  refine q_W_in ?_
  unfold q_F
  dsimp only
  rw [hf]
  cases i <;> first | (cases hi; done) | exact ⟨hb, k⟩
theorem w_lstore {x : Int} (hf : P.1 M pc = some (len, i, v, a)) (hi : q_isI i = 5) (hn : pc + len = p') (hb : q_a a 0 + 1 < ls.length) (hl : q_st2 ls (q_a a 0) (.inr (.inl x)) = ls') (k : q_W P M (p', ls', st, S, s, kc, ks) Q) : q_W P M (pc, ls, .inr (.inl x) :: st, S, s, kc, ks) Q := by
  subst hn; subst hl
  refine q_W_in ?_
  unfold q_F
  dsimp only
  rw [hf]
  cases i <;> first | (cases hi; done) | exact ⟨hb, k⟩
theorem w_astore {x : Nat} (hf : P.1 M pc = some (len, i, v, a)) (hi : q_isI i = 6) (hn : pc + len = p') (hb : q_a a 0 < ls.length) (hl : q_st ls (q_a a 0) (.inr (.inr (.inl (some x)))) = ls') (k : q_W P M (p', ls', st, S, s, kc, ks) Q) : q_W P M (pc, ls, .inr (.inr (.inl (some x))) :: st, S, s, kc, ks) Q := by
  subst hn; subst hl
  refine q_W_in ?_
  unfold q_F
  dsimp only
  rw [hf]
  cases i <;> first | (cases hi; done) | exact ⟨hb, k⟩
theorem w_iinc {x : Int} {j : Nat} {m : Int} (hf : P.1 M pc = some (len, .iinc j m, v, a)) (hn : pc + len = p') (hl : q_ld ls (q_a a 0) = some (.inl x)) (hb : q_a a 0 < ls.length) (hr : q_r32 (x + v)) (h2 : q_st ls (q_a a 0) (.inl (x + v)) = ls') (k : q_W P M (p', ls', st, S, s, kc, ks) Q) : q_W P M (pc, ls, st, S, s, kc, ks) Q := by
  subst hn; subst h2
  refine q_W_in ?_
  unfold q_F
  dsimp only
  rw [hf]
  simp only [q_sim1, q_sim2, q_sim3, hl, Option.or_some, Option.some_or]
  exact ⟨⟨hb, hr⟩, k⟩
theorem w_add {x y : Int} (hf : P.1 M pc = some (len, .iadd, v, a)) (hn : pc + len = p') (hr : q_r32 (x + y)) (k : q_W P M (p', ls, .inl (x + y) :: st, S, s, kc, ks) Q) : q_W P M (pc, ls, .inl y :: .inl x :: st, S, s, kc, ks) Q := by
  subst hn; refine q_W_in ?_; unfold q_F; dsimp only; rw [hf]; exact ⟨hr, k⟩
theorem w_sub {x y : Int} (hf : P.1 M pc = some (len, .isub, v, a)) (hn : pc + len = p') (hr : q_r32 (x - y)) (k : q_W P M (p', ls, .inl (x - y) :: st, S, s, kc, ks) Q) : q_W P M (pc, ls, .inl y :: .inl x :: st, S, s, kc, ks) Q := by
  subst hn; refine q_W_in ?_; unfold q_F; dsimp only; rw [hf]; exact ⟨hr, k⟩
theorem w_mul {x y : Int} (hf : P.1 M pc = some (len, .imul, v, a)) (hn : pc + len = p') (hr : q_r32 (x * y)) (k : q_W P M (p', ls, .inl (x * y) :: st, S, s, kc, ks) Q) : q_W P M (pc, ls, .inl y :: .inl x :: st, S, s, kc, ks) Q := by
  subst hn; refine q_W_in ?_; unfold q_F; dsimp only; rw [hf]; exact ⟨hr, k⟩
theorem w_div {x y : Int} (hf : P.1 M pc = some (len, .idiv, v, a)) (hn : pc + len = p') (hr : 0 < y) (k : q_W P M (p', ls, .inl (x.tdiv y) :: st, S, s, kc, ks) Q) : q_W P M (pc, ls, .inl y :: .inl x :: st, S, s, kc, ks) Q := by
  subst hn; refine q_W_in ?_; unfold q_F; dsimp only; rw [hf]; exact ⟨hr, k⟩
theorem w_rem {x y : Int} (hf : P.1 M pc = some (len, .irem, v, a)) (hn : pc + len = p') (hr : 0 < y) (k : q_W P M (p', ls, .inl (x.tmod y) :: st, S, s, kc, ks) Q) : q_W P M (pc, ls, .inl y :: .inl x :: st, S, s, kc, ks) Q := by
  subst hn; refine q_W_in ?_; unfold q_F; dsimp only; rw [hf]; exact ⟨hr, k⟩
theorem w_and {x y : Int} (hf : P.1 M pc = some (len, .iand, v, a)) (hn : pc + len = p') (k : q_W P M (p', ls, .inl (q_and x y) :: st, S, s, kc, ks) Q) : q_W P M (pc, ls, .inl y :: .inl x :: st, S, s, kc, ks) Q := by
  subst hn; refine q_W_in ?_; unfold q_F; dsimp only; rw [hf]; exact ⟨trivial, k⟩
theorem w_ladd {x y : Int} (hf : P.1 M pc = some (len, .ladd, v, a)) (hn : pc + len = p') (hr : q_r64 (x + y)) (k : q_W P M (p', ls, .inr (.inl (x + y)) :: st, S, s, kc, ks) Q) : q_W P M (pc, ls, .inr (.inl y) :: .inr (.inl x) :: st, S, s, kc, ks) Q := by
  subst hn; refine q_W_in ?_; unfold q_F; dsimp only; rw [hf]; exact ⟨hr, k⟩
theorem w_lmul {x y : Int} (hf : P.1 M pc = some (len, .lmul, v, a)) (hn : pc + len = p') (hr : q_r64 (x * y)) (k : q_W P M (p', ls, .inr (.inl (x * y)) :: st, S, s, kc, ks) Q) : q_W P M (pc, ls, .inr (.inl y) :: .inr (.inl x) :: st, S, s, kc, ks) Q := by
  subst hn; refine q_W_in ?_; unfold q_F; dsimp only; rw [hf]; exact ⟨hr, k⟩
theorem w_land {x y : Int} (hf : P.1 M pc = some (len, .land, v, a)) (hn : pc + len = p') (k : q_W P M (p', ls, .inr (.inl (q_land x y)) :: st, S, s, kc, ks) Q) : q_W P M (pc, ls, .inr (.inl y) :: .inr (.inl x) :: st, S, s, kc, ks) Q := by
  subst hn; refine q_W_in ?_; unfold q_F; dsimp only; rw [hf]; exact ⟨trivial, k⟩
theorem w_lor {x y : Int} (hf : P.1 M pc = some (len, .lor, v, a)) (hn : pc + len = p') (k : q_W P M (p', ls, .inr (.inl (q_lor x y)) :: st, S, s, kc, ks) Q) : q_W P M (pc, ls, .inr (.inl y) :: .inr (.inl x) :: st, S, s, kc, ks) Q := by
  subst hn; refine q_W_in ?_; unfold q_F; dsimp only; rw [hf]; exact ⟨trivial, k⟩
theorem w_lxor {x y : Int} (hf : P.1 M pc = some (len, .lxor, v, a)) (hn : pc + len = p') (k : q_W P M (p', ls, .inr (.inl (q_lxor x y)) :: st, S, s, kc, ks) Q) : q_W P M (pc, ls, .inr (.inl y) :: .inr (.inl x) :: st, S, s, kc, ks) Q := by
  subst hn; refine q_W_in ?_; unfold q_F; dsimp only; rw [hf]; exact ⟨trivial, k⟩
theorem w_lushr {x y : Int} (hf : P.1 M pc = some (len, .lushr, v, a)) (hn : pc + len = p') (k : q_W P M (p', ls, .inr (.inl (q_lushr x y)) :: st, S, s, kc, ks) Q) : q_W P M (pc, ls, .inl y :: .inr (.inl x) :: st, S, s, kc, ks) Q := by
  subst hn; refine q_W_in ?_; unfold q_F; dsimp only; rw [hf]; exact ⟨trivial, k⟩
theorem w_lshl {x y : Int} (hf : P.1 M pc = some (len, .lshl, v, a)) (hn : pc + len = p') (k : q_W P M (p', ls, .inr (.inl (q_lshl x y)) :: st, S, s, kc, ks) Q) : q_W P M (pc, ls, .inl y :: .inr (.inl x) :: st, S, s, kc, ks) Q := by
  subst hn; refine q_W_in ?_; unfold q_F; dsimp only; rw [hf]; exact ⟨trivial, k⟩
theorem w_lcmp {x y : Int} (hf : P.1 M pc = some (len, .lcmp, v, a)) (hn : pc + len = p') (k : q_W P M (p', ls, .inl (q_lcmp x y) :: st, S, s, kc, ks) Q) : q_W P M (pc, ls, .inr (.inl y) :: .inr (.inl x) :: st, S, s, kc, ks) Q := by
  subst hn; refine q_W_in ?_; unfold q_F; dsimp only; rw [hf]; exact ⟨trivial, k⟩
theorem w_i2l {x : Int} (hf : P.1 M pc = some (len, .i2l, v, a)) (hn : pc + len = p') (k : q_W P M (p', ls, .inr (.inl x) :: st, S, s, kc, ks) Q) : q_W P M (pc, ls, .inl x :: st, S, s, kc, ks) Q := by
  subst hn; refine q_W_in ?_; unfold q_F; dsimp only; rw [hf]; exact ⟨trivial, k⟩
theorem w_dup {w : qV} (hf : P.1 M pc = some (len, .dup, v, a)) (hn : pc + len = p') (hc : q_cat w = 1) (k : q_W P M (p', ls, w :: w :: st, S, s, kc, ks) Q) : q_W P M (pc, ls, w :: st, S, s, kc, ks) Q := by
  subst hn; refine q_W_in ?_; unfold q_F; dsimp only; rw [hf]; exact ⟨hc, k⟩
theorem w_dup2 {w u : qV} (hf : P.1 M pc = some (len, .dup2, v, a)) (hn : pc + len = p') (hc : q_cat w = 1) (hu : q_cat u = 1) (k : q_W P M (p', ls, w :: u :: w :: u :: st, S, s, kc, ks) Q) : q_W P M (pc, ls, w :: u :: st, S, s, kc, ks) Q := by
  subst hn; refine q_W_in ?_; unfold q_F; dsimp only; rw [hf]; exact ⟨⟨hc, hu⟩, k⟩
theorem w_pop {w : qV} (hf : P.1 M pc = some (len, .pop, v, a)) (hn : pc + len = p') (hc : q_cat w = 1) (k : q_W P M (p', ls, st, S, s, kc, ks) Q) : q_W P M (pc, ls, w :: st, S, s, kc, ks) Q := by
  subst hn; refine q_W_in ?_; unfold q_F; dsimp only; rw [hf]; exact ⟨hc, k⟩
theorem w_getI {r : Nat} {j : Int} (hf : P.1 M pc = some (len, .getfield n, v, a)) (hn : pc + len = p') (hκ : ¬ q_a a 2 = 1) (hj : ((q_a a 1 : Nat) : Int) = j) (ht : q_tag S r = some (3 + q_a a 0)) (k : q_W P M (p', ls, .inl (s r j) :: st, S, s, kc, ks) Q) : q_W P M (pc, ls, .inr (.inr (.inl (some r))) :: st, S, s, kc, ks) Q := by
  subst hn; subst hj; refine q_W_in ?_; unfold q_F; dsimp only; rw [hf]
  simp only [q_sim1, q_sim2, q_sim3, if_neg hκ, Option.none_or]
  exact ⟨ht, k⟩
theorem w_getR {r q : Nat} (hf : P.1 M pc = some (len, .getfield n, v, a)) (hn : pc + len = p') (hκ : q_a a 2 = 1) (ht : q_tag S r = some (3 + q_a a 0)) (hq : q_ref S r (q_a a 1) = some q) (k : q_W P M (p', ls, .inr (.inr (.inl (some q))) :: st, S, s, kc, ks) Q) : q_W P M (pc, ls, .inr (.inr (.inl (some r))) :: st, S, s, kc, ks) Q := by
  subst hn; refine q_W_in ?_; unfold q_F; dsimp only; rw [hf]
  simp only [q_sim1, q_sim2, q_sim3, if_pos hκ, Option.none_or, hq]
  exact ⟨⟨ht, by simp⟩, k⟩
theorem w_putI {r : Nat} {j x : Int} (hf : P.1 M pc = some (len, .putfield n, v, a)) (hn : pc + len = p') (hκ : ¬ q_a a 2 = 1) (hj : ((q_a a 1 : Nat) : Int) = j) (ht : q_tag S r = some (3 + q_a a 0)) (hz : q_kind (q_a a 2) x) (k : q_W P M (p', ls, st, S, q_up s r j x, kc, ks) Q) : q_W P M (pc, ls, .inl x :: .inr (.inr (.inl (some r))) :: st, S, s, kc, ks) Q := by
  subst hn; subst hj; refine q_W_in ?_; unfold q_F; dsimp only; rw [hf]
  simp only [q_sim1, q_sim2, q_sim3, if_neg hκ, Option.none_or]
  exact ⟨⟨ht, hz⟩, k⟩
theorem w_putR {r : Nat} {u : Option Nat} (hf : P.1 M pc = some (len, .putfield n, v, a)) (hn : pc + len = p') (hκ : q_a a 2 = 1) (ht : q_tag S r = some (3 + q_a a 0)) {S' : qS} (hS : q_pr S r (q_a a 1) u = S') (k : q_W P M (p', ls, st, S', s, kc, ks) Q) : q_W P M (pc, ls, .inr (.inr (.inl u)) :: .inr (.inr (.inl (some r))) :: st, S, s, kc, ks) Q := by
  subst hn; subst hS; refine q_W_in ?_; unfold q_F; dsimp only; rw [hf]
  simp only [q_sim1, q_sim2, q_sim3, if_pos hκ, Option.none_or]
  exact ⟨ht, k⟩
theorem w_alen {r : Nat} {t N : Nat} (hf : P.1 M pc = some (len, .arraylength, v, a)) (hn : pc + len = p') (ht : q_tag S r = some t) (ht3 : t < 3) (hN : q_len S r = N) (hb : N < 2147483648) (k : q_W P M (p', ls, .inl (N : Int) :: st, S, s, kc, ks) Q) : q_W P M (pc, ls, .inr (.inr (.inl (some r))) :: st, S, s, kc, ks) Q := by
  subst hn; subst hN; refine q_W_in ?_; unfold q_F; dsimp only; rw [hf]
  exact ⟨⟨⟨t, ht3, ht⟩, hb⟩, k⟩
theorem w_xlen (hf : P.1 M pc = some (len, .arraylength, v, a)) (hn : pc + len = p') (hM : M = 0) (k : q_W P M (p', ls, .inl (P.2.2.2.2.1 : Int) :: st, S, s, kc, ks) Q) : q_W P M (pc, ls, .inr (.inr (.inr ())) :: st, S, s, kc, ks) Q := by
  subst hn; refine q_W_in ?_; unfold q_F; dsimp only; rw [hf]
  exact ⟨hM, k⟩
theorem w_iald {r N : Nat} {j : Int} (hf : P.1 M pc = some (len, .iaload, v, a)) (hn : pc + len = p') (ht : q_tag S r = some 0) (hN : q_len S r = N) (h0 : 0 ≤ j) (h1 : j < N) (k : q_W P M (p', ls, .inl (s r j) :: st, S, s, kc, ks) Q) : q_W P M (pc, ls, .inl j :: .inr (.inr (.inl (some r))) :: st, S, s, kc, ks) Q := by
  subst hn; subst hN; refine q_W_in ?_; unfold q_F; dsimp only; rw [hf]
  exact ⟨⟨ht, h0, h1⟩, k⟩
theorem w_xald {j : Int} (hf : P.1 M pc = some (len, .iaload, v, a)) (hn : pc + len = p') (hM : M = 0) (h0 : 0 ≤ j) (h1 : j < P.2.2.2.2.1) (k : q_W P M (p', ls, .inl (P.2.2.2.2.2 j.toNat) :: st, S, s, kc, ks) Q) : q_W P M (pc, ls, .inl j :: .inr (.inr (.inr ())) :: st, S, s, kc, ks) Q := by
  subst hn; refine q_W_in ?_; unfold q_F; dsimp only; rw [hf]
  exact ⟨⟨hM, h0, h1⟩, k⟩
theorem w_bald {r N : Nat} {j : Int} (hf : P.1 M pc = some (len, .baload, v, a)) (hn : pc + len = p') (ht : q_tag S r = some 1) (hN : q_len S r = N) (h0 : 0 ≤ j) (h1 : j < N) (k : q_W P M (p', ls, .inl (s r j) :: st, S, s, kc, ks) Q) : q_W P M (pc, ls, .inl j :: .inr (.inr (.inl (some r))) :: st, S, s, kc, ks) Q := by
  subst hn; subst hN; refine q_W_in ?_; unfold q_F; dsimp only; rw [hf]
  exact ⟨⟨ht, h0, h1⟩, k⟩
theorem w_lald {r N : Nat} {j : Int} (hf : P.1 M pc = some (len, .laload, v, a)) (hn : pc + len = p') (ht : q_tag S r = some 2) (hN : q_len S r = N) (h0 : 0 ≤ j) (h1 : j < N) (k : q_W P M (p', ls, .inr (.inl (s r j)) :: st, S, s, kc, ks) Q) : q_W P M (pc, ls, .inl j :: .inr (.inr (.inl (some r))) :: st, S, s, kc, ks) Q := by
  subst hn; subst hN; refine q_W_in ?_; unfold q_F; dsimp only; rw [hf]
  exact ⟨⟨ht, h0, h1⟩, k⟩
theorem w_iast {r N : Nat} {j x : Int} (hf : P.1 M pc = some (len, .iastore, v, a)) (hn : pc + len = p') (ht : q_tag S r = some 0) (hN : q_len S r = N) (h0 : 0 ≤ j) (h1 : j < N) (k : q_W P M (p', ls, st, S, q_up s r j x, kc, ks) Q) : q_W P M (pc, ls, .inl x :: .inl j :: .inr (.inr (.inl (some r))) :: st, S, s, kc, ks) Q := by
  subst hn; subst hN; refine q_W_in ?_; unfold q_F; dsimp only; rw [hf]
  exact ⟨⟨ht, h0, h1⟩, k⟩
theorem w_bast {r N : Nat} {j x : Int} (hf : P.1 M pc = some (len, .bastore, v, a)) (hn : pc + len = p') (ht : q_tag S r = some 1) (hN : q_len S r = N) (h0 : 0 ≤ j) (h1 : j < N) (h2 : 0 ≤ x) (h3 : x ≤ 1) (k : q_W P M (p', ls, st, S, q_up s r j x, kc, ks) Q) : q_W P M (pc, ls, .inl x :: .inl j :: .inr (.inr (.inl (some r))) :: st, S, s, kc, ks) Q := by
  subst hn; subst hN; refine q_W_in ?_; unfold q_F; dsimp only; rw [hf]
  exact ⟨⟨ht, h0, h1, h2, h3⟩, k⟩
theorem w_last {r N : Nat} {j x : Int} (hf : P.1 M pc = some (len, .lastore, v, a)) (hn : pc + len = p') (ht : q_tag S r = some 2) (hN : q_len S r = N) (h0 : 0 ≤ j) (h1 : j < N) (k : q_W P M (p', ls, st, S, q_up s r j x, kc, ks) Q) : q_W P M (pc, ls, .inr (.inl x) :: .inl j :: .inr (.inr (.inl (some r))) :: st, S, s, kc, ks) Q := by
  subst hn; subst hN; refine q_W_in ?_; unfold q_F; dsimp only; rw [hf]
  exact ⟨⟨ht, h0, h1⟩, k⟩
theorem w_goto {off : Int} (hf : P.1 M pc = some (len, .goto off, v, a)) (hn : q_a a 0 = p') (k : q_W P M (p', ls, st, S, s, kc, ks) Q) : q_W P M (pc, ls, st, S, s, kc, ks) Q := by
  subst hn; refine q_W_in ?_; unfold q_F; dsimp only; rw [hf]; exact k
theorem w_if {x : Int} {cn : Jvm.ClassFile.Cond} {off : Int} {t e : Nat} (hf : P.1 M pc = some (len, .ifCond cn off, v, a)) (hn : q_a a 0 = t) (he : pc + 3 = e) (k1 : q_cmp cn x 0 → q_W P M (t, ls, st, S, s, kc, ks) Q) (k2 : ¬ q_cmp cn x 0 → q_W P M (e, ls, st, S, s, kc, ks) Q) : q_W P M (pc, ls, .inl x :: st, S, s, kc, ks) Q := by
  subst hn; subst he; refine q_W_in ?_; unfold q_F; dsimp only; rw [hf]; exact ⟨k1, k2⟩
theorem w_icmp {x y : Int} {cn : Jvm.ClassFile.Cond} {off : Int} {t e : Nat} (hf : P.1 M pc = some (len, .if_icmp cn off, v, a)) (hn : q_a a 0 = t) (he : pc + 3 = e) (k1 : q_cmp cn x y → q_W P M (t, ls, st, S, s, kc, ks) Q) (k2 : ¬ q_cmp cn x y → q_W P M (e, ls, st, S, s, kc, ks) Q) : q_W P M (pc, ls, .inl y :: .inl x :: st, S, s, kc, ks) Q := by
  subst hn; subst he; refine q_W_in ?_; unfold q_F; dsimp only; rw [hf]; exact ⟨k1, k2⟩
theorem w_tsw {x d lo hi : Int} {offs : Array Int} (hf : P.1 M pc = some (len, .tableswitch d lo hi offs, v, a)) (k : q_sw (fun t => q_W P M (t, ls, st, S, s, kc, ks) Q) x (q_a a 0) a.tail) : q_W P M (pc, ls, .inl x :: st, S, s, kc, ks) Q := by
  refine q_W_in ?_; unfold q_F; dsimp only; rw [hf]; exact k
theorem w_lsw {x d : Int} {ps : Array (Int × Int)} (hf : P.1 M pc = some (len, .lookupswitch d ps, v, a)) (k : q_sw (fun t => q_W P M (t, ls, st, S, s, kc, ks) Q) x (q_a a 0) a.tail) : q_W P M (pc, ls, .inl x :: st, S, s, kc, ks) Q := by
  refine q_W_in ?_; unfold q_F; dsimp only; rw [hf]; exact k
theorem w_iret {x : Int} (hf : P.1 M pc = some (len, .ireturn, v, a)) (hz : q_kind (q_a a 0) x) (k : Q (.inl (some (.inl x))) S s) : q_W P M (pc, ls, [.inl x], S, s, kc, ks) Q := by
  refine q_W_in ?_; unfold q_F; dsimp only; rw [hf]; exact ⟨hz, k⟩
theorem w_lret {x : Int} (hf : P.1 M pc = some (len, .lreturn, v, a)) (k : Q (.inl (some (.inr (.inl x)))) S s) : q_W P M (pc, ls, [.inr (.inl x)], S, s, kc, ks) Q := by
  refine q_W_in ?_; unfold q_F; dsimp only; rw [hf]; exact k
theorem w_aret {r : Nat} (hf : P.1 M pc = some (len, .areturn, v, a)) (k : Q (.inl (some (.inr (.inr (.inl (some r)))))) S s) : q_W P M (pc, ls, [.inr (.inr (.inl (some r)))], S, s, kc, ks) Q := by
  refine q_W_in ?_; unfold q_F; dsimp only; rw [hf]; exact k
theorem w_vret (hf : P.1 M pc = some (len, .return_, v, a)) (k : Q (.inl none) S s) : q_W P M (pc, ls, [], S, s, kc, ks) Q := by
  refine q_W_in ?_; unfold q_F; dsimp only; rw [hf]; exact k
theorem w_throw (hf : P.1 M pc = some (len, .new n, v, a)) (h2 : q_a a 2 = 1) (hc : kc + 1 ≤ P.2.1 M) (hs : ks + 6 ≤ P.2.2.1 M) (k : Q (.inr (q_a a 0)) S s) : q_W P M (pc, ls, [], S, s, kc, ks) Q := by
  refine q_W_in ?_; unfold q_F; dsimp only; rw [hf]; dsimp only; rw [if_pos h2]; exact ⟨⟨rfl, hc, hs⟩, k⟩
theorem w_new {S' : qS} {r : Nat} (hf : P.1 M pc = some (len, .new n, v, a)) (hn : pc + len = p') (h2 : ¬ q_a a 2 = 1) (hc : kc + 1 ≤ P.2.1 M) (hs : ks + q_a a 1 ≤ P.2.2.1 M) (hr : S.length = r) (hS : S ++ [(3 + q_a a 0, q_a a 1, List.replicate (q_a a 1) none)] = S') (k : q_W P M (p', ls, .inr (.inr (.inl (some r))) :: st, S', q_z s r, kc + 1, ks + q_a a 1) Q) : q_W P M (pc, ls, st, S, s, kc, ks) Q := by
  subst hn; subst hr; subst hS; refine q_W_in ?_; unfold q_F; dsimp only; rw [hf]; dsimp only; rw [if_neg h2]; exact ⟨⟨hc, hs⟩, k⟩
theorem w_newa {S' : qS} {r N : Nat} {t : ArrayType} (hf : P.1 M pc = some (len, .newarray t, v, a)) (hn : pc + len = p') (hN : N ≤ 60000) (hc : kc + 1 ≤ P.2.1 M) (hs : ks + N ≤ P.2.2.1 M) (hr : S.length = r) (hS : S ++ [(q_a a 0, N, [])] = S') (k : q_W P M (p', ls, .inr (.inr (.inl (some r))) :: st, S', q_z s r, kc + 1, ks + N) Q) : q_W P M (pc, ls, .inl (N : Int) :: st, S, s, kc, ks) Q := by
  subst hn; subst hr; subst hS; refine q_W_in ?_; unfold q_F; dsimp only; rw [hf]
  exact ⟨⟨by omega, by omega, hc, by simpa using hs⟩, k⟩
theorem w_obj {r : Nat} (hf : P.1 M pc = some (len, .invokespecial n, v, a)) (hn : pc + 3 = p') (h2 : q_a a 2 = 2) (hs : q_sum st ≤ 8) (k : q_W P M (p', ls, st, S, s, kc, ks) Q) : q_W P M (pc, ls, .inr (.inr (.inl (some r))) :: st, S, s, kc, ks) Q := by
  subst hn; refine q_W_in ?_; unfold q_F; dsimp only; rw [hf]; dsimp only; rw [if_pos h2]; exact ⟨hs, k⟩
theorem w_max {x y : Int} (hf : P.1 M pc = some (len, .invokestatic n, v, a)) (hn : pc + 3 = p') (h2 : q_a a 2 = 3) (hs : q_sum st ≤ 8) (k : q_W P M (p', ls, .inl (if x < y then y else x) :: st, S, s, kc, ks) Q) : q_W P M (pc, ls, .inl y :: .inl x :: st, S, s, kc, ks) Q := by
  subst hn; refine q_W_in ?_; unfold q_F; dsimp only; rw [hf]; dsimp only; rw [if_pos h2]; exact ⟨hs, k⟩
def q_isV : Instr → Bool
  | .invokevirtual _ | .invokespecial _ | .invokestatic _ => true
  | _ => false
/-- a call that doesn't throw: st is the arguments, last first, upon rest -/
theorem w_call {M' : Nat} {as rest : List qV} {R : qQ} (hf : P.1 M pc = some (len, i, v, a)) (hi : q_isV i = true) (h2 : q_a a 2 < 2) (hM : q_a a 0 = M') (hn : pc + 3 = p') (h1 : q_a a 1 ≤ st.length) (ht : (st.take (q_a a 1)).reverse = as) (hd : st.drop (q_a a 1) = rest) (hs : q_sum rest ≤ 8)
    (hc : kc + P.2.1 M' ≤ P.2.1 M) (hk : ks + P.2.2.1 M' ≤ P.2.2.1 M) (hr : q_rc S (q_a a 2) (q_a a 3) as) (hl : (q_en as).length ≤ P.2.2.2.1 M')
    (hR : q_W P M' (0, q_pad (P.2.2.2.1 M') (q_en as), [], S, s, 0, 0) R) (hno : ∀ k S' s', ¬ R (.inr k) S' s')
    (k : ∀ (w : Option qV) (S' : qS) (s' : qM), R (.inl w) S' s' → q_W P M (p', ls, w.toList ++ rest, S', s', kc + P.2.1 M', ks + P.2.2.1 M') Q) : q_W P M (pc, ls, st, S, s, kc, ks) Q := by
  subst hn; subst hM; subst ht; subst hd
  refine q_W_in ?_
  unfold q_F
  dsimp only
  rw [hf]
  have h : q_F.q_ca (q_W P) P M (pc, ls, st, S, s, kc, ks) Q a := ⟨h1, hs, hc, hk, hr, hl, R, hR, k, fun k S' s' h => absurd h (hno k S' s')⟩
  cases i <;> first | (cases hi; done) | exact h | (dsimp only; rw [if_neg (by omega)]; exact h)
end QRules
