/-! The end of a line; what holds between two lines. -/
/-- the text and its lines -/
def zTxt (a b : qM) (gh : qM × qM) (t : Int → Int) (N LL : Int) : Prop := (a 1 1 = N ∧ 0 ≤ N ∧ N ≤ 240) ∧ (∀ i, 0 ≤ i → i < N → a 2 i = t i ∧ zChr (t i)) ∧ (b 113 0 = N ∧ b 114 = t) ∧ (zLn t N LL (a 9) (a 11)) ∧ (a 8 1 = LL ∧ a 10 1 = LL ∧ a 29 1 = LL ∧ a 31 1 = LL ∧ a 33 1 = N) ∧ ((∀ q, q < 8 ∨ 44 ≤ q → a q = gh.1 q) ∧ (∀ q, q < 113 ∨ q = 115 ∨ q = 116 ∨ 131 ≤ q → b q = gh.2 q) ∧ (∀ j, j ≠ 4 → j ≠ 17 → j ≠ 48 → j ≠ 49 → j ≠ 50 → b 113 j = gh.2 113 j))
theorem zTxt.mk {a b : qM} {gh : qM × qM} {t : Int → Int} {N LL : Int} (n1 : a 1 1 = N ∧ 0 ≤ N ∧ N ≤ 240) (ch : ∀ i, 0 ≤ i → i < N → a 2 i = t i ∧ zChr (t i)) (bt : b 113 0 = N ∧ b 114 = t) (ln : zLn t N LL (a 9) (a 11)) (sz : a 8 1 = LL ∧ a 10 1 = LL ∧ a 29 1 = LL ∧ a 31 1 = LL ∧ a 33 1 = N) (fx : (∀ q, q < 8 ∨ 44 ≤ q → a q = gh.1 q) ∧ (∀ q, q < 113 ∨ q = 115 ∨ q = 116 ∨ 131 ≤ q → b q = gh.2 q) ∧ (∀ j, j ≠ 4 → j ≠ 17 → j ≠ 48 → j ≠ 49 → j ≠ 50 → b 113 j = gh.2 113 j)) : zTxt a b gh t N LL := ⟨n1, ch, bt, ln, sz, fx⟩
theorem zTxt.n1 {a b : qM} {gh : qM × qM} {t : Int → Int} {N LL : Int} (h : zTxt a b gh t N LL) : a 1 1 = N ∧ 0 ≤ N ∧ N ≤ 240 := h.1
theorem zTxt.ch {a b : qM} {gh : qM × qM} {t : Int → Int} {N LL : Int} (h : zTxt a b gh t N LL) : ∀ i, 0 ≤ i → i < N → a 2 i = t i ∧ zChr (t i) := h.2.1
theorem zTxt.bt {a b : qM} {gh : qM × qM} {t : Int → Int} {N LL : Int} (h : zTxt a b gh t N LL) : b 113 0 = N ∧ b 114 = t := h.2.2.1
theorem zTxt.ln {a b : qM} {gh : qM × qM} {t : Int → Int} {N LL : Int} (h : zTxt a b gh t N LL) : zLn t N LL (a 9) (a 11) := h.2.2.2.1
theorem zTxt.sz {a b : qM} {gh : qM × qM} {t : Int → Int} {N LL : Int} (h : zTxt a b gh t N LL) : a 8 1 = LL ∧ a 10 1 = LL ∧ a 29 1 = LL ∧ a 31 1 = LL ∧ a 33 1 = N := h.2.2.2.2.1
theorem zTxt.fx {a b : qM} {gh : qM × qM} {t : Int → Int} {N LL : Int} (h : zTxt a b gh t N LL) : (∀ q, q < 8 ∨ 44 ≤ q → a q = gh.1 q) ∧ (∀ q, q < 113 ∨ q = 115 ∨ q = 116 ∨ 131 ≤ q → b q = gh.2 q) ∧ (∀ j, j ≠ 4 → j ≠ 17 → j ≠ 48 → j ≠ 49 → j ≠ 50 → b 113 j = gh.2 113 j) := h.2.2.2.2.2
/-- the names of the blocks of one kind -/
def zNm (a b : qM) (n κ : Int) (r cc : Nat) : Prop := (0 ≤ a r 1) ∧ (∀ i, 0 ≤ i → i < a r 1 → 0 ≤ a (r + 1) i ∧ a (r + 1) i < n ∧ b 117 (a (r + 1) i) = κ ∧ ∃ l : List Int, (1 ≤ l.length ∧ l.length ≤ 6 ∧ ∀ x, x ∈ l → zLet x) ∧ a cc i = zCode l ∧ ∀ j : Nat, j < 6 → b 130 (6 * a (r + 1) i + j) = l.getD j 0) ∧ (∀ i j, 0 ≤ i → i < j → j < a r 1 → a (r + 1) i < a (r + 1) j) ∧ (∀ k, 0 ≤ k → k < n → b 117 k = κ → ∃ i, 0 ≤ i ∧ i < a r 1 ∧ a (r + 1) i = k)
theorem zNm.mk {a b : qM} {n κ : Int} {r cc : Nat} (s0 : 0 ≤ a r 1) (ls : ∀ i, 0 ≤ i → i < a r 1 → 0 ≤ a (r + 1) i ∧ a (r + 1) i < n ∧ b 117 (a (r + 1) i) = κ ∧ ∃ l : List Int, (1 ≤ l.length ∧ l.length ≤ 6 ∧ ∀ x, x ∈ l → zLet x) ∧ a cc i = zCode l ∧ ∀ j : Nat, j < 6 → b 130 (6 * a (r + 1) i + j) = l.getD j 0) (mo : ∀ i j, 0 ≤ i → i < j → j < a r 1 → a (r + 1) i < a (r + 1) j) (al : ∀ k, 0 ≤ k → k < n → b 117 k = κ → ∃ i, 0 ≤ i ∧ i < a r 1 ∧ a (r + 1) i = k) : zNm a b n κ r cc := ⟨s0, ls, mo, al⟩
theorem zNm.s0 {a b : qM} {n κ : Int} {r cc : Nat} (h : zNm a b n κ r cc) : 0 ≤ a r 1 := h.1
theorem zNm.ls {a b : qM} {n κ : Int} {r cc : Nat} (h : zNm a b n κ r cc) : ∀ i, 0 ≤ i → i < a r 1 → 0 ≤ a (r + 1) i ∧ a (r + 1) i < n ∧ b 117 (a (r + 1) i) = κ ∧ ∃ l : List Int, (1 ≤ l.length ∧ l.length ≤ 6 ∧ ∀ x, x ∈ l → zLet x) ∧ a cc i = zCode l ∧ ∀ j : Nat, j < 6 → b 130 (6 * a (r + 1) i + j) = l.getD j 0 := h.2.1
theorem zNm.mo {a b : qM} {n κ : Int} {r cc : Nat} (h : zNm a b n κ r cc) : ∀ i j, 0 ≤ i → i < j → j < a r 1 → a (r + 1) i < a (r + 1) j := h.2.2.1
theorem zNm.al {a b : qM} {n κ : Int} {r cc : Nat} (h : zNm a b n κ r cc) : ∀ k, 0 ≤ k → k < n → b 117 k = κ → ∃ i, 0 ≤ i ∧ i < a r 1 ∧ a (r + 1) i = k := h.2.2.2
/-- a fenced line is not ahead of the first, that is not empty -/
def zFz (a b : qM) (n L : Int) : Prop := (∀ l, 0 ≤ l → l < L → b 117 (a 32 l) = 5 → ∃ l', 0 ≤ l' ∧ l' ≤ l ∧ b 117 (a 32 l') = 5 ∧ a 9 l' < a 11 l') ∧ ∀ k, 0 ≤ k → k < n → b 117 k = 5 → ∃ l', 0 ≤ l' ∧ l' < L ∧ b 117 (a 32 l') = 5 ∧ a 9 l' < a 11 l'
/-- L of LL lines have been read, the last one up to Q; P begins the next one -/
def zLi (a b : qM) (gh : qM × qM) (t : Int → Int) (N LL n L P Q : Int) (d : Nat) (c : Nat → Int) : Prop := (zTxt a b gh t N LL) ∧ (L ≤ LL ∧ P = (if L < LL then a 9 L else N + 1) ∧ 0 ≤ Q ∧ Q ≤ P ∧ Q ≤ N) ∧ (zB a b n) ∧ (zCh a b n d c) ∧ (zOw a b n (if L < LL then P else N)) ∧ (zLs a b n L) ∧ (b 113 17 = L) ∧ (zPt a b n P (1 + 2 * Q)) ∧ (zNm a b n 7 37 36) ∧ (zNm a b n 4 41 40) ∧ (7 * a 37 1 ≤ P ∧ a 41 1 ≤ L) ∧ (b 117 (c d) = 5 ∨ b 117 (c d) = 6 → zF a b (c d) + a 28 (c d) = L) ∧ (a 43 8 = b 113 48) ∧ (zFz a b n L)
theorem zLi.mk {a b : qM} {gh : qM × qM} {t : Int → Int} {N LL n L P Q : Int} {d : Nat} {c : Nat → Int} (T : zTxt a b gh t N LL) (pos : L ≤ LL ∧ P = (if L < LL then a 9 L else N + 1) ∧ 0 ≤ Q ∧ Q ≤ P ∧ Q ≤ N) (B : zB a b n) (C : zCh a b n d c) (O : zOw a b n (if L < LL then P else N)) (S : zLs a b n L) (l17 : b 113 17 = L) (pt : zPt a b n P (1 + 2 * Q)) (nd : zNm a b n 7 37 36) (nh : zNm a b n 4 41 40) (nl : 7 * a 37 1 ≤ P ∧ a 41 1 ≤ L) (cur : b 117 (c d) = 5 ∨ b 117 (c d) = 6 → zF a b (c d) + a 28 (c d) = L) (ib : a 43 8 = b 113 48) (fz : zFz a b n L) : zLi a b gh t N LL n L P Q d c := ⟨T, pos, B, C, O, S, l17, pt, nd, nh, nl, cur, ib, fz⟩
theorem zLi.T {a b : qM} {gh : qM × qM} {t : Int → Int} {N LL n L P Q : Int} {d : Nat} {c : Nat → Int} (h : zLi a b gh t N LL n L P Q d c) : zTxt a b gh t N LL := h.1
theorem zLi.pos {a b : qM} {gh : qM × qM} {t : Int → Int} {N LL n L P Q : Int} {d : Nat} {c : Nat → Int} (h : zLi a b gh t N LL n L P Q d c) : L ≤ LL ∧ P = (if L < LL then a 9 L else N + 1) ∧ 0 ≤ Q ∧ Q ≤ P ∧ Q ≤ N := h.2.1
theorem zLi.B {a b : qM} {gh : qM × qM} {t : Int → Int} {N LL n L P Q : Int} {d : Nat} {c : Nat → Int} (h : zLi a b gh t N LL n L P Q d c) : zB a b n := h.2.2.1
theorem zLi.C {a b : qM} {gh : qM × qM} {t : Int → Int} {N LL n L P Q : Int} {d : Nat} {c : Nat → Int} (h : zLi a b gh t N LL n L P Q d c) : zCh a b n d c := h.2.2.2.1
theorem zLi.O {a b : qM} {gh : qM × qM} {t : Int → Int} {N LL n L P Q : Int} {d : Nat} {c : Nat → Int} (h : zLi a b gh t N LL n L P Q d c) : zOw a b n (if L < LL then P else N) := h.2.2.2.2.1
theorem zLi.S {a b : qM} {gh : qM × qM} {t : Int → Int} {N LL n L P Q : Int} {d : Nat} {c : Nat → Int} (h : zLi a b gh t N LL n L P Q d c) : zLs a b n L := h.2.2.2.2.2.1
theorem zLi.l17 {a b : qM} {gh : qM × qM} {t : Int → Int} {N LL n L P Q : Int} {d : Nat} {c : Nat → Int} (h : zLi a b gh t N LL n L P Q d c) : b 113 17 = L := h.2.2.2.2.2.2.1
theorem zLi.pt {a b : qM} {gh : qM × qM} {t : Int → Int} {N LL n L P Q : Int} {d : Nat} {c : Nat → Int} (h : zLi a b gh t N LL n L P Q d c) : zPt a b n P (1 + 2 * Q) := h.2.2.2.2.2.2.2.1
theorem zLi.nd {a b : qM} {gh : qM × qM} {t : Int → Int} {N LL n L P Q : Int} {d : Nat} {c : Nat → Int} (h : zLi a b gh t N LL n L P Q d c) : zNm a b n 7 37 36 := h.2.2.2.2.2.2.2.2.1
theorem zLi.nh {a b : qM} {gh : qM × qM} {t : Int → Int} {N LL n L P Q : Int} {d : Nat} {c : Nat → Int} (h : zLi a b gh t N LL n L P Q d c) : zNm a b n 4 41 40 := h.2.2.2.2.2.2.2.2.2.1
theorem zLi.nl {a b : qM} {gh : qM × qM} {t : Int → Int} {N LL n L P Q : Int} {d : Nat} {c : Nat → Int} (h : zLi a b gh t N LL n L P Q d c) : 7 * a 37 1 ≤ P ∧ a 41 1 ≤ L := h.2.2.2.2.2.2.2.2.2.2.1
theorem zLi.cur {a b : qM} {gh : qM × qM} {t : Int → Int} {N LL n L P Q : Int} {d : Nat} {c : Nat → Int} (h : zLi a b gh t N LL n L P Q d c) : b 117 (c d) = 5 ∨ b 117 (c d) = 6 → zF a b (c d) + a 28 (c d) = L := h.2.2.2.2.2.2.2.2.2.2.2.1
theorem zLi.ib {a b : qM} {gh : qM × qM} {t : Int → Int} {N LL n L P Q : Int} {d : Nat} {c : Nat → Int} (h : zLi a b gh t N LL n L P Q d c) : a 43 8 = b 113 48 := h.2.2.2.2.2.2.2.2.2.2.2.2.1
theorem zLi.fz {a b : qM} {gh : qM × qM} {t : Int → Int} {N LL n L P Q : Int} {d : Nat} {c : Nat → Int} (h : zLi a b gh t N LL n L P Q d c) : zFz a b n L := h.2.2.2.2.2.2.2.2.2.2.2.2.2
section Fin
variable {X : Nat × (Nat → Int32)} {a b a' b' s : qM} {K : qM → Prop} {gh : qM × qM} {t : Int → Int} {n R E N LL : Int}
theorem zFz.gr {n' L : Int} (Z : zFz a b n L) (e32 : a' 32 = a 32) (e9 : a' 9 = a 9) (e11 : a' 11 = a 11) (ow : ∀ l, 0 ≤ l → l < L → 0 ≤ a 32 l ∧ a 32 l < n) (old : ∀ k, 0 ≤ k → k < n → b' 117 k = b 117 k) (new : ∀ k, n ≤ k → k < n' → b' 117 k ≤ 3) : zFz a' b' n' L := by
  obtain ⟨z1, z2⟩ := Z
  unfold zFz
  rw [e32, e9, e11]
  refine ⟨fun l l0 lL h => ?_, fun k k0 kn h => ?_⟩
  · rw [old _ (ow l l0 lL).1 (ow l l0 lL).2] at h
    obtain ⟨l', q1, q2, q3, q4⟩ := z1 l l0 lL h
    have o := ow l' q1 (by omega)
    exact ⟨l', q1, q2, by rw [old _ o.1 o.2]; exact q3, q4⟩
  · by_cases y : k < n
    · rw [old k k0 y] at h
      obtain ⟨l', q1, q2, q3, q4⟩ := z2 k k0 y h
      have o := ow l' q1 q2
      exact ⟨l', q1, q2, by rw [old _ o.1 o.2]; exact q3, q4⟩
    · have := new k (by omega) kn; omega
theorem zFz.asm {n' L v : Int} (Z : zFz a b n L) (ow : ∀ l, 0 ≤ l → l < L → 0 ≤ a 32 l ∧ a 32 l < n) (e32 : a' 32 = q_u (a 32) L v) (e9 : a' 9 = a 9) (e11 : a' 11 = a 11) (old : ∀ k, 0 ≤ k → k < n → b' 117 k = b 117 k) (L0 : 0 ≤ L) (v0 : 0 ≤ v) (hf : ∀ k, n ≤ k → k < n' → k = v ∧ a 9 L < a 11 L) (vn : v < n') : zFz a' b' n' (L + 1) := by
  obtain ⟨z1, z2⟩ := Z
  unfold zFz
  rw [e32, e9, e11]
  have k1 : ∀ l', 0 ≤ l' → l' < L → b 117 (a 32 l') = 5 → b' 117 (q_u (a 32) L v l') = 5 := fun l' u w h => by
    have o := ow l' u w
    rw [q_u_ne (by omega), old _ o.1 o.2]; exact h
  have k2 : b' 117 v = 5 → ∃ l', 0 ≤ l' ∧ l' < L + 1 ∧ b' 117 (q_u (a 32) L v l') = 5 ∧ a 9 l' < a 11 l' := fun h => by
    by_cases y : v < n
    · rw [old v v0 y] at h
      obtain ⟨l', q1, q2, q3, q4⟩ := z2 v v0 y h
      exact ⟨l', q1, by omega, k1 l' q1 q2 q3, q4⟩
    · exact ⟨L, L0, by omega, by rw [q_u_at]; exact h, (hf v (by omega) vn).2⟩
  refine ⟨fun l l0 lL h => ?_, fun k k0 kn h => ?_⟩
  · by_cases e : l = L
    · rw [e, q_u_at] at h
      obtain ⟨l', q1, q2, q3, q4⟩ := k2 h
      exact ⟨l', q1, by omega, q3, q4⟩
    · have o := ow l l0 (by omega)
      rw [q_u_ne e, old _ o.1 o.2] at h
      obtain ⟨l', q1, q2, q3, q4⟩ := z1 l l0 (by omega) h
      exact ⟨l', q1, q2, k1 l' q1 (by omega) q3, q4⟩
  · by_cases y : k < n
    · rw [old k k0 y] at h
      obtain ⟨l', q1, q2, q3, q4⟩ := z2 k k0 y h
      exact ⟨l', q1, by omega, k1 l' q1 q2 q3, q4⟩
    · have ev := (hf k (by omega) kn).1
      rw [ev] at h
      exact k2 h
theorem zTxt.fr (T : zTxt a b gh t N LL) (fa : ∀ q, q < 12 ∨ 44 ≤ q → a' q = a q) (f29 : a' 29 1 = a 29 1) (f31 : a' 31 1 = a 31 1) (f33 : a' 33 1 = a 33 1) (fb : ∀ q, q < 113 ∨ q = 114 ∨ q = 115 ∨ q = 116 ∨ 131 ≤ q → b' q = b q) (f113 : ∀ j, j ≠ 4 → j ≠ 17 → j ≠ 48 → j ≠ 49 → j ≠ 50 → b' 113 j = b 113 j) : zTxt a' b' gh t N LL := by
  obtain ⟨x1, x2, x3⟩ := T.fx
  refine zTxt.mk ?_ ?_ ?_ ?_ ?_ ⟨fun q hq => by rw [fa q (by omega)]; exact x1 q hq, fun q hq => by rw [fb q (by omega)]; exact x2 q hq, fun j u v w y z => by rw [f113 j u v w y z]; exact x3 j u v w y z⟩
  · rw [fa 1 (by decide)]; exact T.n1
  · rw [fa 2 (by decide)]; exact T.ch
  · rw [f113 0 (by decide) (by decide) (by decide) (by decide) (by decide), fb 114 (by decide)]; exact T.bt
  · rw [fa 9 (by decide), fa 11 (by decide)]; exact T.ln
  · rw [fa 8 (by decide), fa 10 (by decide), f29, f31, f33]; exact T.sz
theorem zB.fr2 (B : zB a b n) (fa : ∀ q, 13 ≤ q → q ≤ 28 → a' q = a q) (fb : ∀ q, 117 ≤ q → q ≤ 123 → b' q = b q) (h4 : b' 113 4 = b 113 4) (h17 : b 113 17 ≤ b' 113 17) : zB a' b' n := by
  refine zB.mk B.n1 ?_ ?_ ?_ ?_ ?_ ?_ ?_ (by rw [fb 118 (by decide) (by decide)]; exact B.pre)
  · rw [fa 13 (by decide) (by decide), fa 15 (by decide) (by decide), fa 17 (by decide) (by decide), fa 19 (by decide) (by decide), fa 21 (by decide) (by decide), fa 23 (by decide) (by decide), fa 25 (by decide) (by decide), fa 27 (by decide) (by decide), h4]; exact B.rows
  · rw [fb 117 (by decide) (by decide), fb 118 (by decide) (by decide)]; exact B.root
  · rw [fa 14 (by decide) (by decide), fa 16 (by decide) (by decide), fb 117 (by decide) (by decide), fb 118 (by decide) (by decide)]; exact B.kd
  · rw [fb 117 (by decide) (by decide), fb 118 (by decide) (by decide)]; exact B.par
  · rw [fa 22 (by decide) (by decide), fa 24 (by decide) (by decide), fa 28 (by decide) (by decide), fb 117 (by decide) (by decide), fb 120 (by decide) (by decide), fb 121 (by decide) (by decide), fb 123 (by decide) (by decide)]; exact B.ms
  · rw [fa 20 (by decide) (by decide), fb 117 (by decide) (by decide), fb 123 (by decide) (by decide)]
    intro k k0 kn
    have h := B.fl k k0 kn
    exact ⟨h.1, by omega, h.2.2⟩
  · rw [fb 122 (by decide) (by decide), fb 118 (by decide) (by decide)]; exact B.la
theorem zB.fr3 (B : zB a b n) (fa : ∀ q, 13 ≤ q → q ≤ 28 → q ≠ 18 → a' q = a q) (fb : ∀ q, 117 ≤ q → q ≤ 123 → q ≠ 119 → b' q = b q) (h4 : b' 113 4 = b 113 4) (h17 : b 113 17 ≤ b' 113 17) : zB a' b' n := by
  refine zB.mk B.n1 ?_ ?_ ?_ ?_ ?_ ?_ ?_ (by rw [fb 118 (by decide) (by decide) (by decide)]; exact B.pre)
  · rw [fa 13 (by decide) (by decide) (by decide), fa 15 (by decide) (by decide) (by decide), fa 17 (by decide) (by decide) (by decide), fa 19 (by decide) (by decide) (by decide), fa 21 (by decide) (by decide) (by decide), fa 23 (by decide) (by decide) (by decide), fa 25 (by decide) (by decide) (by decide), fa 27 (by decide) (by decide) (by decide), h4]; exact B.rows
  · rw [fb 117 (by decide) (by decide) (by decide), fb 118 (by decide) (by decide) (by decide)]; exact B.root
  · rw [fa 14 (by decide) (by decide) (by decide), fa 16 (by decide) (by decide) (by decide), fb 117 (by decide) (by decide) (by decide), fb 118 (by decide) (by decide) (by decide)]; exact B.kd
  · rw [fb 117 (by decide) (by decide) (by decide), fb 118 (by decide) (by decide) (by decide)]; exact B.par
  · rw [fa 22 (by decide) (by decide) (by decide), fa 24 (by decide) (by decide) (by decide), fa 28 (by decide) (by decide) (by decide), fb 117 (by decide) (by decide) (by decide), fb 120 (by decide) (by decide) (by decide), fb 121 (by decide) (by decide) (by decide), fb 123 (by decide) (by decide) (by decide)]; exact B.ms
  · rw [fa 20 (by decide) (by decide) (by decide), fb 117 (by decide) (by decide) (by decide), fb 123 (by decide) (by decide) (by decide)]
    intro k k0 kn
    have h := B.fl k k0 kn
    exact ⟨h.1, by omega, h.2.2⟩
  · rw [fb 122 (by decide) (by decide) (by decide), fb 118 (by decide) (by decide) (by decide)]; exact B.la
/-- one line more for a leaf -/
theorem zB.cnt (B : zB a b n) {x : Int} (x0 : 0 ≤ x) (xn : x < n) (kx : b 117 x = 5 ∨ b 117 x = 6) (fa : ∀ q, 13 ≤ q → q ≤ 27 → q ≠ 18 → a' q = a q) (f28 : a' 28 = q_u (a 28) x (a 28 x + 1)) (fb : ∀ q, 117 ≤ q → q ≤ 122 → q ≠ 119 → b' q = b q) (f123 : b' 123 = if b 117 x = 5 then q_u (b 123) x (b 123 x + 1) else b 123) (h4 : b' 113 4 = b 113 4) (h17 : b 113 17 + 1 ≤ b' 113 17) : zB a' b' n := by
  have o123 : ∀ k, k ≠ x → b' 123 k = b 123 k := fun k hk => by rw [f123]; split; · { exact q_u_ne hk }; · { rfl }
  have x123 : b' 123 x = b 123 x ∨ b' 123 x = b 123 x + 1 := by rw [f123]; split; · { right; exact q_u_at }; · { left; rfl }
  have hx := B.ms x x0 xn
  have hf := B.fl x x0 xn
  refine zB.mk B.n1 ?_ ?_ ?_ ?_ ?_ ?_ ?_ (by rw [fb 118 (by decide) (by decide) (by decide)]; exact B.pre)
  · rw [fa 13 (by decide) (by decide) (by decide), fa 15 (by decide) (by decide) (by decide), fa 17 (by decide) (by decide) (by decide), fa 19 (by decide) (by decide) (by decide), fa 21 (by decide) (by decide) (by decide), fa 23 (by decide) (by decide) (by decide), fa 25 (by decide) (by decide) (by decide), fa 27 (by decide) (by decide) (by decide), h4]; exact B.rows
  · rw [fb 117 (by decide) (by decide) (by decide), fb 118 (by decide) (by decide) (by decide)]; exact B.root
  · rw [fa 14 (by decide) (by decide) (by decide), fa 16 (by decide) (by decide) (by decide), fb 117 (by decide) (by decide) (by decide), fb 118 (by decide) (by decide) (by decide)]; exact B.kd
  · rw [fb 117 (by decide) (by decide) (by decide), fb 118 (by decide) (by decide) (by decide)]; exact B.par
  · rw [fa 22 (by decide) (by decide) (by decide), fa 24 (by decide) (by decide) (by decide), f28, fb 117 (by decide) (by decide) (by decide), fb 120 (by decide) (by decide) (by decide), fb 121 (by decide) (by decide) (by decide)]
    intro k k0 kn
    have h := B.ms k k0 kn
    refine ⟨h.1, h.2.1, h.2.2.1, fun k5 => ?_, h.2.2.2.2⟩
    by_cases e : k = x
    · rw [e] at k5 ⊢
      rw [f123, if_pos k5, q_u_at, q_u_at, hx.2.2.2.1 k5]
    · rw [q_u_ne e, o123 k e]; exact h.2.2.2.1 k5
  · rw [fa 20 (by decide) (by decide) (by decide), fb 117 (by decide) (by decide) (by decide)]
    intro k k0 kn
    have h := B.fl k k0 kn
    by_cases e : k = x
    · rw [e]
      exact ⟨by omega, by omega, fun z => by omega⟩
    · rw [o123 k e]
      exact ⟨h.1, by omega, h.2.2⟩
  · rw [fb 122 (by decide) (by decide) (by decide), fb 118 (by decide) (by decide) (by decide)]; exact B.la
/-- what the class does at the end of a line -/
def zEa (s s' : qM) (L v R E x : Int) : Prop := (∀ q, q ≠ 30 → q ≠ 32 → q ≠ 34 → q ≠ 43 → s' q = s q) ∧ (s' 30 = if s 14 v = 4 then s 30 else q_u (s 30) L R) ∧ (s' 32 = q_u (s 32) L v) ∧ (∀ j, j ≠ 8 → s' 43 j = s 43 j) ∧ (s' 43 8 = x) ∧ (∀ i, R ≤ i → i ≤ E → i < s 1 1 → s' 34 i = v) ∧ (∀ i, i < R → s' 34 i = s 34 i)
theorem zEa.mk {s s' : qM} {L v R E x : Int} (fr : ∀ q, q ≠ 30 → q ≠ 32 → q ≠ 34 → q ≠ 43 → s' q = s q) (f30 : s' 30 = if s 14 v = 4 then s 30 else q_u (s 30) L R) (f32 : s' 32 = q_u (s 32) L v) (f43 : ∀ j, j ≠ 8 → s' 43 j = s 43 j) (blank : s' 43 8 = x) (own : ∀ i, R ≤ i → i ≤ E → i < s 1 1 → s' 34 i = v) (old : ∀ i, i < R → s' 34 i = s 34 i) : zEa s s' L v R E x := ⟨fr, f30, f32, f43, blank, own, old⟩
theorem zEa.fr {s s' : qM} {L v R E x : Int} (h : zEa s s' L v R E x) : ∀ q, q ≠ 30 → q ≠ 32 → q ≠ 34 → q ≠ 43 → s' q = s q := h.1
theorem zEa.f30 {s s' : qM} {L v R E x : Int} (h : zEa s s' L v R E x) : s' 30 = if s 14 v = 4 then s 30 else q_u (s 30) L R := h.2.1
theorem zEa.f32 {s s' : qM} {L v R E x : Int} (h : zEa s s' L v R E x) : s' 32 = q_u (s 32) L v := h.2.2.1
theorem zEa.f43 {s s' : qM} {L v R E x : Int} (h : zEa s s' L v R E x) : ∀ j, j ≠ 8 → s' 43 j = s 43 j := h.2.2.2.1
theorem zEa.blank {s s' : qM} {L v R E x : Int} (h : zEa s s' L v R E x) : s' 43 8 = x := h.2.2.2.2.1
theorem zEa.own {s s' : qM} {L v R E x : Int} (h : zEa s s' L v R E x) : ∀ i, R ≤ i → i ≤ E → i < s 1 1 → s' 34 i = v := h.2.2.2.2.2.1
theorem zEa.old {s s' : qM} {L v R E x : Int} (h : zEa s s' L v R E x) : ∀ i, i < R → s' 34 i = s 34 i := h.2.2.2.2.2.2
theorem k_Rd_ownRest {L v : Int} (H : zCl s t R E) (L0 : 0 ≤ L) (hL : L < s 31 1) (h31 : s 31 1 ≤ 241) (h : ∀ s', (∀ q, q ≠ 32 → q ≠ 34 → s' q = s q) → s' 32 = q_u (s 32) L v → (∀ i, R ≤ i → i ≤ E → i < s 1 1 → s' 34 i = v) → (∀ i, i < R → s' 34 i = s 34 i) → K s') : c_Rd_ownRest X L v s K := by
  have hE := H.En
  have hN := H.n240
  have hR := H.R0
  have hRE := H.RE
  refine sg_Rd_ownRest (sg_Blocks_ownLine (k_Row_set q_row_31 h31 (fun _ _ => ?_) (fun z => absurd ⟨L0, hL⟩ z)))
  have q1 : ∀ q, q ≠ 32 → q_up s (31 + 1) L v q = s q := fun q hq => q_up_ne hq
  have q2 : q_up s (31 + 1) L v 32 = q_u (s 32) L v := q_up_fn
  rw [show q_up s (31 + 1) L v 43 3 = R by rw [q1 43 (by decide)]; exact H.rest]
  generalize q_up s (31 + 1) L v = s0 at q1 q2
  have Lp : ∀ (m : Nat) (p : Int) (s1 : qM), E + 1 - p ≤ m → R ≤ p → (∀ q, q ≠ 34 → s1 q = s0 q) → (∀ i, R ≤ i → i < p → i < s 1 1 → s1 34 i = v) → (∀ i, i < R → s1 34 i = s 34 i) → p ≤ E + 1 → L_Rd_ownRest_14 X v p s1 K := by
    intro m
    induction m with
    | zero =>
      intro p s1 hm hp f1 f2 f3 hp2
      refine sg_Rd_ownRest_14 (z_t ?_ (h s1 (fun q x y => (f1 q y).trans (q1 q x)) ((f1 32 (by decide)).trans q2) (fun i x y => f2 i x (by omega)) f3))
      rw [f1 43 (by decide), q1 43 (by decide), H.stop]; omega
    | succ m ih =>
      intro p s1 hm hp f1 f2 f3 hp2
      have es : s1 43 4 = E := by rw [f1 43 (by decide), q1 43 (by decide)]; exact H.stop
      have e33 : s1 33 1 = s 1 1 := by rw [f1 33 (by decide), q1 33 (by decide)]; exact H.ow
      refine sg_Rd_ownRest_14 (z_c (fun x => ?_) (fun x => ?_))
      · exact h s1 (fun q x y => (f1 q y).trans (q1 q x)) ((f1 32 (by decide)).trans q2) (fun i x y => f2 i x (by omega)) f3
      · rw [es] at x
        refine sg_Blocks_own (k_Row_set q_row_33 (by omega) (fun a b => ⟨by omega, ?_⟩) (fun z => ⟨by omega, ?_⟩))
        · refine ih (p + 1) _ (by omega) (by omega) (fun q hq => by rw [q_up_ne hq]; exact f1 q hq) (fun i c d e => ?_) (fun i c => ?_) (by omega)
          · by_cases y : i = p
            · rw [y, q_up_at]
            · rw [q_up_nj y]; exact f2 i c (by omega) e
          · rw [q_up_nj (by omega)]; exact f3 i c
        · exact ih (p + 1) s1 (by omega) (by omega) f1 (fun i c d e => f2 i c (by omega) e) f3 (by omega)
  refine Lp (E + 1 - R).toNat R s0 (by omega) (Int.le_refl R) (fun _ _ => rfl) (fun i a b => by omega) (fun i _ => by rw [q1 34 (by decide)]) (by omega)
theorem k_Rd_end {L v x : Int} (H : zCl s t R E) (L0 : 0 ≤ L) (hL : L < s 31 1) (hL2 : L < s 29 1) (h31 : s 31 1 ≤ 241) (h29 : s 29 1 ≤ 241) (h13 : s 13 1 ≤ 482) (v0 : 0 ≤ v) (vn : v < s 13 1) (h : ∀ s', zEa s s' L v R E x → K s') :
    c_Blocks_kindOf X v s (fun r16 s15 => (((r16 = 4) → c_Rd_ownRest X L v s15 (fun s17 => (∀ s18 : qM, s18 = q_up s17 43 8 x → K s18))) ∧ (¬ (r16 = 4) → c_Blocks_beginContent X L (s15 43 3) s15 (fun s19 => c_Rd_ownRest X L v s19 (fun s20 => (∀ s21 : qM, s21 = q_up s20 43 8 x → K s21)))))) := by
  refine k_Blocks_kindOf h13 ?_
  rw [zT_in v0 vn]
  refine z_c (fun e => ?_) (fun e => ?_)
  · refine k_Rd_ownRest H L0 hL h31 (fun s1 f1 f2 f3 f4 s2 e2 => h s2 ?_)
    have q : ∀ q, q ≠ 43 → s2 q = s1 q := fun q hq => by rw [e2]; exact q_up_ne hq
    exact zEa.mk (fun r _ y z w => (q r w).trans (f1 r y z)) (by rw [if_pos e, q 30 (by decide)]; exact f1 30 (by decide) (by decide)) (by rw [q 32 (by decide)]; exact f2) (fun j hj => by rw [e2, q_up_nj hj, f1 43 (by decide) (by decide)]) (by rw [e2]; exact q_up_at) (fun i c d e => by rw [q 34 (by decide)]; exact f3 i c d e) (fun i c => by rw [q 34 (by decide)]; exact f4 i c)
  · refine sg_Blocks_beginContent (k_Row_set q_row_29 h29 (fun _ _ => ?_) (fun z => absurd ⟨L0, hL2⟩ z))
    rw [H.rest]
    have g : ∀ q, q ≠ 30 → q_up s (29 + 1) L R q = s q := fun q hq => q_up_ne hq
    have g30 : q_up s (29 + 1) L R 30 = q_u (s 30) L R := q_up_fn
    generalize q_up s (29 + 1) L R = s0 at g g30
    have H0 : zCl s0 t R E := zCl.mk (by rw [g 43 (by decide)]; exact H.rest) (by rw [g 43 (by decide)]; exact H.stop) H.R0 H.RE (by rw [g 1 (by decide)]; exact H.En) (by rw [g 1 (by decide)]; exact H.n240) (by rw [g 33 (by decide), g 1 (by decide)]; exact H.ow) (by rw [g 1 (by decide), g 2 (by decide)]; exact H.tx)
    refine k_Rd_ownRest H0 L0 (by rw [g 31 (by decide)]; exact hL) (by rw [g 31 (by decide)]; exact h31) (fun s1 f1 f2 f3 f4 s2 e2 => h s2 ?_)
    rw [g 32 (by decide)] at f2
    rw [g 1 (by decide)] at f3
    rw [g 34 (by decide)] at f4
    have q : ∀ q, q ≠ 43 → s2 q = s1 q := fun q hq => by rw [e2]; exact q_up_ne hq
    exact zEa.mk (fun r x y z w => (q r w).trans ((f1 r y z).trans (g r x))) (by rw [if_neg e, q 30 (by decide), f1 30 (by decide) (by decide)]; exact g30) (by rw [q 32 (by decide)]; exact f2) (fun j hj => by rw [e2, q_up_nj hj, f1 43 (by decide) (by decide), g 43 (by decide)]) (by rw [e2]; exact q_up_at) (fun i c d e => by rw [q 34 (by decide)]; exact f3 i c d e) (fun i c => by rw [q 34 (by decide)]; exact f4 i c)
/-- what the model does at the end of a line -/
def zEb (s s' : qM) (L v P R E2 x : Int) : Prop := (∀ q, q ≠ 113 → q ≠ 127 → q ≠ 128 → q ≠ 129 → s' q = s q) ∧ (∀ j, j ≠ 17 → j ≠ 48 → s' 113 j = s 113 j) ∧ (s' 113 48 = x) ∧ (s' 113 17 = L + 1) ∧ (s' 127 = q_u (s 127) L P) ∧ (s' 128 = q_u (s 128) L (if s 117 v = 5 then 1 else 0)) ∧ (∀ i, R ≤ i → i < E2 → s' 129 i = v) ∧ (∀ i, ¬ (R ≤ i ∧ i < E2) → s' 129 i = s 129 i)
theorem zEb.mk {s s' : qM} {L v P R E2 x : Int} (fr : ∀ q, q ≠ 113 → q ≠ 127 → q ≠ 128 → q ≠ 129 → s' q = s q) (f113 : ∀ j, j ≠ 17 → j ≠ 48 → s' 113 j = s 113 j) (blank : s' 113 48 = x) (ln : s' 113 17 = L + 1) (f127 : s' 127 = q_u (s 127) L P) (f128 : s' 128 = q_u (s 128) L (if s 117 v = 5 then 1 else 0)) (own : ∀ i, R ≤ i → i < E2 → s' 129 i = v) (old : ∀ i, ¬ (R ≤ i ∧ i < E2) → s' 129 i = s 129 i) : zEb s s' L v P R E2 x := ⟨fr, f113, blank, ln, f127, f128, own, old⟩
theorem zEb.fr {s s' : qM} {L v P R E2 x : Int} (h : zEb s s' L v P R E2 x) : ∀ q, q ≠ 113 → q ≠ 127 → q ≠ 128 → q ≠ 129 → s' q = s q := h.1
theorem zEb.f113 {s s' : qM} {L v P R E2 x : Int} (h : zEb s s' L v P R E2 x) : ∀ j, j ≠ 17 → j ≠ 48 → s' 113 j = s 113 j := h.2.1
theorem zEb.blank {s s' : qM} {L v P R E2 x : Int} (h : zEb s s' L v P R E2 x) : s' 113 48 = x := h.2.2.1
theorem zEb.ln {s s' : qM} {L v P R E2 x : Int} (h : zEb s s' L v P R E2 x) : s' 113 17 = L + 1 := h.2.2.2.1
theorem zEb.f127 {s s' : qM} {L v P R E2 x : Int} (h : zEb s s' L v P R E2 x) : s' 127 = q_u (s 127) L P := h.2.2.2.2.1
theorem zEb.f128 {s s' : qM} {L v P R E2 x : Int} (h : zEb s s' L v P R E2 x) : s' 128 = q_u (s 128) L (if s 117 v = 5 then 1 else 0) := h.2.2.2.2.2.1
theorem zEb.own {s s' : qM} {L v P R E2 x : Int} (h : zEb s s' L v P R E2 x) : ∀ i, R ≤ i → i < E2 → s' 129 i = v := h.2.2.2.2.2.2.1
theorem zEb.old {s s' : qM} {L v P R E2 x : Int} (h : zEb s s' L v P R E2 x) : ∀ i, ¬ (R ≤ i ∧ i < E2) → s' 129 i = s 129 i := h.2.2.2.2.2.2.2
theorem k_m_496 {L v P E2 x : Int} (R0 : 0 ≤ R) (hE : E2 ≤ 240) (x0 : 0 ≤ x) (x1 : x ≤ 1) (v0 : 0 ≤ v) (vn : v < 600) (hL : s 113 17 = L) (L0 : 0 ≤ L) (L1 : L < 241) (h : ∀ s', zEb s s' L v P R E2 x → K s') : L_m_looksAt_496 X P x v R E2 s K := by
  refine sg_m_looksAt_496 (k_m_owns R0 hE (fun s1 f1 f2 f3 => ⟨⟨x0, x1⟩, fun s2 e2 => ⟨v0, vn, ?_⟩⟩))
  have l2 : s2 113 17 = L := by rw [e2, q_up_nj (by decide), f1 113 (by decide)]; exact hL
  have g2 : ∀ q, q ≠ 113 → q ≠ 129 → s2 q = s q := fun q a b => by rw [e2, q_up_ne a]; exact f1 q b
  have fin : ∀ y, y = (if s 117 v = 5 then 1 else 0) → ((0 : Int) ≤ (s2 113 17)) ∧ ((s2 113 17) < (241 : Int)) ∧ (∀ s3 : qM, s3 = q_up s2 128 (s2 113 17) y → ((0 : Int) ≤ (s3 113 17)) ∧ ((s3 113 17) < (241 : Int)) ∧ (∀ s4 : qM, s4 = q_up s3 127 (s3 113 17) P → (-2147483648 ≤ ((s4 113 17) + 1) ∧ ((s4 113 17) + 1) < 2147483648) ∧ (∀ s5 : qM, s5 = q_up s4 113 17 ((s4 113 17) + 1) → K s5))) := by
    intro y hy
    rw [l2]
    refine ⟨L0, L1, fun s3 e3 => ?_⟩
    have l3 : s3 113 17 = L := by rw [e3, q_up_ne (by decide)]; exact l2
    rw [l3]
    refine ⟨L0, L1, fun s4 e4 => ?_⟩
    have l4 : s4 113 17 = L := by rw [e4, q_up_ne (by decide)]; exact l3
    rw [l4]
    refine ⟨by omega, fun s5 e5 => h s5 (zEb.mk (fun q a b c d => ?_) (fun j a b => ?_) ?_ ?_ ?_ ?_ (fun i a b => ?_) (fun i a => ?_))⟩
    · rw [e5, q_up_ne a, e4, q_up_ne b, e3, q_up_ne c]; exact g2 q a d
    · rw [e5, q_up_nj a, e4, q_up_ne (by decide), e3, q_up_ne (by decide), e2, q_up_nj b, f1 113 (by decide)]
    · rw [e5, q_up_nj (by decide), e4, q_up_ne (by decide), e3, q_up_ne (by decide), e2, q_up_at]
    · rw [e5, q_up_at]
    · rw [e5, q_up_ne (by decide), e4, q_up_fn, e3, q_up_ne (by decide), g2 127 (by decide) (by decide)]
    · rw [e5, q_up_ne (by decide), e4, q_up_ne (by decide), e3, q_up_fn, g2 128 (by decide) (by decide), hy]
    · rw [e5, q_up_ne (by decide), e4, q_up_ne (by decide), e3, q_up_ne (by decide), e2, q_up_ne (by decide)]; exact f2 i a b
    · rw [e5, q_up_ne (by decide), e4, q_up_ne (by decide), e3, q_up_ne (by decide), e2, q_up_ne (by decide)]; exact f3 i a
  rw [g2 117 (by decide) (by decide)]
  exact z_c (fun e => fin 0 (by rw [if_neg e])) (fun e => fin 1 (by rw [if_pos (Decidable.not_not.mp e)]))
theorem zNm.fr {κ : Int} {r cc : Nat} {n' : Int} (M : zNm a b n κ r cc) (nn : n ≤ n') (h1 : a' r 1 = a r 1) (h2 : a' (r + 1) = a (r + 1)) (h3 : a' cc = a cc) (k1 : ∀ k, 0 ≤ k → k < n → b' 117 k = b 117 k) (k2 : ∀ k, n ≤ k → k < n' → b' 117 k ≠ κ) (h4 : ∀ j, j < 6 * n → b' 130 j = b 130 j) : zNm a' b' n' κ r cc := by
  refine zNm.mk (by rw [h1]; exact M.s0) (fun i i0 hi => ?_) (fun i j => by rw [h1, h2]; exact M.mo i j) (fun k k0 kn hk => ?_)
  · rw [h1] at hi
    rw [h2, h3]
    obtain ⟨x1, x2, x3, l, x4, x5, x6⟩ := M.ls i i0 hi
    exact ⟨x1, by omega, by rw [k1 _ x1 x2]; exact x3, l, x4, x5, fun j hj => by rw [h4 _ (by omega)]; exact x6 j hj⟩
  · by_cases e : k < n
    · rw [h1, h2]; rw [k1 k k0 e] at hk; exact M.al k k0 e hk
    · exact absurd hk (k2 k (by omega) kn)
theorem zNm.add {κ : Int} {r cc : Nat} (M : zNm a b n κ r cc) (n0 : 0 ≤ n) {l : List Int} (hl : 1 ≤ l.length ∧ l.length ≤ 6 ∧ ∀ x, x ∈ l → zLet x) (h1 : a' r 1 = a r 1 + 1) (h2 : a' (r + 1) = q_u (a (r + 1)) (a r 1) n) (h3 : a' cc = q_u (a cc) (a r 1) (zCode l)) (k1 : ∀ k, 0 ≤ k → k < n → b' 117 k = b 117 k) (k2 : b' 117 n = κ) (h4 : ∀ j, j < 6 * n → b' 130 j = b 130 j) (h5 : ∀ j : Nat, j < 6 → b' 130 (6 * n + j) = l.getD j 0) : zNm a' b' (n + 1) κ r cc := by
  have s0 := M.s0
  refine zNm.mk (by omega) (fun i i0 hi => ?_) (fun i j i0 ij hj => ?_) (fun k k0 kn hk => ?_)
  · by_cases e : i = a r 1
    · rw [h2, h3, e, q_u_at, q_u_at]
      exact ⟨n0, by omega, k2, l, hl, rfl, h5⟩
    · rw [h2, h3, q_u_ne e, q_u_ne e]
      obtain ⟨x1, x2, x3, l', x4, x5, x6⟩ := M.ls i i0 (by omega)
      exact ⟨x1, by omega, by rw [k1 _ x1 x2]; exact x3, l', x4, x5, fun j hj => by rw [h4 _ (by omega)]; exact x6 j hj⟩
  · rw [h2, q_u_ne (show i ≠ a r 1 by omega)]
    by_cases e : j = a r 1
    · rw [e, q_u_at]; exact (M.ls i i0 (by omega)).2.1
    · rw [q_u_ne e]; exact M.mo i j i0 ij (by omega)
  · by_cases e : k = n
    · exact ⟨a r 1, s0, by omega, by rw [h2, q_u_at, e]⟩
    · rw [k1 k k0 (by omega)] at hk
      obtain ⟨i, i0, hi, x⟩ := M.al k k0 (by omega) hk
      exact ⟨i, i0, by omega, by rw [h2, q_u_ne (by omega)]; exact x⟩
theorem k_Names_add {th r cc : Nat} {x y : Int} (hth : q_isNames th cc r) (d1 : cc ≠ r) (d2 : cc ≠ r + 1) (h0 : 0 ≤ s r 1) (h1 : s r 1 < 241) (h : ∀ s', (∀ q, q ≠ cc → q ≠ r → q ≠ r + 1 → s' q = s q) → s' r 1 = s r 1 + 1 → s' (r + 1) = q_u (s (r + 1)) (s r 1) y → s' cc = q_u (s cc) (s r 1) x → K s') : c_Names_add X th x y s K := by
  refine sg_Names_add hth (k_Row_size hth.named (z_f (by omega) (z_f (by omega) ⟨h0, h1, fun s3 e3 => ?_⟩)))
  have g : ∀ q, q ≠ cc → s3 q = s q := fun q hq => by rw [e3]; exact q_up_ne hq
  have gr : s3 r = s r := g r (Ne.symm d1)
  refine k_Row_add hth.named (by rw [gr]; exact h0) (by rw [gr]; exact h1) ?_
  rw [gr]
  refine h _ (fun q a b c => by rw [q_up_ne b, q_up_ne c]; exact g q a) q_up_at ?_ ?_
  · rw [q_up_ne (by omega), q_up_fn, g (r + 1) (Ne.symm d2)]
  · rw [q_up_ne d1, q_up_ne d2, e3, q_up_fn]
end Fin
