/-! The leaves of a line: what comes of them. -/
theorem zPt.le {a b : qM} {n p q p' q' : Int} (P : zPt a b n p q) (hp : p ≤ p') (hq : q ≤ q') : zPt a b n p' q' := by
  have h1 := P.p1
  have h2 := P.p2
  exact zPt.mk (by omega) (by omega)
section Cases
variable {a b a1 b1 a4 b4 a5 b5 : qM} {gh : qM × qM} {t : Int → Int} {N LL n L P R E v x κ τ ib : Int} {d d4 i : Nat} {c c4 : Nat → Int}
theorem zMd.none (D : zMd a b gh t N LL n L P d c i R E) (fa : ∀ q, q ≠ 18 → a4 q = a q) (fb : ∀ q, q ≠ 119 → b4 q = b q) (C4 : zCh a4 b4 n d4 c4) (k4 : b 117 (c4 d4) ≠ 5 ∧ b 117 (c4 d4) ≠ 6) (v0 : 0 ≤ v) (vn : v < n) (EA : zEa a4 a5 L v R E x) (EB : zEb b4 b5 L v P R (if E < N then E + 1 else E) x) : zLi a5 b5 gh t N LL n (L + 1) (E + 1) E d4 c4 := by
  obtain ⟨g1, g2, g3, g4, g5, g6, g7, g8, g9, g10, g11⟩ := D.geo
  have n1 := D.S.B.n1
  have F : zFl a a4 b b4 L := zFl.mk (fun q _ _ => fa q (by omega)) (fa 29 (by decide)) (fun l _ => by rw [fa 30 (by decide)]) (fun q _ _ _ => fb q (by omega)) (fun j _ => by rw [fb 113 (by decide)]) (fun q _ _ l _ => by rw [fb q (by omega)])
  have f5 := zLf.asm D F (Int.le_refl n) (fun k _ _ => ⟨by rw [fa 26 (by decide)], by rw [fb 117 (by decide)]⟩) v0 vn EA EB
  have l5 : b5 124 L = -1 := by rw [EB.fr 124 (by decide) (by decide) (by decide) (by decide), fb 124 (by decide)]; exact D.lb
  have c28 : ∀ k, 0 ≤ k → k < n → a5 28 k = a 28 k := fun k _ _ => by rw [EA.fr 28 (by decide) (by decide) (by decide) (by decide), fa 28 (by decide)]
  have nw : ∀ k, n ≤ k → k < n → 4 ≤ b5 117 k → b5 117 k ≤ 6 → b5 117 k = 5 ∧ a5 26 k = L ∧ a5 28 k = 0 := fun k x y => by omega
  have a18 : a5 18 = a4 18 := EA.fr 18 (by decide) (by decide) (by decide) (by decide)
  have B5 : zB a5 b5 n := D.S.B.fr3 (fun q u w z => by rw [EA.fr q (by omega) (by omega) (by omega) (by omega)]; exact fa q z) (fun q u w z => by rw [EB.fr q (by omega) (by omega) (by omega) (by omega)]; exact fb q z) (by rw [EB.f113 4 (by decide) (by decide), fb 113 (by decide)]) (by rw [EB.ln, D.l17]; omega)
  refine zLi.asm D F (Int.le_refl n) B5 C4 (D.Ls.none f5 l5 c28 nw (by omega)) ((D.pt.none D.Ls f5 (by omega) c28 nw).le (by omega) (by omega)) ?_ ?_ (by rw [fa 37 (by decide), fa 41 (by decide)]; have := D.nl; omega) v0 vn EA EB rfl (fun z => by rw [fb 117 (by decide)] at z; omega) (fun k _ _ => by rw [fb 117 (by decide)]) (fun k x y => by omega)
  · exact D.nd.fr (Int.le_refl n) (by rw [fa 37 (by decide)]) (fa 38 (by decide)) (fa 36 (by decide)) (fun k _ _ => by rw [fb 117 (by decide)]) (fun k x y => by omega) (fun j _ => by rw [fb 130 (by decide)])
  · exact D.nh.fr (Int.le_refl n) (by rw [fa 41 (by decide)]) (fa 42 (by decide)) (fa 40 (by decide)) (fun k _ _ => by rw [fb 117 (by decide)]) (fun k x y => by omega) (fun j _ => by rw [fb 130 (by decide)])
theorem zMd.old (D : zMd a b gh t N LL n L P d c i R E) (kx : b 117 (c d) = 5 ∨ b 117 (c d) = 6) (nb : b 117 (c d) = 6 → zSkip t R E ≠ E) (fa : ∀ q, q ≠ 28 → a4 q = a q) (f28 : a4 28 = q_u (a 28) (c d) (a 28 (c d) + 1)) (fb : ∀ q, q ≠ 123 → q ≠ 124 → q ≠ 125 → q ≠ 126 → b4 q = b q)
    (f123 : b4 123 = if b 117 (c d) = 5 then q_u (b 123) (c d) (b 123 (c d) + 1) else b 123) (f124 : b4 124 = q_u (b 124) L (c d)) (f125 : b4 125 = q_u (b 125) L R) (f126 : b4 126 = q_u (b 126) L E) (EA : zEa a4 a5 L (c d) R E x) (EB : zEb b4 b5 L (c d) P R (if E < N then E + 1 else E) x) : zLi a5 b5 gh t N LL n (L + 1) (E + 1) E d c := by
  obtain ⟨g1, g2, g3, g4, g5, g6, g7, g8, g9, g10, g11⟩ := D.geo
  have n1 := D.S.B.n1
  have r := D.S.C.rng (Nat.le_refl d)
  have r0 : 0 ≤ c d := by omega
  have F : zFl a a4 b b4 L := zFl.mk (fun q _ _ => fa q (by omega)) (fa 29 (by decide)) (fun l _ => by rw [fa 30 (by decide)]) (fun q _ _ _ => fb q (by omega) (by omega) (by omega) (by omega)) (fun j _ => by rw [fb 113 (by decide) (by decide) (by decide) (by decide)]) (fun q u w l hl => by
    rcases (show q = 124 ∨ q = 125 ∨ q = 126 by omega) with e | e | e
    · rw [e, f124, q_u_ne hl]
    · rw [e, f125, q_u_ne hl]
    · rw [e, f126, q_u_ne hl])
  have f5 := zLf.asm D F (Int.le_refl n) (fun k _ _ => ⟨by rw [fa 26 (by decide)], by rw [fb 117 (by decide) (by decide) (by decide) (by decide)]⟩) r0 r.2 EA EB
  have a28 : a5 28 = q_u (a 28) (c d) (a 28 (c d) + 1) := by rw [EA.fr 28 (by decide) (by decide) (by decide) (by decide)]; exact f28
  have c28 : ∀ k, 0 ≤ k → k < n → k ≠ c d → a5 28 k = a 28 k := fun k _ _ h => by rw [a28, q_u_ne h]
  have cx : a5 28 (c d) = a 28 (c d) + 1 := by rw [a28, q_u_at]
  have e30 : a5 30 L = R := by
    have : a4 14 (c d) ≠ 4 := by rw [fa 14 (by decide), (D.S.B.kd (c d) r0 r.2).1]; omega
    rw [EA.f30, if_neg this, q_u_at]
  have e124 : b5 124 L = c d := by rw [EB.fr 124 (by decide) (by decide) (by decide) (by decide), f124, q_u_at]
  have e125 : b5 125 L = R := by rw [EB.fr 125 (by decide) (by decide) (by decide) (by decide), f125, q_u_at]
  have e126 : b5 126 L = E := by rw [EB.fr 126 (by decide) (by decide) (by decide) (by decide), f126, q_u_at]
  have hll := D.ll
  have ebt : b 114 = t := D.T.bt.2
  have lt : b 117 (c d) = 6 → R < E := fun z => by
    have h := nb z
    have g := zSkip_is (t := t) g7
    omega
  have B5 : zB a5 b5 n := D.S.B.cnt r0 r.2 kx (fun q u w z => by rw [EA.fr q (by omega) (by omega) (by omega) (by omega)]; exact fa q (by omega)) a28 (fun q u w z => by rw [EB.fr q (by omega) (by omega) (by omega) (by omega)]; exact fb q (by omega) (by omega) (by omega) (by omega)) (by rw [EB.fr 123 (by decide) (by decide) (by decide) (by decide)]; exact f123) (by rw [EB.f113 4 (by decide) (by decide), fb 113 (by decide) (by decide) (by decide) (by decide)]) (by rw [EB.ln, D.l17]; omega)
  have S5 : zLs a5 b5 n (L + 1) := D.Ls.old f5 r0 r.2 kx e124 c28 cx (D.cur kx) (by rw [e125, e30]) (by rw [e126]; exact hll.2.2.2.1) (by rw [e30]; omega) (by rw [e30]; omega) (fun z => by rw [e125, e126, ebt]; exact nb z)
  have P5 : zPt a5 b5 n (P + (E - R + 1)) (1 + 2 * E) := D.pt.old D.Ls f5 r0 r.2 kx c28 cx (D.cur kx) (by rw [e30]; omega) (fun _ => by omega) (fun z => by have := lt z; omega)
  refine zLi.asm D F (Int.le_refl n) B5 (D.S.C.fr (fa 18 (by decide)) (fb 118 (by decide) (by decide) (by decide) (by decide)) (fb 119 (by decide) (by decide) (by decide) (by decide)) (fb 122 (by decide) (by decide) (by decide) (by decide))) S5 (P5.le (by omega) (Int.le_refl _)) ?_ ?_ (by rw [fa 37 (by decide), fa 41 (by decide)]; have := D.nl; omega) r0 r.2 EA EB rfl (fun z => ?_) (fun k _ _ => by rw [fb 117 (by decide) (by decide) (by decide) (by decide)]) (fun k x y => by omega)
  · exact D.nd.fr (Int.le_refl n) (by rw [fa 37 (by decide)]) (fa 38 (by decide)) (fa 36 (by decide)) (fun k _ _ => by rw [fb 117 (by decide) (by decide) (by decide) (by decide)]) (fun k x y => by omega) (fun j _ => by rw [fb 130 (by decide) (by decide) (by decide) (by decide)])
  · exact D.nh.fr (Int.le_refl n) (by rw [fa 41 (by decide)]) (fa 42 (by decide)) (fa 40 (by decide)) (fun k _ _ => by rw [fb 117 (by decide) (by decide) (by decide) (by decide)]) (fun k x y => by omega) (fun j _ => by rw [fb 130 (by decide) (by decide) (by decide) (by decide)])
  · have := D.cur kx
    unfold zF at this ⊢
    rw [fa 26 (by decide), fb 117 (by decide) (by decide) (by decide) (by decide), f28, q_u_at]; omega
theorem zMd.new (D : zMd a b gh t N LL n L P d c i R E) (kx : κ = 4 ∨ κ = 5 ∨ κ = 6 ∨ κ = 7) (w4 : κ = 4 → 1 ≤ τ ∧ τ ≤ 3 ∧ R + τ ≤ E) (w6 : κ = 6 → zSkip t R E ≠ E) (lt : R < E) (A : zAdd a a1 n (c i) κ (a 43 8)) (M : zMod a1 a4 n (c i) κ τ) (Pu : zPut b b1 n (c i) κ τ) (F : zFl a a4 b b4 L)
    (fb : ∀ q, 117 ≤ q → q ≤ 123 → b4 q = b1 q) (f4 : b4 113 4 = b1 113 4) (c26 : κ ≠ 7 → a4 26 n = L) (c28 : κ = 4 ∨ κ = 6 → a4 28 n = 1) (lay : κ = 4 ∨ κ = 6 → b4 124 L = n ∧ b4 125 L = (if κ = 4 then R + τ else R) ∧ b4 126 L = E) (l4 : κ = 4 → a4 30 L = R + τ) (nlay : κ = 5 ∨ κ = 7 → b4 124 L = b 124 L)
    (nd4 : zNm a4 b4 (n + 1) 7 37 36) (nh4 : zNm a4 b4 (n + 1) 4 41 40) (nl4 : 7 * a4 37 1 ≤ E + 1 ∧ a4 41 1 ≤ L + 1) (EA : zEa a4 a5 L n R E x) (EB : zEb b4 b5 L n P R (if E < N then E + 1 else E) x) : ∃ d4 c4, zLi a5 b5 gh t N LL (n + 1) (L + 1) (E + 1) E d4 c4 := by
  obtain ⟨g1, g2, g3, g4, g5, g6, g7, g8, g9, g10, g11⟩ := D.geo
  have n1 := D.S.B.n1
  have hll := D.ll
  have r := D.S.C.rng D.S.id
  obtain ⟨B4, CO, CC⟩ := D.S.B.join D.S.C D.S.id D.S.ib D.S.ki.1 (by omega) (by omega) ⟨fun z => absurd z D.S.ki.2, fun z => by omega⟩ (fun z => by omega) (fun z => ⟨(w4 z).1, (w4 z).2.1⟩) A M Pu
  have k117 : ∀ k, k ≠ n → b4 117 k = b 117 k := fun k hk => by rw [fb 117 (by decide) (by decide), Pu.f117, q_u_ne hk]
  have k117n : b4 117 n = κ := by rw [fb 117 (by decide) (by decide), Pu.f117, q_u_at]
  have o26 : ∀ k, k ≠ n → a4 26 k = a 26 k := fun k hk => by rw [(M.pt k hk).2.2.1, A.f26, q_u_ne hk]
  have o28 : ∀ k, k ≠ n → a4 28 k = a 28 k := fun k hk => by rw [(M.pt k hk).2.2.2, A.f28, q_u_ne hk]
  have B4' : zB a4 b4 (n + 1) := B4.fr (fun _ _ _ => rfl) fb f4 (by rw [F.f113 17 (by decide), Pu.f113 17 (by decide)])
  have f5 := zLf.asm D F (show n ≤ n + 1 by omega) (fun k k0 kn => ⟨o26 k (by omega), k117 k (by omega)⟩) (show 0 ≤ n by omega) (show n < n + 1 by omega) EA EB
  have B5 : zB a5 b5 (n + 1) := B4'.fr2 (fun q u w => EA.fr q (by omega) (by omega) (by omega) (by omega)) (fun q u w => EB.fr q (by omega) (by omega) (by omega) (by omega)) (EB.f113 4 (by decide) (by decide)) (by rw [EB.ln, F.f113 17 (by decide), D.l17]; omega)
  have a28 : a5 28 = a4 28 := EA.fr 28 (by decide) (by decide) (by decide) (by decide)
  have a26 : a5 26 = a4 26 := EA.fr 26 (by decide) (by decide) (by decide) (by decide)
  have m117 : b5 117 = b4 117 := EB.fr 117 (by decide) (by decide) (by decide) (by decide)
  have m124 : b5 124 = b4 124 := EB.fr 124 (by decide) (by decide) (by decide) (by decide)
  have m125 : b5 125 = b4 125 := EB.fr 125 (by decide) (by decide) (by decide) (by decide)
  have m126 : b5 126 = b4 126 := EB.fr 126 (by decide) (by decide) (by decide) (by decide)
  have c28o : ∀ k, 0 ≤ k → k < n → a5 28 k = a 28 k := fun k _ kn => by rw [a28]; exact o28 k (by omega)
  have a14 : a4 14 n = κ := by rw [M.fr 14 (by decide) (by decide) (by decide) (by decide) (by decide) (by decide) (by decide), A.f14, q_u_at]
  have ebt : b 114 = t := D.T.bt.2
  have e30 : a5 30 L = if κ = 4 then R + τ else R := by
    rw [EA.f30, a14]
    by_cases z : κ = 4
    · rw [if_pos z, if_pos z]; exact l4 z
    · rw [if_neg z, if_neg z, q_u_at]
  have core : zLs a5 b5 (n + 1) (L + 1) ∧ zPt a5 b5 (n + 1) (E + 1) (1 + 2 * E) := by
    by_cases leaf : κ = 4 ∨ κ = 6
    · obtain ⟨y1, y2, y3⟩ := lay leaf
      have k2 : b5 117 n = 4 ∨ b5 117 n = 6 := by rw [m117, k117n]; exact leaf
      have h26 : a5 26 n = L := by rw [a26]; exact c26 (by omega)
      have h28 : a5 28 n = 1 := by rw [a28]; exact c28 leaf
      refine ⟨D.Ls.new f5 (by omega) k2 (by rw [m124]; exact y1) c28o h26 h28 (by rw [m125, y2, e30]) (by rw [m126, y3]; exact hll.2.2.2.1) ?_ ?_ (fun z => ?_), ?_⟩
      · rw [e30]; by_cases z : κ = 4; · { rw [if_pos z]; have := w4 z; omega }; · { rw [if_neg z]; omega }
      · rw [e30]; by_cases z : κ = 4; · { rw [if_pos z]; have := w4 z; omega }; · { rw [if_neg z]; omega }
      · rw [m117, k117n] at z
        rw [m125, m126, y2, y3, ebt, if_neg (by omega)]; exact w6 z
      · by_cases z : κ = 4
        · rw [if_pos z] at e30
          have := w4 z
          exact (D.pt.new D.Ls f5 (w := E - (R + τ) + 1) (by omega) k2 c28o h26 h28 (by rw [e30]; omega)).le (by omega) (by omega)
        · rw [if_neg z] at e30
          exact (D.pt.new D.Ls f5 (w := E - R + 1) (by omega) k2 c28o h26 h28 (by rw [e30]; omega)).le (by omega) (by omega)
    · have l5 : b5 124 L = -1 := by rw [m124, nlay (by omega)]; exact D.lb
      have nw : ∀ k, n ≤ k → k < n + 1 → 4 ≤ b5 117 k → b5 117 k ≤ 6 → b5 117 k = 5 ∧ a5 26 k = L ∧ a5 28 k = 0 := by
        intro k u w h4 h6
        have e : k = n := by omega
        rw [e, m117, k117n] at h4 h6
        have k5 : κ = 5 := by omega
        rw [e, m117, k117n, a26, a28]
        exact ⟨k5, c26 (by omega), M.f28 k5⟩
      exact ⟨D.Ls.none f5 l5 c28o nw (by omega), (D.pt.none D.Ls f5 (by omega) c28o nw).le (by omega) (by omega)⟩
  have cv : (if i + 1 ≤ i then c (i + 1) else n) = n := if_neg (by omega)
  by_cases op : κ = 4 ∨ κ = 7
  · have C4 := (CC op).fr (a' := a4) (b' := b4) rfl (fb 118 (by decide) (by decide)) (fb 119 (by decide) (by decide)) (fb 122 (by decide) (by decide))
    refine ⟨_, _, zLi.asm D F (by omega) B5 C4 core.1 core.2 nd4 nh4 nl4 (by omega) (by omega) EA EB rfl (fun z => ?_) (fun k u w => k117 k (by omega)) (fun k u w => ⟨by omega, lt⟩)⟩
    rw [k117 (c i) (by omega)] at z
    have := D.S.ki.1
    omega
  · have C4 := (CO op).fr (a' := a4) (b' := b4) rfl (fb 118 (by decide) (by decide)) (fb 119 (by decide) (by decide)) (fb 122 (by decide) (by decide))
    refine ⟨_, _, zLi.asm D F (by omega) B5 C4 core.1 core.2 nd4 nh4 nl4 (by omega) (by omega) EA EB rfl (fun z => ?_) (fun k u w => k117 k (by omega)) (fun k u w => ⟨by omega, lt⟩)⟩
    show zF a4 b4 (if i + 1 ≤ i then c (i + 1) else n) + a4 28 (if i + 1 ≤ i then c (i + 1) else n) = L + 1
    rw [cv]
    unfold zF
    rw [k117n, c26 (by omega)]
    by_cases k5 : κ = 5
    · rw [if_pos k5, M.f28 k5]; omega
    · rw [if_neg k5, c28 (by omega)]; omega
end Cases
