/-! Steps of reading: plain characters, escapes, code, brackets that open, stars. -/
section ScanB
variable {X : Nat × (Nat → Int32)} {a a' b b' s : qM} {K : qM → Prop} {n m p R P P1 : Int} {q : Nat} {S rho : Int → Int}
theorem zSc.upd (H : zSc a b n m S p q R rho P) {p1 R1 : Int} {q1 : Nat} {S1 rho1 : Int → Int} (fa : ∀ r, r < 48 ∨ r = 49 ∨ r = 50 → a' r = a r) (fb : ∀ r, r ≠ 113 → r < 141 ∨ 150 < r → b' r = b r) (f113 : ∀ j, j ≠ 33 → j ≠ 41 → b' 113 j = b 113 j) (Z1 : zPc (a' 48) b' S1 p1 q1) (N1 : zRn a' b' S1 p1 q1 0 R1 rho1 0) (nn1 : b' 113 41 = q1 ∧ b' 113 33 = p1 ∧ S1 p1 = P1 ∧ P ≤ P1 ∧ P1 ≤ m)
    (un1 : ∀ r, 0 ≤ r → r < R1 → b' 147 (rho1 r) = 0 ∧ zCw b' (rho1 r) q1 = 0 ∧ zOu b' (rho1 r) q1 = 0) (rest1 : ∀ i, P1 ≤ i → i < m → a' 48 i = 0) (sg1 : ∀ i, 0 ≤ i → i < m → a' 48 i = 12 ∨ a 50 i = -1) (lk1 : ∀ k, 0 ≤ k → k < p1 → b' 141 k = 4 → b 141 k = 4 ∧ k < p ∧ b' 143 k = b 143 k ∧ S1 k = S k)
    (b0 : 0 ≤ a' 51 1 ∧ a' 51 1 ≤ P1) (b1 : ∀ i, 0 ≤ i → i < a' 51 1 → ∃ k, 0 ≤ k ∧ k < p1 ∧ b' 141 k = 3 ∧ a' 52 i = S1 k) (b2 : ∀ i j, 0 ≤ i → i < j → j < a' 51 1 → a' 52 i < a' 52 j) (b3 : ∀ k, 0 ≤ k → k < p1 → b' 141 k = 3 → ∃ i, 0 ≤ i ∧ i < a' 51 1 ∧ a' 52 i = S1 k) (dp1 : ∀ j : Nat, (j : Int) ≤ p1 → 0 ≤ zDp b' j) : zSc a' b' n m S1 p1 q1 R1 rho1 P1 := by
  obtain ⟨n1, n2, n3, n4, n5, n6⟩ := H.nn
  have e117 : b' 117 = b 117 := fb 117 (by decide) (by omega)
  refine zSc.mk ?_ ?_ ?_ ?_ Z1 N1 ?_ un1 (fun i u v => ⟨rest1 i u v, ?_⟩) (fun i u v => by rw [fa 50 (by omega)]; exact sg1 i u v) (fun k u v w => ?_) b0 b1 b2 b3 dp1
  · refine zWr.mk H.W.m0 ?_ ?_
    · rw [fa 45 (by omega), f113 28 (by decide) (by decide)]; exact H.W.sz
    · rw [fa 46 (by omega), fb 138 (by decide) (by omega)]; exact H.W.ch
  · exact H.nd.fr (Int.le_refl n) (by rw [fa 37 (by omega)]) (fa 38 (by omega)) (fa 36 (by omega)) (fun k _ _ => by rw [e117]) (fun k x y => by omega) (fun j _ => by rw [fb 130 (by decide) (by omega)])
  · exact H.nh.fr (Int.le_refl n) (by rw [fa 41 (by omega)]) (fa 42 (by omega)) (fa 40 (by omega)) (fun k _ _ => by rw [e117]) (fun k x y => by omega) (fun j _ => by rw [fb 130 (by decide) (by omega)])
  · rw [fa 37 (by omega), fa 41 (by omega), f113 4 (by decide) (by decide)]; exact H.nl
  · rw [fa 47 (by omega), fa 49 (by omega)]; exact ⟨nn1.1, nn1.2.1, n3, n4, nn1.2.2.1, nn1.2.2.2.2⟩
  · rw [fa 50 (by omega)]; exact (H.rest i (by omega) v).2
  · obtain ⟨w1, w2, w3, w4⟩ := lk1 k u v w
    have h := H.lk k u w2 w1
    unfold zLk at h ⊢
    rw [fa 50 (by omega), fa 37 (by omega), fa 38 (by omega), fa 41 (by omega), fa 42 (by omega), w3, e117, w4]
    exact h
theorem zSc.dpq (H : zSc a b n m S p q R rho P) {τ : Int} (e141 : b' 141 = q_u (b 141) p τ) (ht : τ ≠ 5) : ∀ j : Nat, (j : Int) ≤ p + 1 → 0 ≤ zDp b' j := by
  have p0 := H.Z.p0
  intro j hj
  have e : ∀ k, k ≠ p → b' 141 k = b 141 k := fun k hk => by rw [e141, q_u_ne hk]
  by_cases z : (j : Int) ≤ p
  · rw [zDp_congr (b := b) j (fun i hi => e _ (by omega))]; exact H.dp j z
  · have ej : j = p.toNat + 1 := by omega
    rw [ej]
    show 0 ≤ zDp b' p.toNat + (if b' 141 ((p.toNat : Nat) : Int) = 4 then 1 else if b' 141 ((p.toNat : Nat) : Int) = 5 then -1 else 0)
    rw [zDp_congr (b := b) p.toNat (fun i hi => e _ (by omega)), show ((p.toNat : Nat) : Int) = p by omega, e141, q_u_at, if_neg ht]
    have := H.dp p.toNat (by omega)
    split <;> omega
/-- a [ -/
theorem zSc.openB (H : zSc a b n m S p q R rho P) (A : zAd b b' p 3 P 0) (lt : P < m) (hc : b 138 P = 91) (fa : ∀ r, r ≠ 51 → r ≠ 52 → a' r = a r) (f51 : a' 51 1 = a 51 1 + 1) (f52 : a' 52 = q_u (a 52) (a 51 1) P) : zSc a' b' n m (zS1 S p (P + 1)) (p + 1) q R rho (P + 1) ∧ zSf a a' b b' := by
  obtain ⟨n1, n2, n3, n4, n5, n6⟩ := H.nn
  have p0 := H.Z.p0
  have b00 := H.b0
  have e141 : ∀ k, k ≠ p → b' 141 k = b 141 k := fun k hk => by rw [A.t, q_u_ne hk]
  have ap : b' 141 p = 3 := by rw [A.t, q_u_at]
  have g : ∀ r, r ≠ 113 → r ≠ 141 → r ≠ 142 → r ≠ 143 → r ≠ 147 → b' r = b r := A.fr
  have cC : ∀ k (j : Nat), zCw b' k j = zCw b k j := fun k j => zCw_congr j (fun _ _ => ⟨by rw [g 149 (by decide) (by decide) (by decide) (by decide) (by decide)], by rw [g 150 (by decide) (by decide) (by decide) (by decide) (by decide)]⟩)
  have cO : ∀ k (j : Nat), zOu b' k j = zOu b k j := fun k j => zOu_congr j (fun _ _ => ⟨by rw [g 148 (by decide) (by decide) (by decide) (by decide) (by decide)], by rw [g 150 (by decide) (by decide) (by decide) (by decide) (by decide)]⟩)
  have f48 : a' 48 = a 48 := fa 48 (by decide) (by decide)
  have rst := H.rest P (Int.le_refl P) lt
  have Z1 : zPc (a' 48) b' (zS1 S p (P + 1)) (p + 1) q := by
    refine H.Z.app (τ := 3) (by omega) (fun i _ => by rw [f48]) (g 138 (by decide) (by decide) (by decide) (by decide) (by decide)) A.t (fun k hk => by rw [A.v2, q_u_ne hk]) (fun k hk => by rw [A.v3, q_u_ne hk]) (fun k _ => by rw [g 146 (by decide) (by decide) (by decide) (by decide) (by decide)]) (g 148 (by decide) (by decide) (by decide) (by decide) (by decide)) (g 149 (by decide) (by decide) (by decide) (by decide) (by decide)) (g 150 (by decide) (by decide) (by decide) (by decide) (by decide)) (by decide) (by decide) (fun z => by omega) (fun _ => ?_) (fun z => by omega) (by decide) (fun z => by omega) (fun z => by omega)
    rw [A.v2, q_u_at, f48, n5]; exact ⟨rfl, rst.1, rfl, hc⟩
  have N1 : zRn a' b' (zS1 S p (P + 1)) (p + 1) q 0 R rho 0 := by
    refine zRn.mk ?_ (fun r u v => ?_) H.N.mo (fun r u v => ?_) (fun r u v => ?_) (fun r u v => ?_) (fun k u v w y => ?_)
    · rw [fa 54 (by decide) (by decide), fa 56 (by decide) (by decide), fa 58 (by decide) (by decide), fa 60 (by decide) (by decide), fa 62 (by decide) (by decide)]; exact H.N.sz
    · obtain ⟨g1, g2, g3⟩ := H.N.rg r u v
      exact ⟨g1, by omega, by rw [e141 _ (by omega)]; exact g3⟩
    · obtain ⟨g1, g2, g3⟩ := H.N.rg r u v
      rw [fa 59 (by decide) (by decide), fa 61 (by decide) (by decide), fa 63 (by decide) (by decide), A.v3, q_u_ne (by omega), g 144 (by decide) (by decide) (by decide) (by decide) (by decide), g 145 (by decide) (by decide) (by decide) (by decide) (by decide), A.d, q_u_ne (by omega)]
      exact H.N.dt r u v
    · obtain ⟨g1, g2, g3⟩ := H.N.rg r u v
      rw [fa 55 (by decide) (by decide), cC, zS1_lo (by omega)]; exact H.N.bg r u v
    · obtain ⟨g1, g2, g3⟩ := H.N.rg r u v
      rw [fa 55 (by decide) (by decide), fa 57 (by decide) (by decide), cO, zS1_lo (by omega), A.d, q_u_ne (by omega), g 144 (by decide) (by decide) (by decide) (by decide) (by decide)]; exact H.N.en r u v
    · by_cases e : k = p
      · rw [e, ap] at w; omega
      · rw [e141 k e] at w
        rw [A.d, q_u_ne e] at y
        exact H.N.lv k u (by omega) w y
  refine ⟨H.upd (fun r hr => fa r (by omega) (by omega)) (fun r x y => g r x (by omega) (by omega) (by omega) (by omega)) (fun j x _ => A.f113 j x) Z1 N1 ⟨by rw [A.f113 41 (by decide)]; exact n1, A.f33, zS1_hi, by omega, by omega⟩ (fun r u v => ?_) (fun i u v => by rw [f48]; exact (H.rest i (by omega) v).1) (fun i u v => by rw [f48]; exact H.sg i u v) (fun k u v w => ?_) (by omega) (fun i u v => ?_) (fun i j u v w => ?_) (fun k u v w => ?_) (H.dpq A.t (by decide)), zSf.mk (fun r hr => fa r (by omega) (by omega)) (fun r x y => g r x (by omega) (by omega) (by omega) (by omega)) (fun j x _ => A.f113 j x)⟩
  · obtain ⟨g1, g2, g3⟩ := H.N.rg r u v
    rw [A.d, q_u_ne (by omega), cC, cO]; exact H.un r u v
  · have e : k ≠ p := fun z => by rw [z, ap] at w; omega
    rw [e141 k e] at w
    exact ⟨w, by omega, by rw [A.v3, q_u_ne e], zS1_lo (by omega)⟩
  · by_cases e : i = a 51 1
    · exact ⟨p, p0, by omega, ap, by rw [f52, e, q_u_at, zS1_lo (Int.le_refl p), n5]⟩
    · obtain ⟨k, k0, kp, kt, ke⟩ := H.b1 i u (by omega)
      exact ⟨k, k0, by omega, by rw [e141 k (by omega)]; exact kt, by rw [f52, q_u_ne e, zS1_lo (by omega)]; exact ke⟩
  · rw [f52, q_u_ne (show i ≠ a 51 1 by omega)]
    by_cases e : j = a 51 1
    · rw [e, q_u_at]
      obtain ⟨k, k0, kp, kt, ke⟩ := H.b1 i u (by omega)
      have := H.Z.sep2 k0 kp (Int.le_refl p)
      have := H.Z.mono k k0 kp
      omega
    · rw [q_u_ne e]; exact H.b2 i j u v (by omega)
  · by_cases e : k = p
    · exact ⟨a 51 1, b00.1, by omega, by rw [f52, q_u_at, e, zS1_lo (Int.le_refl p), n5]⟩
    · rw [e141 k e] at w
      obtain ⟨i, i0, hi, ie⟩ := H.b3 k u (by omega) w
      exact ⟨i, i0, by omega, by rw [f52, q_u_ne (by omega), zS1_lo (by omega)]; exact ie⟩
/-- a run of * -/
theorem zSc.star (H : zSc a b n m S p q R rho P) {op cl : Int} (ho : op = 0 ∨ op = 1) (hcl : cl = 0 ∨ cl = 1) (lt : P < P1) (P1m : P1 ≤ m) (hc : ∀ i, P ≤ i → i < P1 → b 138 i = 42) (hR : R < 240) (fa : ∀ r, r < 54 ∨ 63 < r → a' r = a r) (sz : a' 54 1 = R + 1 ∧ a' 56 1 = R + 1 ∧ a' 58 1 = R + 1 ∧ a' 60 1 = R + 1 ∧ a' 62 1 = R + 1)
    (f55 : a' 55 = q_u (a 55) R P) (f57 : a' 57 = q_u (a 57) R P1) (f59 : a' 59 = q_u (a 59) R (P1 - P)) (f61 : a' 61 = q_u (a 61) R op) (f63 : a' 63 = q_u (a 63) R cl)
    (fr : ∀ r, r ≠ 113 → r < 141 ∨ 147 < r → b' r = b r) (f113 : ∀ j, j ≠ 33 → b' 113 j = b 113 j) (f33 : b' 113 33 = p + 1) (e141' : b' 141 = q_u (b 141) p 1) (e142 : b' 142 = q_u (b 142) p P) (e143 : b' 143 = q_u (b 143) p (P1 - P)) (e144 : b' 144 = q_u (b 144) p op) (e145 : b' 145 = q_u (b 145) p cl) (e146 : b' 146 = q_u (b 146) p (P1 - P)) (e147 : b' 147 = q_u (b 147) p 0) : zSc a' b' n m (zS1 S p P1) (p + 1) q (R + 1) (fun r => if r < R then rho r else p) P1 ∧ zSf a a' b b' := by
  obtain ⟨n1, n2, n3, n4, n5, n6⟩ := H.nn
  have p0 := H.Z.p0
  have b00 := H.b0
  have Rr := H.N.sz
  have e141 : ∀ k, k ≠ p → b' 141 k = b 141 k := fun k hk => by rw [e141', q_u_ne hk]
  have ap : b' 141 p = 1 := by rw [e141', q_u_at]
  have cC : ∀ k (j : Nat), zCw b' k j = zCw b k j := fun k j => zCw_congr j (fun _ _ => ⟨by rw [fr 149 (by decide) (by omega)], by rw [fr 150 (by decide) (by omega)]⟩)
  have cO : ∀ k (j : Nat), zOu b' k j = zOu b k j := fun k j => zOu_congr j (fun _ _ => ⟨by rw [fr 148 (by decide) (by omega)], by rw [fr 150 (by decide) (by omega)]⟩)
  have zc : ∀ j : Nat, j ≤ q → zCw b p j = 0 ∧ zOu b p j = 0 := by
    intro j
    induction j with
    | zero => intro _; exact ⟨rfl, rfl⟩
    | succ j ih =>
      intro hj
      have hp := H.Z.pr j (by omega)
      have h := ih (by omega)
      refine ⟨?_, ?_⟩
      · show zCw b p j + (if b 149 (j : Int) = p then zWd b j else 0) = 0
        rw [h.1, if_neg (by omega)]; rfl
      · show zOu b p j + (if b 148 (j : Int) = p then zWd b j else 0) = 0
        rw [h.2, if_neg (by omega)]; rfl
  have zp := zc q (Nat.le_refl q)
  have f48 : a' 48 = a 48 := fa 48 (by omega)
  have Z1 : zPc (a' 48) b' (zS1 S p P1) (p + 1) q := by
    refine H.Z.app (τ := 1) (by omega) (fun i _ => by rw [f48]) (fr 138 (by decide) (by omega)) e141' (fun k hk => by rw [e142, q_u_ne hk]) (fun k hk => by rw [e143, q_u_ne hk]) (fun k hk => by rw [e146, q_u_ne hk]) (fr 148 (by decide) (by omega)) (fr 149 (by decide) (by omega)) (fr 150 (by decide) (by omega)) (by decide) (by decide) (fun z => by omega) (fun z => by omega) (fun z => by omega) (by decide) (fun z => by omega) (fun _ => ?_)
    rw [e143, e146, q_u_at, q_u_at, f48, n5]
    exact ⟨rfl, rfl, hc, fun i u v => (H.rest i u (by omega)).1⟩
  have lo : ∀ r, r < R → (fun r => if r < R then rho r else p) r = rho r := fun r h => if_pos h
  have N1 : zRn a' b' (zS1 S p P1) (p + 1) q 0 (R + 1) (fun r => if r < R then rho r else p) 0 := by
    refine zRn.mk ⟨sz.1, sz.2.1, sz.2.2.1, sz.2.2.2.1, sz.2.2.2.2, by omega, by omega, by omega⟩ (fun r u v => ?_) (fun r r' u v w => ?_) (fun r u v => ?_) (fun r u v => ?_) (fun r u v => ?_) (fun k u v w y => ?_)
    · show 0 ≤ (if r < R then rho r else p) ∧ (if r < R then rho r else p) < p + 1 ∧ b' 141 (if r < R then rho r else p) = 1
      by_cases e : r < R
      · obtain ⟨g1, g2, g3⟩ := H.N.rg r u e
        rw [if_pos e]; exact ⟨g1, by omega, by rw [e141 _ (by omega)]; exact g3⟩
      · rw [if_neg e]; exact ⟨p0, by omega, ap⟩
    · show (if r < R then rho r else p) < (if r' < R then rho r' else p)
      rw [if_pos (by omega)]
      by_cases e : r' < R
      · rw [if_pos e]; exact H.N.mo r r' u v e
      · rw [if_neg e]; exact (H.N.rg r u (by omega)).2.1
    · show a' 59 r = b' 143 (if r < R then rho r else p) ∧ a' 61 r = b' 144 (if r < R then rho r else p) ∧ a' 63 r = b' 145 (if r < R then rho r else p) ∧ (b' 144 (if r < R then rho r else p) = 0 ∨ b' 144 (if r < R then rho r else p) = 1) ∧ (b' 145 (if r < R then rho r else p) = 0 ∨ b' 145 (if r < R then rho r else p) = 1) ∧ (b' 147 (if r < R then rho r else p) = 0 ∨ b' 147 (if r < R then rho r else p) = 1)
      by_cases e : r < R
      · obtain ⟨g1, g2, g3⟩ := H.N.rg r u e
        rw [if_pos e, f59, f61, f63, q_u_ne (by omega), q_u_ne (by omega), q_u_ne (by omega), e143, e144, e145, e147, q_u_ne (by omega), q_u_ne (by omega), q_u_ne (by omega), q_u_ne (by omega)]
        exact H.N.dt r u e
      · rw [if_neg e, show r = R by omega, f59, f61, f63, e143, e144, e145, e147, q_u_at, q_u_at, q_u_at, q_u_at, q_u_at, q_u_at, q_u_at]
        exact ⟨rfl, rfl, rfl, ho, hcl, Or.inl rfl⟩
    · show a' 55 r = zS1 S p P1 (if r < R then rho r else p) + zCw b' (if r < R then rho r else p) q
      by_cases e : r < R
      · obtain ⟨g1, g2, g3⟩ := H.N.rg r u e
        rw [if_pos e, f55, q_u_ne (by omega), cC, zS1_lo (by omega)]; exact H.N.bg r u e
      · rw [if_neg e, show r = R by omega, f55, q_u_at, cC, zp.1, zS1_lo (Int.le_refl p)]; omega
    · show (b' 147 (if r < R then rho r else p) = 0 → a' 57 r = zS1 S p P1 ((if r < R then rho r else p) + 1) - zOu b' (if r < R then rho r else p) q) ∧ (b' 147 (if r < R then rho r else p) = 1 → a' 57 r = a' 55 r ∨ (b' 144 (if r < R then rho r else p) = 0 ∧ a' 57 r = zS1 S p P1 ((if r < R then rho r else p) + 1) - zOu b' (if r < R then rho r else p) q))
      by_cases e : r < R
      · obtain ⟨g1, g2, g3⟩ := H.N.rg r u e
        rw [if_pos e, f55, f57, q_u_ne (by omega), q_u_ne (by omega), cO, zS1_lo (by omega), e147, e144, q_u_ne (by omega), q_u_ne (by omega)]; exact H.N.en r u e
      · rw [if_neg e, show r = R by omega, f57, q_u_at, cO, zp.2, zS1_hi, e147, q_u_at]
        exact ⟨fun _ => by omega, fun z => absurd z (by decide)⟩
    · by_cases e : k = p
      · exact ⟨R, by omega, by omega, by show (if R < R then rho R else p) = k; rw [if_neg (by omega), e]⟩
      · rw [e141 k e] at w
        rw [e147, q_u_ne e] at y
        obtain ⟨r, r0, hr, er⟩ := H.N.lv k u (by omega) w y
        exact ⟨r, r0, by omega, by show (if r < R then rho r else p) = k; rw [if_pos hr]; exact er⟩
  have F : zSf a a' b b' := zSf.mk (fun r hr => fa r (by omega)) (fun r x y => fr r x (by omega)) (fun j x _ => f113 j x)
  refine ⟨H.upd (fun r hr => fa r (by omega)) (fun r x y => fr r x (by omega)) (fun j x _ => f113 j x) Z1 N1 ⟨by rw [f113 41 (by decide)]; exact n1, f33, zS1_hi, by omega, P1m⟩ (fun r u v => ?_) (fun i u v => by rw [f48]; exact (H.rest i (by omega) v).1) (fun i u v => by rw [f48]; exact H.sg i u v) (fun k u v w => ?_) (by rw [fa 51 (by omega)]; omega) (fun i u v => ?_) (fun i j u v w => ?_) (fun k u v w => ?_) (H.dpq e141' (by decide)), F⟩
  · show b' 147 (if r < R then rho r else p) = 0 ∧ zCw b' (if r < R then rho r else p) q = 0 ∧ zOu b' (if r < R then rho r else p) q = 0
    by_cases e : r < R
    · obtain ⟨g1, g2, g3⟩ := H.N.rg r u e
      rw [if_pos e, e147, q_u_ne (by omega), cC, cO]; exact H.un r u e
    · rw [if_neg e, e147, q_u_at, cC, cO]; exact ⟨rfl, zp.1, zp.2⟩
  · have e : k ≠ p := fun z => by rw [z, ap] at w; omega
    rw [e141 k e] at w
    exact ⟨w, by omega, by rw [e143, q_u_ne e], zS1_lo (by omega)⟩
  · rw [fa 51 (by omega)] at v
    obtain ⟨k, k0, kp, kt, ke⟩ := H.b1 i u v
    exact ⟨k, k0, by omega, by rw [e141 k (by omega)]; exact kt, by rw [fa 52 (by omega), zS1_lo (by omega)]; exact ke⟩
  · rw [fa 51 (by omega)] at w; rw [fa 52 (by omega)]; exact H.b2 i j u v w
  · have e : k ≠ p := fun z => by rw [z, ap] at w; omega
    rw [e141 k e] at w
    obtain ⟨i, i0, hi, ie⟩ := H.b3 k u (by omega) w
    exact ⟨i, i0, by rw [fa 51 (by omega)]; exact hi, by rw [fa 52 (by omega), zS1_lo (by omega)]; exact ie⟩
end ScanB
